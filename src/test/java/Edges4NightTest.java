import java.util.Arrays;

/** The edges of the document's terms, part IV: calls, and how a night is gone through minute by minute. */
final class Edges4NightTest {
    private static final int LAST_HOUR = 32;

    public static void main(String[] args) {
        onceWhenItIsTheClocks();
        withoutShifts();
        noCalls();
        fortyCalls();
        leastAndGreatestCalls();
        rulesOfThen();
        endsAreLooseInTheirMinute();
        restsOneMinute();
        restsSixtyMinutes();
        firstRestRuleThatHolds();
        comesInItsMinute();
        droppedAheadOfTaken();
        takenIsNotDropped();
        greatestFirstAhead();
        fortyInLine();
        lesserNumberAhead();
        firstRuleThatHolds();
        needWithoutFirstRule();
        onesWithoutAVolunteerDoNotBlock();
        thereInTheHour();
        doesNotTalk();
        barred();
        stepInThisNight();
        eachStepRuleThatHolds();
        stepThatIsNotThere();
        talkedLeast();
        lesserVolunteer();
        lengthOfACall();
        talksOnBehindItsShift();
        lastMinute();
        endsInTheLastMinute();
        restsToTheEnd();
        talkToTheirEnd();
        Check.end();
    }

    /** Volunteers 0 and 1 are there in these hours; callers 0 to 4 are barred from 1. */
    private static FriendLine one(int hours) {
        FriendLine x = Lines.team(2);
        Lines.openForOne(x, hours, 4);
        return x;
    }

    private static FriendLine two(int hours) {
        FriendLine x = Lines.team(2);
        Lines.open(x, hours);
        return x;
    }

    private static void onceWhenItIsTheClocks() {
        Check.about("A NIGHT is GONE THROUGH, once, when it is the CLOCK's");
        FriendLine x = two(1);
        x.call(0, 0, 1, 0, 1);
        Check.same("go()", x.go(), 1);
        Check.same("go() again", x.go(), -1);
        x.clock(0);
        Check.same("go() again, the clock stood", x.go(), -1);
        Check.same("count(9)", x.count(9), 1);
        x.clock(1);
        x.call(0, 0, 1, 0, 1);
        x.clock(2);
        Check.same("go() in 2", x.go(), 0);
        Check.same("told(1, 1): night 1 was passed by", x.told(1, 1), 0);
        Check.same("talked(0, 1)", x.talked(0, 1), -1);
        Check.same("count(9)", x.count(9), 2);
        x.clock(199);
        Check.same("go() in 199", x.go(), 0);
        Check.same("go() in 199 again", x.go(), -1);
    }

    private static void withoutShifts() {
        Check.about("by its SHIFTS (none, if they were not found)");
        FriendLine x = two(1);
        x.go();
        x.clock(1);
        x.offer(0, 63, 3);
        x.offer(1, 63, 3);
        x.call(0, 0, 9, 0, 1);
        Check.same("go()", x.go(), 0);
        Lines.left(x, 0);
        Check.same("there(0, 1)", x.there(0, 1), 0);
    }

    private static void noCalls() {
        Check.about("its CALLS (40 at most ..): none");
        FriendLine x = two(7);
        Check.same("go()", x.go(), 0);
        Check.same("talked(0, 0)", x.talked(0, 0), 0);
        Check.same("go() of a new line", new FriendLine().go(), 0);
    }

    private static void fortyCalls() {
        Check.about("its CALLS (40 at most ..)");
        FriendLine x = one(1);
        for (int i = 0; i < 40; i++) {
            Check.same("call " + i, x.call(0, 0, 1, 0, 1), i);
        }
        Check.same("a 41st", x.call(0, 0, 1, 0, 1), -1);
        Check.same("go()", x.go(), 40);
        for (int i = 0; i < 40; i++) {
            Lines.taken(x, i, 0, i, i + 1);
        }
        Check.same("talked(0, 0)", x.talked(0, 0), 40);
        x.clock(1);
        Check.same("the first in the next night", x.call(0, 0, 1, 0, 1), 40);
    }

    private static void leastAndGreatestCalls() {
        Check.about("a MINUTE, a CALLER, NEED 0 .. 9, TOPIC 0 .. 7, LENGTH 1 .. 90 MINUTES");
        FriendLine x = new FriendLine();
        int[][] refused = {{-1, 0, 0, 0, 1}, {360, 0, 0, 0, 1}, {0, -1, 0, 0, 1}, {0, 20, 0, 0, 1}, {0, 0, -1, 0, 1},
            {0, 0, 10, 0, 1}, {0, 0, 0, -1, 1}, {0, 0, 0, 8, 1}, {0, 0, 0, 0, 0}, {0, 0, 0, 0, 91}};
        for (int[] c : refused) {
            Check.same("call(" + Arrays.toString(c) + ")", x.call(c[0], c[1], c[2], c[3], c[4]), -1);
        }
        int[][] fine = {{0, 0, 0, 0, 1}, {359, 0, 0, 0, 1}, {0, 19, 0, 0, 1}, {0, 0, 9, 0, 1}, {0, 0, 0, 7, 1},
            {0, 0, 0, 0, 90}, {359, 19, 9, 7, 90}};
        for (int i = 0; i < fine.length; i++) {
            int[] c = fine[i];
            Check.same("call(" + Arrays.toString(c) + ")", x.call(c[0], c[1], c[2], c[3], c[4]), i);
        }
    }

    private static void rulesOfThen() {
        Check.about("the RULES of then");
        FriendLine x = new FriendLine();
        x.call(0, 0, 1, 0, 1);
        Check.fine(x, "drop if need==1;");
        x.go();
        Lines.dropped(x, 0, 0);
        Check.fine(x, "");
        Lines.dropped(x, 0, 0);
        x.clock(1);
        x.call(0, 0, 1, 0, 1);
        x.go();
        Lines.left(x, 1);
    }

    private static void endsAreLooseInTheirMinute() {
        Check.about("(1) calls that end in it leave their VOLUNTEER, who RESTS .. (none: 0)");
        FriendLine x = one(1);
        x.call(0, 0, 5, 0, 7);
        x.call(0, 0, 4, 0, 1);
        x.call(0, 0, 3, 0, 1);
        Check.same("go()", x.go(), 3);
        Lines.taken(x, 0, 0, 0, 7);
        Lines.taken(x, 1, 0, 7, 8);
        Lines.taken(x, 2, 0, 8, 9);
    }

    private static void restsOneMinute() {
        Check.about("RESTS: from this MINUTE on so many MINUTES as the first rest RULE says: 1");
        FriendLine x = one(1);
        Check.fine(x, "rest 1 if 1==1;");
        x.call(0, 0, 5, 0, 7);
        x.call(0, 0, 4, 0, 1);
        x.call(9, 0, 4, 0, 1);
        x.go();
        Lines.taken(x, 1, 0, 8, 9);
        Lines.taken(x, 2, 0, 10, 11);
    }

    private static void restsSixtyMinutes() {
        Check.about("RESTS: from this MINUTE on so many MINUTES as the first rest RULE says: 60");
        FriendLine x = one(3);
        Check.fine(x, "rest 60 if need==5;");
        x.call(0, 0, 5, 0, 59);
        x.call(0, 0, 4, 0, 1);
        x.go();
        Lines.taken(x, 1, 0, 119, 120);
        FriendLine y = one(3);
        Check.fine(y, "rest 60 if need==5;");
        y.call(0, 0, 5, 0, 60);
        y.call(0, 0, 4, 0, 1);
        y.go();
        Lines.left(y, 1);
    }

    private static void firstRestRuleThatHolds() {
        Check.about("as the first rest RULE says that holds");
        FriendLine x = one(7);
        Check.fine(x, "rest 9 if 1==2; rest 5 if need==5; rest 3 if need!=1; rest 8 if need==5; first 1;");
        x.call(0, 0, 5, 0, 1);
        x.call(0, 0, 4, 0, 1);
        x.call(0, 0, 1, 0, 1);
        x.call(0, 0, 3, 0, 1);
        x.go();
        Lines.taken(x, 1, 0, 6, 7);
        Lines.taken(x, 2, 0, 10, 11);
        Lines.taken(x, 3, 0, 11, 12);
    }

    private static void comesInItsMinute() {
        Check.about("(2) calls that come in it wait");
        FriendLine x = two(7);
        x.call(0, 0, 1, 0, 1);
        x.call(1, 0, 9, 0, 1);
        x.call(179, 0, 1, 0, 1);
        x.go();
        Lines.taken(x, 0, 0, 0, 1);
        Lines.taken(x, 1, 1, 1, 2);
        Lines.taken(x, 2, 0, 179, 180);
    }

    private static void droppedAheadOfTaken() {
        Check.about("(3) each call that waits .. of which a drop RULE holds is DROPPED");
        FriendLine x = one(1);
        Check.fine(x, "drop if 1==2; drop if need==9; drop if waited==5;");
        x.call(0, 0, 9, 0, 1);
        x.call(0, 0, 8, 0, 5);
        x.call(0, 0, 7, 0, 1);
        x.call(1, 0, 7, 0, 1);
        Check.same("go()", x.go(), 2);
        Lines.dropped(x, 0, 0);
        Lines.taken(x, 1, 0, 0, 5);
        Lines.dropped(x, 2, 5);
        Lines.taken(x, 3, 0, 5, 6);
    }

    private static void takenIsNotDropped() {
        Check.about("(3) each call that waits: no other one");
        FriendLine x = one(1);
        Check.fine(x, "drop if 1<=waited;");
        x.call(0, 0, 1, 0, 90);
        Check.same("go()", x.go(), 1);
        Lines.taken(x, 0, 0, 0, 90);
    }

    private static void greatestFirstAhead() {
        Check.about("(4) the calls that wait, the one with the greatest FIRST ahead");
        FriendLine x = one(1);
        Check.fine(x, "first topic-3;");
        for (int topic : new int[] {3, 0, 7, 2, 4}) {
            x.call(0, 0, 9 - topic, topic, 1);
        }
        x.call(3, 0, 0, 6, 1);
        Check.same("go()", x.go(), 6);
        int[] since = {2, 5, 0, 4, 1, 3};
        for (int call = 0; call < 6; call++) {
            Lines.taken(x, call, 0, since[call], since[call] + 1);
        }
    }

    private static void fortyInLine() {
        Check.about("(4) the one with the greatest FIRST ahead, of the same the lesser number: 40 of them");
        FriendLine x = one(1);
        Check.fine(x, "first 0-need*8+topic;");
        for (int call = 0; call < 40; call++) {
            x.call(0, 0, call % 5, call / 5, 1);
        }
        Check.same("go()", x.go(), 40);
        for (int call = 0; call < 40; call++) {
            int since = call % 5 * 8 + 7 - call / 5;
            Check.same("told(" + call + ", 3)", x.told(call, 3), since);
        }
    }

    private static void lesserNumberAhead() {
        Check.about("(4) of the same the lesser number");
        FriendLine x = one(1);
        Check.fine(x, "first 7;");
        x.call(2, 0, 1, 0, 1);
        x.call(0, 0, 5, 0, 3);
        x.call(1, 0, 9, 0, 1);
        x.call(0, 0, 9, 0, 1);
        Check.same("go()", x.go(), 4);
        Lines.taken(x, 1, 0, 0, 3);
        Lines.taken(x, 0, 0, 3, 4);
        Lines.taken(x, 2, 0, 4, 5);
        Lines.taken(x, 3, 0, 5, 6);
    }

    private static void firstRuleThatHolds() {
        Check.about("FIRST: the E of the first 'first' RULE that holds (or has no COND)");
        FriendLine x = one(1);
        Check.fine(x, "first 50 if topic==1; first 40 if topic==2 and need==2; first 0-1; first 99;");
        x.call(0, 0, 9, 0, 1);
        x.call(0, 0, 2, 2, 1);
        x.call(0, 0, 1, 2, 1);
        x.call(0, 0, 0, 1, 1);
        x.go();
        Lines.taken(x, 3, 0, 0, 1);
        Lines.taken(x, 1, 0, 1, 2);
        Lines.taken(x, 0, 0, 2, 3);
        Lines.taken(x, 2, 0, 3, 4);
    }

    private static void needWithoutFirstRule() {
        Check.about("FIRST: .. without one NEED");
        for (String text : new String[] {"", "drop if 1==2;", "first 0-need if 1==2;", "first 8-need if topic==1;"}) {
            FriendLine x = one(1);
            Check.fine(x, text);
            x.call(0, 0, 0, 0, 1);
            x.call(0, 0, 9, 0, 1);
            x.call(0, 0, 5, 0, 1);
            x.go();
            Lines.taken(x, 1, 0, 0, 1);
            Lines.taken(x, 2, 0, 1, 2);
            Lines.taken(x, 0, 0, 2, 3);
        }
    }

    private static void onesWithoutAVolunteerDoNotBlock() {
        Check.about("(4) get a VOLUNTEER each, if there is one");
        FriendLine x = two(1);
        x.bar(9, 0);
        x.bar(9, 1);
        x.bar(8, 0);
        x.call(0, 9, 9, 0, 1);
        x.call(0, 8, 8, 0, 1);
        x.call(0, 7, 7, 0, 1);
        x.call(0, 6, 6, 0, 1);
        Check.same("go()", x.go(), 3);
        Lines.left(x, 0);
        Lines.taken(x, 1, 1, 0, 1);
        Lines.taken(x, 2, 0, 0, 1);
        Lines.taken(x, 3, 0, 1, 2);
    }

    private static void thereInTheHour() {
        Check.about("who is there in the HOUR");
        for (int hour = 0; hour < 6; hour++) {
            FriendLine x = one(1 << hour);
            int first = hour * 60;
            int ahead = Math.max(0, first - 1);
            x.call(ahead, 0, 1, 0, 1);
            x.call(first + 59, 0, 1, 0, 1);
            int behind = Math.min(359, first + 60);
            x.call(behind, 0, 0, 0, 1);
            Check.same("go()", x.go(), 2);
            Lines.taken(x, 0, 0, first, first + 1);
            Lines.taken(x, 1, 0, first + 59, first + 60);
            Lines.left(x, 2);
        }
    }

    private static void doesNotTalk() {
        Check.about("who .. does not talk");
        FriendLine x = one(3);
        x.call(0, 0, 1, 0, 90);
        x.call(1, 0, 9, 0, 1);
        x.call(89, 0, 9, 0, 1);
        x.go();
        Lines.taken(x, 0, 0, 0, 90);
        Lines.taken(x, 1, 0, 90, 91);
        Lines.taken(x, 2, 0, 91, 92);
    }

    private static void barred() {
        Check.about("who .. is not BARRED from the CALLER");
        FriendLine x = two(1);
        Check.yes("bar(0, 0)", x.bar(0, 0));
        Check.yes("bar(1, 1)", x.bar(1, 1));
        x.call(0, 0, 9, 0, 5);
        x.call(0, 1, 8, 0, 5);
        x.call(1, 0, 9, 0, 5);
        x.call(10, 2, 9, 0, 5);
        Check.same("go()", x.go(), 4);
        Lines.taken(x, 0, 1, 0, 5);
        Lines.taken(x, 1, 0, 0, 5);
        Lines.taken(x, 2, 1, 5, 10);
        Lines.taken(x, 3, 0, 10, 15);
        Check.yes("bar(2, 0) behind it", x.bar(2, 0));
        Lines.taken(x, 3, 0, 10, 15);
    }

    private static void stepInThisNight() {
        Check.about("HAS, in this NIGHT, the STEP of each step RULE that holds");
        FriendLine x = Lines.team(2);
        x.step(0, 3);
        x.clock(10);
        x.learn(0, 1);
        Check.fine(x, "step 1 if topic==0;");
        for (int night = 10; night <= 13; night++) {
            x.clock(night);
            Lines.open(x, 1);
            int call = x.call(0, 0, 1, 0, 1);
            x.call(0, 0, 0, 1, 1);
            Check.same("go() in " + night, x.go(), night <= 12 ? 2 : 1);
            Check.same("told(" + call + ", 2)", x.told(call, 2), night <= 12 ? 0 : -1);
        }
    }

    private static void eachStepRuleThatHolds() {
        Check.about("the STEP of each step RULE that holds");
        FriendLine x = Lines.team(2);
        x.step(-1, 200);
        x.step(-1, 200);
        x.learn(0, 1);
        x.learn(1, 1);
        x.learn(1, 2);
        Lines.open(x, 1);
        Check.fine(x, "step 1 if need<=7; step 2 if need==7; step 3 if need==8; step 3 if need==1 and topic==1;");
        x.call(0, 0, 7, 0, 10);
        x.call(1, 0, 7, 0, 10);
        x.call(1, 0, 8, 0, 10);
        x.call(1, 0, 1, 0, 10);
        x.call(50, 0, 9, 0, 10);
        Check.same("go()", x.go(), 4);
        Lines.taken(x, 0, 1, 0, 10);
        Lines.taken(x, 1, 1, 10, 20);
        Lines.left(x, 2);
        Lines.taken(x, 3, 0, 1, 11);
        Lines.taken(x, 4, 0, 50, 60);
    }

    private static void stepThatIsNotThere() {
        Check.about("HAS .. the STEP of each step RULE that holds: nobody HAS one that is not there");
        FriendLine x = one(1);
        Check.fine(x, "step 7 if topic==7; step 1 if topic==1; step 0 if topic==0;");
        x.call(0, 0, 1, 7, 1);
        x.call(0, 0, 1, 1, 1);
        x.call(0, 0, 1, 0, 1);
        Check.same("go()", x.go(), 1);
        Lines.left(x, 0);
        Lines.left(x, 1);
        Lines.taken(x, 2, 0, 0, 1);
    }

    private static void talkedLeast() {
        Check.about("of these the one that talked least so far");
        for (int length = 4; length <= 6; length++) {
            FriendLine x = two(1);
            x.call(0, 0, 9, 0, 5);
            x.call(0, 0, 8, 0, length);
            x.call(10, 0, 1, 0, 1);
            x.go();
            Lines.taken(x, 2, length < 5 ? 1 : 0, 10, 11);
        }
        FriendLine y = two(7);
        y.call(0, 0, 9, 0, 60);
        y.call(59, 0, 9, 0, 1);
        y.call(60, 0, 9, 0, 59);
        y.call(119, 0, 9, 0, 1);
        y.go();
        Lines.taken(y, 1, 1, 59, 60);
        Lines.taken(y, 2, 1, 60, 119);
        Lines.taken(y, 3, 0, 119, 120);
    }

    private static void lesserVolunteer() {
        Check.about("of these the one that talked least so far, of the same the lesser number");
        FriendLine x = Lines.team(5);
        for (int v = 4; v >= 0; v--) {
            x.offer(v, 63, 3);
        }
        Check.same("shifts(): 3 and 2 in the first three hours", x.shifts(), 6);
        x.call(0, 0, 9, 0, 5);
        x.call(0, 0, 8, 0, 5);
        x.call(10, 0, 8, 0, 5);
        x.go();
        Lines.taken(x, 0, 2, 0, 5);
        Lines.taken(x, 1, 3, 0, 5);
        Lines.taken(x, 2, 2, 10, 15);
    }

    private static void lengthOfACall() {
        Check.about("The call ends LENGTH MINUTES behind");
        FriendLine x = two(3);
        x.call(0, 0, 9, 0, 1);
        x.call(0, 0, 8, 0, 90);
        x.go();
        Lines.taken(x, 0, 0, 0, 1);
        Lines.taken(x, 1, 1, 0, 90);
        Check.same("talked(0, 0)", x.talked(0, 0), 1);
        Check.same("talked(1, 0)", x.talked(1, 0), 90);
    }

    private static void talksOnBehindItsShift() {
        Check.about("a call's VOLUNTEER talks on behind its SHIFT");
        FriendLine x = one(1);
        x.call(59, 0, 1, 0, 90);
        x.call(60, 0, 1, 0, 1);
        Check.same("go()", x.go(), 1);
        Lines.taken(x, 0, 0, 59, 149);
        Lines.left(x, 1);
        Check.same("talked(0, 0)", x.talked(0, 0), 90);
        Check.same("there(0, 0)", x.there(0, 0), 1);
    }

    private static void lastMinute() {
        Check.about("Behind MINUTE 359 none is taken; those that still wait are LEFT");
        FriendLine x = one(LAST_HOUR);
        Check.fine(x, "drop if topic==7 and hour==5 and waited==359;");
        x.call(359, 0, 9, 0, 1);
        x.call(359, 0, 8, 0, 1);
        x.call(0, 5, 7, 7, 1);
        x.bar(5, 0);
        x.bar(5, 1);
        Check.same("go()", x.go(), 1);
        Lines.taken(x, 0, 0, 359, 360);
        Lines.left(x, 1);
        Lines.dropped(x, 2, 359);
        Check.same("count(4)", x.count(4), 1);
        Check.same("count(5)", x.count(5), 1);
        Check.same("count(6)", x.count(6), 1);
    }

    private static void endsInTheLastMinute() {
        Check.about("Behind MINUTE 359 none is taken: by one whose call ends in 359, or in 360");
        for (int length : new int[] {58, 59, 60}) {
            FriendLine x = one(LAST_HOUR);
            x.call(300, 0, 9, 0, length);
            x.call(300, 0, 8, 0, 1);
            Check.same("go()", x.go(), length < 60 ? 2 : 1);
            Lines.taken(x, 0, 0, 300, 300 + length);
            if (length < 60) {
                Lines.taken(x, 1, 0, 300 + length, 301 + length);
            } else {
                Lines.left(x, 1);
            }
        }
    }

    private static void restsToTheEnd() {
        Check.about("Behind MINUTE 359 none is taken: by one who RESTS till then");
        for (int rest : new int[] {48, 49, 50}) {
            FriendLine x = one(LAST_HOUR);
            Check.fine(x, "rest " + rest + " if 1==1;");
            x.call(300, 0, 9, 0, 10);
            x.call(300, 0, 8, 0, 1);
            x.go();
            if (rest < 50) {
                Lines.taken(x, 1, 0, 310 + rest, 311 + rest);
            } else {
                Lines.left(x, 1);
            }
        }
    }

    private static void talkToTheirEnd() {
        Check.about("those that talk talk to their end");
        FriendLine x = two(LAST_HOUR);
        x.call(359, 0, 9, 0, 90);
        x.call(301, 0, 1, 0, 59);
        Check.same("go()", x.go(), 2);
        Lines.taken(x, 0, 1, 359, 449);
        Lines.taken(x, 1, 0, 301, 360);
        Check.same("talked(0, 0)", x.talked(0, 0), 59);
        Check.same("talked(1, 0)", x.talked(1, 0), 90);
        x.clock(1);
        Check.same("due(1)", x.due(1), 1);
        Check.same("due(0)", x.due(0), 0);
        Check.yes("care(1)", x.care(1));
        Lines.open(x, 1);
        x.call(0, 0, 1, 0, 1);
        x.call(0, 0, 1, 0, 1);
        Check.same("go(): both are free in the next night", x.go(), 2);
        Lines.taken(x, 3, 1, 0, 1);
    }
}
