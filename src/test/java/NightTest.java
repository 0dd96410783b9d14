/** Promises 19 to 22 and 26: calls, how a night is gone through by the rules, what is told of it. */
final class NightTest {
    public static void main(String[] args) {
        callsThatAreRefused();
        fortyANight();
        fourHundredInAll();
        goOnce();
        withoutShifts();
        nobodyBehindTheShift();
        talkingOnBehindTheShift();
        endOfTheNight();
        orderByNeedAndNumber();
        orderByFirstRules();
        leastTalkedTakes();
        barsHold();
        stepRules();
        stepRuleByTalked();
        dropRules();
        restRules();
        knownCallers();
        arithmeticWraps();
        rulesOfThen();
        counts();
        Check.end();
    }

    /** Both are there in hours 0 to 2 of night 0; both have step 0. */
    private static FriendLine pair() {
        FriendLine x = Lines.team(2);
        Lines.open(x, 7);
        return x;
    }

    private static void callsThatAreRefused() {
        FriendLine x = new FriendLine();
        Check.same("minute -1", x.call(-1, 0, 0, 0, 1), -1);
        Check.same("minute 360", x.call(360, 0, 0, 0, 1), -1);
        Check.same("caller -1", x.call(0, -1, 0, 0, 1), -1);
        Check.same("caller 20", x.call(0, 20, 0, 0, 1), -1);
        Check.same("need -1", x.call(0, 0, -1, 0, 1), -1);
        Check.same("need 10", x.call(0, 0, 10, 0, 1), -1);
        Check.same("topic -1", x.call(0, 0, 0, -1, 1), -1);
        Check.same("topic 8", x.call(0, 0, 0, 8, 1), -1);
        Check.same("length 0", x.call(0, 0, 0, 0, 0), -1);
        Check.same("length 91", x.call(0, 0, 0, 0, 91), -1);
        Check.same("count(3)", x.count(3), 0);
        Check.same("the least of all", x.call(0, 0, 0, 0, 1), 0);
        Check.same("the most of all", x.call(359, 19, 9, 7, 90), 1);
        Check.same("told(1, 5)", x.told(1, 5), 19);
        Check.same("told(1, 0)", x.told(1, 0), 0);
        Lines.told(x, 1, 0, -1, -1, -1);
        Check.same("told(1, 6)", x.told(1, 6), -1);
        Check.same("told(1, -1)", x.told(1, -1), -1);
        Check.same("told(2, 0)", x.told(2, 0), -1);
        Check.same("told(-1, 0)", x.told(-1, 0), -1);
        x.go();
        Check.same("call in a night gone through", x.call(0, 0, 0, 0, 1), -1);
        x.clock(3);
        Check.same("call in night 3", x.call(0, 0, 0, 0, 1), 2);
        Check.same("told(2, 0)", x.told(2, 0), 3);
    }

    private static void fortyANight() {
        FriendLine x = new FriendLine();
        for (int i = 0; i < 40; i++) {
            Check.same("call " + i, x.call(i, 0, 0, 0, 1), i);
        }
        Check.same("a 41st", x.call(0, 0, 0, 0, 1), -1);
        x.clock(0);
        Check.same("a 41st, the clock stood", x.call(0, 0, 0, 0, 1), -1);
        x.clock(1);
        Check.same("one in the next night", x.call(0, 0, 0, 0, 1), 40);
    }

    private static void fourHundredInAll() {
        FriendLine x = new FriendLine();
        for (int i = 0; i < 400; i++) {
            if (i % 40 == 0) {
                x.clock(i / 40);
            }
            Check.same("call " + i, x.call(0, 0, 0, 0, 1), i);
        }
        x.clock(10);
        Check.same("a 401st", x.call(0, 0, 0, 0, 1), -1);
        Check.same("count(3)", x.count(3), 400);
        Check.same("go()", x.go(), 0);
        Check.same("told(399, 1): passed by", x.told(399, 1), 0);
    }

    private static void goOnce() {
        FriendLine x = pair();
        Check.same("talked(0, 0) ahead of it", x.talked(0, 0), -1);
        Check.same("go()", x.go(), 0);
        Check.same("go() again", x.go(), -1);
        Check.same("talked(0, 0)", x.talked(0, 0), 0);
        Check.same("talked(2, 0)", x.talked(2, 0), -1);
        Check.same("talked(-1, 0)", x.talked(-1, 0), -1);
        Check.same("talked(0, -1)", x.talked(0, -1), -1);
        Check.same("talked(0, 200)", x.talked(0, 200), -1);
        x.clock(1);
        Check.same("talked(0, 1)", x.talked(0, 1), -1);
        Check.same("go() in night 1", x.go(), 0);
        Check.same("count(9)", x.count(9), 2);
    }

    private static void withoutShifts() {
        FriendLine x = new FriendLine();
        x.volunteer(0);
        x.volunteer(0);
        x.offer(0, 63, 3);
        x.offer(1, 63, 3);
        x.call(0, 0, 9, 0, 1);
        Check.same("go() without shifts", x.go(), 0);
        Lines.told(x, 0, 3, -1, -1, -1);
    }

    private static void nobodyBehindTheShift() {
        FriendLine x = pair();
        x.call(179, 0, 1, 0, 1);
        x.call(180, 0, 1, 0, 1);
        Check.same("go()", x.go(), 1);
        Lines.told(x, 0, 1, 0, 179, 180);
        Lines.told(x, 1, 3, -1, -1, -1);
    }

    private static void talkingOnBehindTheShift() {
        FriendLine x = pair();
        x.call(170, 0, 1, 0, 50);
        Check.same("go()", x.go(), 1);
        Lines.told(x, 0, 1, 0, 170, 220);
        Check.same("talked(0, 0)", x.talked(0, 0), 50);
    }

    private static void endOfTheNight() {
        FriendLine x = new FriendLine();
        x.volunteer(0);
        x.volunteer(0);
        x.step(-1, 1);
        x.learn(0, 0);
        x.offer(0, 32, 1);
        x.offer(1, 32, 1);
        x.shifts();
        x.call(359, 0, 8, 0, 90);
        x.call(359, 1, 2, 0, 5);
        x.call(359, 2, 1, 0, 5);
        x.call(350, 3, 1, 0, 10);
        Check.same("go()", x.go(), 2);
        Lines.told(x, 0, 1, 1, 359, 449);
        Lines.told(x, 1, 3, -1, -1, -1);
        Lines.told(x, 3, 1, 0, 350, 360);
        Check.same("talked(0, 0)", x.talked(0, 0), 10);
        Check.same("talked(1, 0)", x.talked(1, 0), 90);
        x.clock(1);
        Check.same("due(1)", x.due(1), 1);
    }

    private static void orderByNeedAndNumber() {
        FriendLine x = pair();
        x.call(0, 0, 3, 0, 10);
        x.call(0, 1, 3, 0, 20);
        x.call(0, 2, 7, 0, 5);
        Check.same("go()", x.go(), 3);
        Lines.told(x, 2, 1, 0, 0, 5);
        Lines.told(x, 0, 1, 1, 0, 10);
        Lines.told(x, 1, 1, 0, 5, 25);
    }

    private static void orderByFirstRules() {
        FriendLine x = pair();
        Check.fine(x, "first 100 if topic==2; first 0-need; first 5000;");
        x.call(0, 0, 3, 0, 10);
        x.call(0, 1, 1, 0, 10);
        x.call(0, 2, 9, 2, 10);
        Check.same("go()", x.go(), 3);
        Lines.told(x, 2, 1, 0, 0, 10);
        Lines.told(x, 1, 1, 1, 0, 10);
        Lines.told(x, 0, 1, 0, 10, 20);
    }

    private static void leastTalkedTakes() {
        FriendLine x = pair();
        x.call(0, 0, 1, 0, 10);
        x.call(20, 0, 1, 0, 4);
        x.call(30, 0, 1, 0, 4);
        x.call(40, 0, 1, 0, 4);
        x.call(50, 0, 1, 0, 4);
        Check.same("go()", x.go(), 5);
        Lines.told(x, 0, 1, 0, 0, 10);
        Lines.told(x, 1, 1, 1, 20, 24);
        Lines.told(x, 2, 1, 1, 30, 34);
        Lines.told(x, 3, 1, 1, 40, 44);
        Lines.told(x, 4, 1, 0, 50, 54);
    }

    private static void barsHold() {
        FriendLine x = pair();
        x.bar(5, 0);
        x.bar(6, 0);
        x.bar(6, 1);
        x.call(0, 5, 1, 0, 10);
        x.call(1, 5, 1, 0, 10);
        x.call(0, 6, 9, 0, 10);
        Check.same("go()", x.go(), 2);
        Lines.told(x, 0, 1, 1, 0, 10);
        Lines.told(x, 1, 1, 1, 10, 20);
        Lines.told(x, 2, 3, -1, -1, -1);
    }

    private static void stepRules() {
        FriendLine x = pair();
        x.step(0, 1);
        x.step(-1, 9);
        x.learn(1, 1);
        Check.fine(x, "step 1 if topic==3; step 2 if topic==4; step 7 if topic==5; step 0 if 0==0;");
        x.call(0, 0, 1, 3, 10);
        x.call(1, 0, 1, 3, 10);
        x.call(2, 0, 1, 4, 10);
        x.call(2, 0, 1, 5, 10);
        x.call(2, 0, 1, 0, 10);
        Check.same("go()", x.go(), 3);
        Lines.told(x, 0, 1, 1, 0, 10);
        Lines.told(x, 1, 1, 1, 10, 20);
        Lines.told(x, 2, 3, -1, -1, -1);
        Lines.told(x, 3, 3, -1, -1, -1);
        Lines.told(x, 4, 1, 0, 2, 12);
    }

    private static void stepRuleByTalked() {
        FriendLine x = pair();
        Check.fine(x, "step 7 if 5<=talked;");
        x.call(0, 0, 1, 0, 5);
        x.call(1, 0, 1, 0, 4);
        x.call(10, 0, 1, 0, 4);
        x.call(20, 0, 1, 0, 4);
        Check.same("go()", x.go(), 3);
        Lines.told(x, 2, 1, 1, 10, 14);
        Lines.told(x, 3, 3, -1, -1, -1);
    }

    private static void dropRules() {
        FriendLine x = pair();
        Check.fine(x, "drop if 3<waited; drop if topic==6; drop if talked!=0;");
        x.call(0, 0, 9, 0, 20);
        x.call(0, 0, 9, 0, 20);
        x.call(5, 0, 1, 0, 20);
        x.call(5, 0, 1, 6, 20);
        x.call(17, 0, 1, 0, 20);
        Check.same("go()", x.go(), 3);
        Lines.told(x, 2, 2, -1, 9, -1);
        Lines.told(x, 3, 2, -1, 5, -1);
        Lines.told(x, 4, 1, 0, 20, 40);
    }

    private static void restRules() {
        FriendLine x = pair();
        x.bar(1, 1);
        Check.fine(x, "rest 7 if need==9 and waited==0; rest 60 if 30<=talked; rest 2 if need==5;");
        x.call(0, 1, 9, 0, 5);
        x.call(1, 1, 5, 0, 10);
        x.call(2, 1, 4, 0, 15);
        x.call(3, 1, 3, 0, 1);
        Check.same("go()", x.go(), 4);
        Lines.told(x, 0, 1, 0, 0, 5);
        Lines.told(x, 1, 1, 0, 12, 22);
        Lines.told(x, 2, 1, 0, 24, 39);
        Lines.told(x, 3, 1, 0, 99, 100);
    }

    private static void knownCallers() {
        FriendLine x = pair();
        x.call(0, 3, 1, 0, 1);
        x.call(0, 3, 1, 0, 1);
        x.call(200, 3, 1, 0, 1);
        Check.same("go()", x.go(), 2);
        x.clock(1);
        Lines.open(x, 7);
        Check.fine(x, "drop if known==2; first known;");
        x.call(0, 3, 1, 0, 1);
        x.call(0, 4, 1, 0, 1);
        x.call(5, 4, 1, 0, 1);
        Check.same("go(): calls of this night are not known yet", x.go(), 2);
        Lines.told(x, 3, 2, -1, 0, -1);
    }

    private static void arithmeticWraps() {
        FriendLine x = pair();
        Check.fine(x, "drop if 9999*9999*9999*need < 0 and topic==0; drop if 2-1-1==0 and 1+2*3==7 and (1+2)*3==9 "
                + "and 2*(3-1*(4-2))==2 and topic==1; drop if topic==2 and 1<1; drop if topic==3 and 1<=1;");
        for (int topic = 0; topic < 4; topic++) {
            x.call(0, 0, 1, topic, 1);
        }
        Check.same("go()", x.go(), 1);
        Lines.told(x, 0, 2, -1, 0, -1);
        Lines.told(x, 1, 2, -1, 0, -1);
        Lines.told(x, 2, 1, 0, 0, 1);
        Lines.told(x, 3, 2, -1, 0, -1);
    }

    private static void rulesOfThen() {
        FriendLine x = pair();
        Check.fine(x, "drop if 1==1;");
        x.call(0, 0, 1, 0, 1);
        Check.fine(x, "drop if 1==2;");
        Check.same("a fault", Check.read(x, "drop if 1==1; drop"), 1);
        Check.same("go()", x.go(), 1);
        Check.fine(x, "drop if 1==1;");
        Lines.told(x, 0, 1, 0, 0, 1);
    }

    private static void counts() {
        FriendLine x = pair();
        Check.fine(x, "drop if need==0;");
        x.call(0, 0, 0, 0, 1);
        x.call(0, 0, 1, 0, 1);
        x.call(0, 0, 1, 0, 1);
        x.call(355, 0, 1, 0, 1);
        x.go();
        x.clock(2);
        x.call(355, 0, 1, 0, 1);
        x.note(1, 0);
        x.feed(0, 0, 0, 0, 0);
        int[] due = {2, 1, 2, 5, 2, 1, 1, 1, 1, 1, 20, -1};
        for (int what = 0; what < due.length; what++) {
            Check.same("count(" + what + ")", x.count(what), due[what]);
        }
        Check.same("count(-1)", x.count(-1), -1);
    }
}
