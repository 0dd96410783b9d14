/** The edges of the document's terms, part I: nights, minutes, volunteers, steps, callers, bars, care. */
final class Edges1TermsTest {
    public static void main(String[] args) {
        firstAndLastNight();
        weekdaysWrap();
        hoursOfMinutes();
        clockOnlyGoesOn();
        eightVolunteers();
        eightSteps();
        stepOfOneNight();
        stepOfAllNights();
        stepOfAllNightsButOne();
        learnedTwiceInOneNight();
        learnedAnew();
        learnedWhileTheOtherIsHad();
        chainOfEight();
        twentyCallers();
        barFromItsNightOn();
        barForEver();
        careByNeed();
        careFromTheNightBehind();
        careTillItIsGiven();
        careForNightsAheadAlone();
        Check.end();
    }

    private static void firstAndLastNight() {
        Check.about("NIGHTS go from 0 to 199");
        FriendLine x = Lines.team(2);
        Lines.open(x, 1);
        x.call(0, 0, 1, 0, 5);
        x.go();
        x.note(0, 0);
        x.clock(3);
        x.go();
        Check.yes("clock(199)", x.clock(199));
        Lines.open(x, 1);
        x.go();
        for (int night : new int[] {0, 199}) {
            Check.same("has in " + night, x.has(0, 0, night), 1);
            Check.same("there in " + night, x.there(0, night), 1);
            Check.same("lacks in " + night, x.lacks(night), 62);
            Check.same("talked in " + night, x.talked(0, night), night == 0 ? 5 : 0);
            Check.same("see in " + night, x.see(0, 0, night), 1);
            Check.same("foretold for " + night, x.foretold(0, night), night == 0 ? 100 : 0);
        }
        for (int night : new int[] {-1, 200}) {
            Check.same("has in " + night, x.has(0, 0, night), -1);
            Check.same("there in " + night, x.there(0, night), -1);
            Check.same("lacks in " + night, x.lacks(night), -1);
            Check.same("talked in " + night, x.talked(0, night), -1);
            Check.same("see in " + night, x.see(0, 0, night), -1);
            Check.same("foretold for " + night, x.foretold(0, night), -1);
            Check.no("holiday " + night, x.holiday(night));
            Check.no("clock " + night, x.clock(night));
        }
        FriendLine y = new FriendLine();
        Check.yes("holiday(0)", y.holiday(0));
        Check.yes("holiday(199)", y.holiday(199));
    }

    private static void weekdaysWrap() {
        Check.about("weekday: NIGHT % 7");
        FriendLine x = new FriendLine();
        for (int night = 0; night < 7; night++) {
            x.clock(night);
            for (int i = 0; i <= night; i++) {
                x.call(0, 0, 0, 0, 1);
            }
            x.go();
        }
        x.clock(7);
        for (int night = 0; night < 200; night++) {
            Check.same("foretold(0, " + night + ")", x.foretold(0, night), (night % 7 + 1) * 100);
        }
    }

    private static void hoursOfMinutes() {
        Check.about("A NIGHT has MINUTES 0 .. 359, HOUR: MINUTE / 60 (0 .. 5)");
        for (int minute : new int[] {0, 59, 60, 119, 120, 179, 180, 239, 240, 299, 300, 359}) {
            FriendLine x = new FriendLine();
            x.call(minute, 0, 0, 0, 1);
            x.go();
            x.clock(1);
            for (int hour = 0; hour < 6; hour++) {
                Check.same("foretold(" + hour + ", 7) by minute " + minute, x.foretold(hour, 7),
                        hour == minute / 60 ? 100 : 0);
            }
        }
        FriendLine y = new FriendLine();
        Check.same("minute -1", y.call(-1, 0, 0, 0, 1), -1);
        Check.same("minute 360", y.call(360, 0, 0, 0, 1), -1);
    }

    private static void clockOnlyGoesOn() {
        Check.about("The CLOCK's NIGHT only goes on");
        FriendLine x = new FriendLine();
        Check.yes("clock(100)", x.clock(100));
        Check.no("clock(99)", x.clock(99));
        Check.no("clock(0)", x.clock(0));
        Check.yes("clock(100): it may stand", x.clock(100));
        Check.yes("clock(101)", x.clock(101));
        Check.same("count(2)", x.count(2), 101);
    }

    private static void eightVolunteers() {
        Check.about("VOLUNTEERS, 8 at most, numbered from 0 on, RANK 0 .. 3");
        FriendLine x = new FriendLine();
        x.step(-1, 200);
        for (int v = 0; v <= 8; v++) {
            Check.same("has of " + v + " of none yet", x.has(v, 0, 0), -1);
            Check.same("volunteer of rank -1", x.volunteer(-1), -1);
            Check.same("volunteer of rank 4", x.volunteer(4), -1);
            Check.same("volunteer " + v, x.volunteer(v % 2 * 3), v < 8 ? v : -1);
        }
        Check.same("count(0)", x.count(0), 8);
        for (int v : new int[] {0, 7}) {
            Check.yes("learn of " + v, x.learn(v, 0));
            Check.same("has of " + v, x.has(v, 0, 0), 1);
            Check.yes("bar of " + v, x.bar(0, v));
            Check.same("due of " + v, x.due(v), 0);
            Check.same("offer of " + v, x.offer(v, 63, 3), v / 7);
        }
        Check.same("shifts()", x.shifts(), 3);
        Check.same("there of 0", x.there(0, 0), 7);
        Check.same("there of 7", x.there(7, 0), 7);
        Check.same("there of 6: the one beside it", x.there(6, 0), 0);
        x.call(0, 1, 1, 0, 10);
        x.call(0, 1, 1, 0, 20);
        Check.same("go()", x.go(), 2);
        Lines.taken(x, 1, 7, 0, 20);
        Check.same("talked of 7", x.talked(7, 0), 20);
        x.note(1, 3);
        Check.same("see of 7", x.see(7, 0, 0), 1);
    }

    private static void eightSteps() {
        Check.about("STEPS of training, 8 at most: each behind another one, or none; it LASTS .. (1 .. 200)");
        FriendLine x = new FriendLine();
        x.volunteer(0);
        for (int step = 0; step <= 8; step++) {
            Check.no("learn of " + step + " of none yet", x.learn(0, step));
            Check.same("has of " + step + " of none yet", x.has(0, step, 0), -1);
            Check.same("step behind itself", x.step(step, 1), -1);
            Check.same("step behind -2", x.step(-2, 1), -1);
            Check.same("step that lasts 0", x.step(-1, 0), -1);
            Check.same("step that lasts 201", x.step(-1, 201), -1);
            Check.same("step " + step, x.step(step - 1, step % 2 == 0 ? 1 : 200), step < 8 ? step : -1);
        }
        Check.same("count(1)", x.count(1), 8);
        for (int step = 0; step < 8; step++) {
            Check.yes("learn of " + step, x.learn(0, step));
            Check.same("has of " + step, x.has(0, step, 0), 1);
        }
    }

    private static FriendLine oneStep(int lasts, int night) {
        FriendLine x = new FriendLine();
        x.volunteer(0);
        x.step(-1, lasts);
        x.clock(night);
        Check.yes("learn in " + night, x.learn(0, 0));
        return x;
    }

    /** The step is had in these nights alone. */
    private static void hadIn(FriendLine x, int first, int last) {
        for (int night = 0; night < 200; night++) {
            Check.same("has(0, 0, " + night + ")", x.has(0, 0, night), night >= first && night <= last ? 1 : 0);
        }
    }

    private static void stepOfOneNight() {
        Check.about("has it in that NIGHT and those behind, LASTS in all: 1");
        hadIn(oneStep(1, 0), 0, 0);
        hadIn(oneStep(1, 57), 57, 57);
        hadIn(oneStep(1, 199), 199, 199);
        hadIn(oneStep(2, 198), 198, 199);
    }

    private static void stepOfAllNights() {
        Check.about("has it in that NIGHT and those behind, LASTS in all: 200");
        hadIn(oneStep(200, 0), 0, 199);
        hadIn(oneStep(200, 1), 1, 199);
        hadIn(oneStep(200, 199), 199, 199);
    }

    private static void stepOfAllNightsButOne() {
        Check.about("has it in that NIGHT and those behind, LASTS in all: 199");
        hadIn(oneStep(199, 0), 0, 198);
        hadIn(oneStep(199, 1), 1, 199);
    }

    private static void learnedTwiceInOneNight() {
        Check.about("LASTS in all (anew whenever it LEARNS it): twice in one night is no longer");
        FriendLine x = oneStep(3, 4);
        Check.yes("learn again", x.learn(0, 0));
        hadIn(x, 4, 6);
    }

    private static void learnedAnew() {
        Check.about("LASTS in all (anew whenever it LEARNS it)");
        FriendLine x = oneStep(3, 4);
        x.clock(6);
        Check.yes("learn in the last night of it", x.learn(0, 0));
        hadIn(x, 4, 8);
        x.clock(9);
        Check.same("lapsed", x.has(0, 0, 9), 0);
        Check.yes("learn in the first night without it", x.learn(0, 0));
        hadIn(x, 4, 11);
    }

    private static void learnedWhileTheOtherIsHad() {
        Check.about("only if it HAS the STEP that it is behind, then");
        for (int night = 4; night <= 8; night++) {
            FriendLine x = new FriendLine();
            x.volunteer(0);
            x.volunteer(0);
            x.step(-1, 3);
            x.step(0, 200);
            x.clock(4);
            Check.no("learn(0, 1) ahead of 0", x.learn(0, 1));
            Check.yes("learn(0, 0)", x.learn(0, 0));
            Check.no("learn(1, 1): another one has it", x.learn(1, 1));
            x.clock(night);
            boolean isHad = night <= 6;
            Check.same("learn(0, 1) in " + night, x.learn(0, 1) ? 1 : 0, isHad ? 1 : 0);
            for (int asked = 0; asked < 12; asked++) {
                boolean isDue = isHad && asked >= night && asked <= 6;
                Check.same("has(0, 1, " + asked + ")", x.has(0, 1, asked), isDue ? 1 : 0);
            }
        }
    }

    private static void chainOfEight() {
        Check.about("HAS, in that NIGHT, the STEP that it is behind (and so on)");
        for (int shortest = 0; shortest < 8; shortest++) {
            FriendLine x = new FriendLine();
            x.volunteer(0);
            for (int step = 0; step < 8; step++) {
                x.step(step - 1, step == shortest ? 5 : 6);
                Check.yes("learn(0, " + step + ")", x.learn(0, step));
            }
            for (int step = 0; step < 8; step++) {
                Check.same("has(0, " + step + ", 4)", x.has(0, step, 4), 1);
                Check.same("has(0, " + step + ", 5)", x.has(0, step, 5), step < shortest ? 1 : 0);
                Check.same("has(0, " + step + ", 6)", x.has(0, step, 6), 0);
            }
            x.clock(5);
            Check.same("learn(0, 7)", x.learn(0, 7) ? 1 : 0, shortest == 7 ? 1 : 0);
            Check.yes("learn(0, " + shortest + ")", x.learn(0, shortest));
            Check.same("has(0, 7, 5): all of them again", x.has(0, 7, 5), 1);
        }
    }

    private static void twentyCallers() {
        Check.about("CALLERS are known by a mark alone: 0 .. 19");
        FriendLine x = Lines.team(2);
        for (int caller = 0; caller < 20; caller++) {
            Check.same("call of " + caller, x.call(0, caller, 0, 0, 1), caller);
            Check.yes("bar of " + caller, x.bar(caller, 0));
            Check.yes("bar of " + caller + " and the other", x.bar(caller, 1));
        }
        for (int caller : new int[] {-1, 20}) {
            Check.same("call of " + caller, x.call(0, caller, 0, 0, 1), -1);
            Check.no("bar of " + caller, x.bar(caller, 0));
        }
        Check.same("told(0, 5)", x.told(0, 5), 0);
        Check.same("told(19, 5)", x.told(19, 5), 19);
    }

    private static void barFromItsNightOn() {
        Check.about("A BAR .. holds from the NIGHT on in which it was told (the CLOCK's)");
        FriendLine x = Lines.team(3);
        Lines.open(x, 1);
        x.call(0, 19, 1, 0, 1);
        x.go();
        x.note(0, 0);
        x.clock(50);
        Check.same("see(2, 0, 50) ahead of the bar", x.see(2, 0, 50), 1);
        Check.yes("bar(19, 2)", x.bar(19, 2));
        Check.same("see(2, 0, 0)", x.see(2, 0, 0), 1);
        Check.same("see(2, 0, 49)", x.see(2, 0, 49), 1);
        Check.same("see(2, 0, 50)", x.see(2, 0, 50), 0);
        Check.same("see(2, 0, 51)", x.see(2, 0, 51), 0);
        Check.same("see(2, 0, 199)", x.see(2, 0, 199), 0);
        Check.same("see(1, 0, 199): another one", x.see(1, 0, 199), 1);
    }

    private static void barForEver() {
        Check.about("A BAR .. holds .. for ever");
        FriendLine x = Lines.team(2);
        Check.yes("bar(0, 0) in night 0", x.bar(0, 0));
        Check.yes("bar(19, 1) in night 0", x.bar(19, 1));
        for (int night : new int[] {0, 1, 199}) {
            x.clock(night);
            Check.no("bar(0, 0) in " + night, x.bar(0, 0));
            Lines.open(x, 1);
            int call = x.call(0, 0, 1, 0, 1);
            x.call(0, 19, 2, 0, 1);
            x.call(10, 0, 1, 0, 1);
            Check.same("go() in " + night, x.go(), 3);
            Lines.taken(x, call, 1, 0, 1);
            Lines.taken(x, call + 1, 0, 0, 1);
            Lines.taken(x, call + 2, 1, 10, 11);
        }
    }

    /** Volunteer 0 takes one call of this need in night 0. */
    private static FriendLine cared(int need) {
        FriendLine x = Lines.team(2);
        Lines.open(x, 1);
        x.call(0, 0, need, 0, 1);
        Check.same("go()", x.go(), 1);
        return x;
    }

    private static void careByNeed() {
        Check.about("CARE is DUE .. in a call of NEED 8 or 9");
        for (int need = 0; need <= 9; need++) {
            FriendLine x = cared(need);
            x.clock(1);
            Check.same("due(0) behind need " + need, x.due(0), need >= 8 ? 1 : 0);
            Check.same("due(1)", x.due(1), 0);
        }
        FriendLine y = Lines.team(2);
        y.call(0, 0, 9, 0, 1);
        y.go();
        y.clock(1);
        Check.same("due(0): the call was left", y.due(0), 0);
    }

    private static void careFromTheNightBehind() {
        Check.about("CARE is DUE of a VOLUNTEER from the NIGHT on behind one in which it talked");
        for (int night : new int[] {0, 1, 2, 198, 199}) {
            FriendLine x = cared(9);
            x.clock(night);
            Check.same("due(0) in " + night, x.due(0), night > 0 ? 1 : 0);
            x.offer(0, 1, 1);
            x.offer(1, 1, 1);
            Check.same("shifts() in " + night, x.shifts(), night > 0 ? 0 : -1);
            Check.same("care(0) in " + night, x.care(0) ? 1 : 0, night > 0 ? 1 : 0);
        }
    }

    private static void careTillItIsGiven() {
        Check.about("till CARE is given");
        FriendLine x = cared(8);
        x.clock(1);
        Check.same("due(0)", x.due(0), 1);
        Check.yes("care(0)", x.care(0));
        Check.same("due(0) in the same night", x.due(0), 0);
        Check.no("care(0) again", x.care(0));
        x.clock(2);
        Check.same("due(0) in the next night", x.due(0), 0);
        Check.no("care(0) in the next night", x.care(0));
        Lines.open(x, 1);
    }

    private static void careForNightsAheadAlone() {
        Check.about("CARE is given (in the CLOCK's NIGHT: for all calls of NIGHTS ahead)");
        FriendLine x = cared(8);
        x.clock(1);
        Check.yes("care(0) ahead of the calls", x.care(0));
        Lines.open(x, 1);
        x.call(0, 0, 9, 0, 1);
        x.go();
        Check.same("due(0): cared in this night, its call is of this night", x.due(0), 0);
        Check.no("care(0) for a call of this night", x.care(0));
        x.clock(2);
        Check.same("due(0) in 2", x.due(0), 1);
        x.clock(3);
        Check.yes("care(0) for all of them", x.care(0));
        Check.same("due(0) in 3", x.due(0), 0);
    }
}
