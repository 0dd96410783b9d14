import java.util.function.Supplier;

/** The edges of promises 1 to 26, in their order: each call that is refused is refused, and nothing happens. */
final class Edges6PromisesTest {
    public static void main(String[] args) {
        newObject();
        feed();
        feedTakesAnyInts();
        back();
        backLeavesTheOthers();
        read();
        place();
        volunteer();
        step();
        learn();
        has();
        bar();
        care();
        due();
        clock();
        holiday();
        offer();
        shifts();
        there();
        lacks();
        call();
        fourHundredCalls();
        go();
        told();
        talked();
        note();
        see();
        foretold();
        count();
        Check.end();
    }

    /**
     * Three volunteers (0 has steps 0 and 1, 1 has step 0), two steps. Night 0 is gone through: call 0 was taken by 0
     * (care is due), 1 by 1, 2 was dropped, 3 was left; there is one note. Night 1 is the clock's: it has an offer of
     * volunteer 0 and call 4. Night 8 is a holiday. On the tape there is a rule.
     */
    private static FriendLine busy() {
        FriendLine x = new FriendLine();
        for (int rank = 0; rank < 3; rank++) {
            x.volunteer(rank);
        }
        x.step(-1, 10);
        x.step(0, 5);
        x.learn(0, 0);
        x.learn(1, 0);
        x.learn(0, 1);
        x.bar(3, 1);
        x.offer(0, 3, 2);
        x.offer(1, 3, 2);
        x.shifts();
        Check.fine(x, "drop if topic==7;");
        x.call(0, 1, 9, 0, 10);
        x.call(0, 2, 1, 0, 5);
        x.call(3, 3, 5, 7, 5);
        x.call(200, 4, 1, 0, 5);
        x.go();
        x.note(0, 2);
        x.clock(1);
        x.holiday(8);
        x.offer(0, 3, 2);
        x.call(5, 1, 3, 0, 5);
        Check.put(x, "first need; first 2;");
        return x;
    }

    private static FriendLine found() {
        FriendLine x = busy();
        x.shifts();
        return x;
    }

    private static FriendLine gone() {
        FriendLine x = busy();
        x.go();
        return x;
    }

    private static FriendLine foundAndGone() {
        FriendLine x = found();
        x.go();
        return x;
    }

    private static Supplier<FriendLine> fed(int bytes) {
        return () -> {
            FriendLine x = new FriendLine();
            Check.put(x, "first 1;" + " ".repeat(bytes - 8));
            return x;
        };
    }

    private static void newObject() {
        Check.about("1: Nothing is there; the CLOCK's NIGHT is 0");
        FriendLine x = new FriendLine();
        for (int what = 0; what <= 10; what++) {
            Check.same("count(" + what + ")", x.count(what), 0);
        }
        Check.same("place()", x.place(), -1);
        Check.same("back(1)", x.back(1), -1);
        Check.same("back(0)", x.back(0), 0);
        Check.no("learn(0, 0)", x.learn(0, 0));
        Check.same("has(0, 0, 0)", x.has(0, 0, 0), -1);
        Check.no("bar(0, 0)", x.bar(0, 0));
        Check.no("care(0)", x.care(0));
        Check.same("due(0)", x.due(0), -1);
        Check.same("offer(0, 1, 1)", x.offer(0, 1, 1), -1);
        Check.same("there(0, 0)", x.there(0, 0), -1);
        Check.same("lacks(0)", x.lacks(0), -1);
        Check.same("told(0, 0)", x.told(0, 0), -1);
        Check.same("talked(0, 0)", x.talked(0, 0), -1);
        Check.same("note(0, 0)", x.note(0, 0), -1);
        Check.same("see(0, 0, 0)", x.see(0, 0, 0), -1);
        for (int hour = 0; hour < 6; hour++) {
            Check.same("foretold(" + hour + ", 0)", x.foretold(hour, 0), -1);
        }
        Check.yes("clock(0)", x.clock(0));
        FriendLine other = new FriendLine();
        x.volunteer(0);
        x.feed(1, 2, 3, 4, 5);
        Check.same("count(0) of another one", other.count(0), 0);
        Check.same("count(10) of another one", other.count(10), 0);
        Check.same("shifts() of a new one", other.shifts(), 0);
        Check.same("go() of a new one", other.go(), 0);
        Check.same("read() of a new one", other.read(), 0);
    }

    private static void feed() {
        Check.about("2: NONE, and nothing comes, if it would have more than 2,000");
        FriendLine x = new FriendLine();
        for (int i = 1; i <= 100; i++) {
            Check.same("feed " + i, x.feed(-1, 0, 1, 2, 3), i * 20);
        }
        Check.same("feed at 2,000", x.feed(0, 0, 0, 0, 0), -1);
        Check.same("count(10)", x.count(10), 2000);
        for (int bytes : new int[] {1981, 1999, 2000}) {
            Twins.refused("feed at " + bytes, fed(bytes), y -> y.feed(0, 0, 0, 0, 0));
        }
        for (int bytes : new int[] {8, 1979, 1980}) {
            Check.same("feed at " + bytes, fed(bytes).get().feed(0, 0, 0, 0, 0), bytes + 20);
        }
        FriendLine y = fed(1980).get();
        Check.same("feed at 1,980", y.feed(0x20202020, 0x20202020, 0x20202020, 0x20202020, 0x20202041), 2000);
        Check.same("read()", y.read(), 1);
        Check.same("place(): the 2,000th byte", y.place(), 1999);
    }

    private static void feedTakesAnyInts() {
        Check.about("2: Twenty bytes, the highest of a first");
        // Letters, one of them with its highest bit set: the first byte that is no letter is the fault's place.
        for (int i = 0; i < 20; i++) {
            int[] words = {0x20202020, 0x20202020, 0x20202020, 0x20202020, 0x20202020};
            words[i / 4] |= 0xff << 8 * (3 - i % 4);
            FriendLine x = new FriendLine();
            Check.same("feed", x.feed(words[0], words[1], words[2], words[3], words[4]), 20);
            Check.same("read()", x.read(), 1);
            Check.same("place()", x.place(), i);
        }
        for (int far : Lines.FAR) {
            Check.same("feed of " + far, new FriendLine().feed(far, far, far, far, far), 20);
        }
        FriendLine x = new FriendLine();
        Check.same("feed", x.feed(0x66697273, 0x7420310a, 0x2b320d2b, 0x33093b20, 0x64726f70), 20);
        Check.same("feed behind it", x.feed(0x20696620, 0x313c313b, 0x20202020, 0x20202020, 0x20202020), 40);
        Check.same("read()", x.read(), 0);
        Check.same("count(8)", x.count(8), 2);
    }

    private static void back() {
        Check.about("3: NONE, and nothing goes, if it has not so many, or n is below 0");
        for (int n : new int[] {-1, -2, -20, 21, 22, 2000}) {
            Twins.refused("back(" + n + ") of 20", Edges6PromisesTest::busy, x -> x.back(n));
        }
        for (int n : Lines.FAR) {
            Twins.refused("back(" + n + ") of 20", Edges6PromisesTest::busy, x -> x.back(n));
        }
        Twins.refused("back(1) of none", FriendLine::new, x -> x.back(1));
        Twins.refused("back(-1) of none", FriendLine::new, x -> x.back(-1));
        Check.same("back(2000) of 2,000", fed(2000).get().back(2000), 0);
        Check.same("back(2001) of 2,000", fed(2000).get().back(2001), -1);
        for (int n = 0; n <= 20; n++) {
            Check.same("back(" + n + ") of 20", busy().back(n), 20 - n);
        }
    }

    private static void backLeavesTheOthers() {
        Check.about("3: The last n bytes of the tape go");
        FriendLine x = new FriendLine();
        Check.put(x, "first 1; first 2; ?");
        Check.same("back(1)", x.back(1), 18);
        Check.same("back(0)", x.back(0), 18);
        Check.same("read()", x.read(), 0);
        Check.same("count(8)", x.count(8), 2);
        Check.put(x, "first 1; first 2; ?");
        Check.same("back(2)", x.back(2), 17);
        Check.same("back(17)", x.back(17), 0);
        Check.same("read() of none", x.read(), 0);
        Check.same("count(8)", x.count(8), 0);
        Check.put(x, "drop if 1==1;");
        Check.same("back(13)", x.back(13), 0);
        Check.put(x, "?");
        Check.same("read()", x.read(), 1);
        Check.same("place(): what went is not there", x.place(), 0);
    }

    private static void read() {
        Check.about("4: The tape, which is empty then, is read: 0, or the number of its FAULT");
        String[] texts = {"", "first 1;", "?", "first (((((((1", "step 8 if 1==1;"};
        int[] faults = {0, 0, 1, 2, 5};
        FriendLine x = new FriendLine();
        for (int i = 0; i < texts.length; i++) {
            Check.same("read() of " + texts[i], Check.read(x, texts[i]), faults[i]);
            Check.same("count(10) behind " + texts[i], x.count(10), 0);
            Check.same("back(1) behind " + texts[i], x.back(1), -1);
            Check.same("read() again", x.read(), 0);
            Check.same("place() again", x.place(), -1);
        }
    }

    private static void place() {
        Check.about("5: The byte of the latest read()'s FAULT; NONE without");
        FriendLine x = new FriendLine();
        Check.same("place() ahead of all", x.place(), -1);
        Check.same("read() of a fault", Check.read(x, "   ?"), 1);
        Check.same("place()", x.place(), 3);
        Check.put(x, "first 1;");
        Check.same("place() ahead of the next read()", x.place(), 3);
        Check.same("read()", x.read(), 0);
        Check.same("place() without a fault", x.place(), -1);
        Check.same("read() of a fault", Check.read(x, "?"), 1);
        Check.same("place()", x.place(), 0);
        Check.same("read() of a fault", Check.read(x, "rest 0 if 1==1;"), 5);
        Check.same("place()", x.place(), 5);
        Check.same("read() of nothing", x.read(), 0);
        Check.same("place() behind nothing", x.place(), -1);
    }

    private static FriendLine eightOfEach() {
        FriendLine x = busy();
        for (int i = 2; i < 8; i++) {
            x.step(1, 1);
        }
        for (int i = 3; i < 8; i++) {
            x.volunteer(3);
        }
        return x;
    }

    private static void volunteer() {
        Check.about("6: NONE, and nothing happens: 8 are there, no such RANK");
        for (int rank : new int[] {-1, -2, 4, 5}) {
            Twins.refused("volunteer(" + rank + ")", Edges6PromisesTest::busy, x -> x.volunteer(rank));
        }
        for (int rank : Lines.FAR) {
            Twins.refused("volunteer(" + rank + ")", Edges6PromisesTest::busy, x -> x.volunteer(rank));
        }
        for (int rank = 0; rank <= 3; rank++) {
            int taken = rank;
            Twins.refused("a ninth of " + rank, Edges6PromisesTest::eightOfEach, x -> x.volunteer(taken));
            Check.same("volunteer(" + rank + ")", busy().volunteer(rank), 3);
        }
    }

    private static void step() {
        Check.about("7: NONE, and nothing happens: 8 are there, no such STEP behind which it is (NONE: none), lasts");
        for (int behind : new int[] {-2, -3, 2, 3, 7, 8}) {
            Twins.refused("step behind " + behind, Edges6PromisesTest::busy, x -> x.step(behind, 1));
        }
        for (int lasts : new int[] {0, -1, 201, 202}) {
            Twins.refused("step that lasts " + lasts, Edges6PromisesTest::busy, x -> x.step(-1, lasts));
        }
        for (int far : Lines.FAR) {
            Twins.refused("step behind " + far, Edges6PromisesTest::busy, x -> x.step(far, 1));
            Twins.refused("step that lasts " + far, Edges6PromisesTest::busy, x -> x.step(-1, far));
        }
        Twins.refused("step behind 0 of none", FriendLine::new, x -> x.step(0, 1));
        for (int behind : new int[] {-1, 0, 1}) {
            Twins.refused("a ninth behind " + behind, Edges6PromisesTest::eightOfEach, x -> x.step(behind, 1));
            Check.same("step behind " + behind, busy().step(behind, 1), 2);
            Check.same("step behind " + behind, busy().step(behind, 200), 2);
        }
    }

    private static void learn() {
        Check.about("8: false, and nothing happens: no such ones, or it HAS not what it is behind");
        for (int wrong : new int[] {-1, -2, 3, 8, 64, Integer.MIN_VALUE, Integer.MAX_VALUE}) {
            Twins.no("learn(" + wrong + ", 0)", Edges6PromisesTest::busy, x -> Twins.bit(x.learn(wrong, 0)));
            Twins.no("learn(0, " + wrong + ")", Edges6PromisesTest::busy, x -> Twins.bit(x.learn(0, wrong)));
        }
        Twins.no("learn(0, 2)", Edges6PromisesTest::busy, x -> Twins.bit(x.learn(0, 2)));
        Twins.no("learn(2, 1): without 0", Edges6PromisesTest::busy, x -> Twins.bit(x.learn(2, 1)));
        Twins.no("learn(0, 1): 0 lapsed", Edges6PromisesTest::lapsed, x -> Twins.bit(x.learn(0, 1)));
        Check.yes("learn(1, 1)", busy().learn(1, 1));
        Check.yes("learn(2, 0)", busy().learn(2, 0));
        FriendLine x = eightOfEach();
        Check.no("learn(7, 7)", x.learn(7, 7));
        Check.yes("learn(7, 0)", x.learn(7, 0));
        Check.yes("learn(7, 1)", x.learn(7, 1));
        Check.yes("learn(7, 7)", x.learn(7, 7));
        Check.no("learn(8, 0)", x.learn(8, 0));
        Check.no("learn(7, 8)", x.learn(7, 8));
    }

    private static FriendLine lapsed() {
        FriendLine x = busy();
        x.clock(10);
        return x;
    }

    private static void has() {
        Check.about("9: 1 if a VOLUNTEER HAS a STEP in a NIGHT (by what is told so far), else 0; NONE: no such ones");
        for (int wrong : new int[] {-1, -2, 3, 8, Integer.MIN_VALUE, Integer.MAX_VALUE}) {
            Twins.refused("has(" + wrong + ", 0, 0)", Edges6PromisesTest::busy, x -> x.has(wrong, 0, 0));
            Twins.refused("has(0, " + wrong + ", 0)", Edges6PromisesTest::busy, x -> x.has(0, wrong, 0));
        }
        for (int night : new int[] {-1, 200, Integer.MIN_VALUE, Integer.MAX_VALUE}) {
            Twins.refused("has(0, 0, " + night + ")", Edges6PromisesTest::busy, x -> x.has(0, 0, night));
        }
        FriendLine x = busy();
        int[][] due = {{0, 0, 0, 1}, {0, 0, 9, 1}, {0, 0, 10, 0}, {0, 1, 4, 1}, {0, 1, 5, 0}, {1, 0, 9, 1},
            {1, 1, 0, 0}, {2, 0, 0, 0}, {2, 1, 199, 0}, {0, 2, 0, -1}, {3, 0, 0, -1}};
        for (int[] d : due) {
            Check.same("has(" + d[0] + ", " + d[1] + ", " + d[2] + ")", x.has(d[0], d[1], d[2]), d[3]);
        }
        x.learn(1, 1);
        Check.same("has(1, 1, 0): learned in night 1", x.has(1, 1, 0), 0);
        Check.same("has(1, 1, 1)", x.has(1, 1, 1), 1);
        Check.same("has(1, 1, 5)", x.has(1, 1, 5), 1);
        Check.same("has(1, 1, 6)", x.has(1, 1, 6), 0);
    }

    private static void bar() {
        Check.about("10: A BAR is told: true; false: no such ones, or it holds");
        for (int caller : new int[] {-1, -2, 20, 21, Integer.MIN_VALUE, Integer.MAX_VALUE}) {
            Twins.no("bar(" + caller + ", 0)", Edges6PromisesTest::busy, x -> Twins.bit(x.bar(caller, 0)));
        }
        for (int v : new int[] {-1, -2, 3, 8, Integer.MIN_VALUE, Integer.MAX_VALUE}) {
            Twins.no("bar(1, " + v + ")", Edges6PromisesTest::busy, x -> Twins.bit(x.bar(1, v)));
        }
        Twins.no("bar(3, 1): it holds", Edges6PromisesTest::busy, x -> Twins.bit(x.bar(3, 1)));
        FriendLine x = busy();
        Check.yes("bar(3, 0)", x.bar(3, 0));
        Check.yes("bar(2, 1)", x.bar(2, 1));
        Check.yes("bar(0, 2)", x.bar(0, 2));
        Check.yes("bar(19, 2)", x.bar(19, 2));
        Check.no("bar(19, 2) again", x.bar(19, 2));
        x.clock(199);
        Check.no("bar(19, 2) in the last night", x.bar(19, 2));
        Check.yes("bar(18, 2) in the last night", x.bar(18, 2));
    }

    private static void care() {
        Check.about("11: false: there is none such, or none is DUE in the CLOCK's NIGHT");
        for (int v : new int[] {-1, -2, 3, 8, Integer.MIN_VALUE, Integer.MAX_VALUE}) {
            Twins.no("care(" + v + ")", Edges6PromisesTest::busy, x -> Twins.bit(x.care(v)));
        }
        Twins.no("care(1): not due", Edges6PromisesTest::busy, x -> Twins.bit(x.care(1)));
        Twins.no("care(2): not due", Edges6PromisesTest::busy, x -> Twins.bit(x.care(2)));
        FriendLine x = busy();
        Check.yes("care(0)", x.care(0));
        Check.no("care(0) again", x.care(0));
    }

    private static void due() {
        Check.about("12: 1 if CARE is DUE of a VOLUNTEER in the CLOCK's NIGHT, else 0; NONE: there is none such");
        for (int v : new int[] {-1, -2, 3, 8, Integer.MIN_VALUE, Integer.MAX_VALUE}) {
            Twins.refused("due(" + v + ")", Edges6PromisesTest::busy, x -> x.due(v));
        }
        FriendLine x = busy();
        Check.same("due(0)", x.due(0), 1);
        Check.same("due(1)", x.due(1), 0);
        Check.same("due(2)", x.due(2), 0);
        x.care(0);
        Check.same("due(0)", x.due(0), 0);
    }

    private static void clock() {
        Check.about("13: The CLOCK's NIGHT becomes n: true; false: below the CLOCK's, or above 199");
        for (int n : new int[] {-1, 0, 200, 201, Integer.MIN_VALUE, Integer.MAX_VALUE}) {
            Twins.no("clock(" + n + ")", Edges6PromisesTest::busy, x -> Twins.bit(x.clock(n)));
        }
        FriendLine x = busy();
        Check.yes("clock(1): it stands", x.clock(1));
        Check.same("offer(0, 1, 1): its offers stay", x.offer(0, 1, 1), -1);
        Check.same("offer(1, 3, 1): its offers stay", x.offer(1, 3, 1), 1);
        Check.yes("clock(199)", x.clock(199));
        Check.same("count(2)", x.count(2), 199);
        Check.no("clock(198)", x.clock(198));
        Check.yes("clock(199): it stands", x.clock(199));
        Check.no("clock(200)", x.clock(200));
        Check.same("count(2)", x.count(2), 199);
    }

    private static void holiday() {
        Check.about("14: true; false: there is none such, it is one, it was GONE THROUGH");
        for (int night : new int[] {-1, 200, 201, Integer.MIN_VALUE, Integer.MAX_VALUE}) {
            Twins.no("holiday(" + night + ")", Edges6PromisesTest::busy, x -> Twins.bit(x.holiday(night)));
        }
        Twins.no("holiday(8): it is one", Edges6PromisesTest::busy, x -> Twins.bit(x.holiday(8)));
        Twins.no("holiday(0): gone through", Edges6PromisesTest::busy, x -> Twins.bit(x.holiday(0)));
        Twins.no("holiday(1): gone through", Edges6PromisesTest::gone, x -> Twins.bit(x.holiday(1)));
        FriendLine x = busy();
        Check.yes("holiday(1): the clock's", x.holiday(1));
        Check.yes("holiday(199)", x.holiday(199));
        Check.yes("holiday(7)", x.holiday(7));
        Check.yes("holiday(9)", x.holiday(9));
        x.clock(20);
        Check.yes("holiday(19): passed by", x.holiday(19));
    }

    private static FriendLine fiveOffers() {
        FriendLine x = eightOfEach();
        for (int v = 1; v < 5; v++) {
            Check.same("offer of " + v, x.offer(v, 63, 3), v);
        }
        return x;
    }

    private static void offer() {
        Check.about("15: NONE, and nothing happens: 5 are there, no such VOLUNTEER, it has one, HOURS not 1 .. 63, "
                + "most not 1 .. 3, the SHIFTS are found, or it was GONE THROUGH");
        Twins.refused("a sixth", Edges6PromisesTest::fiveOffers, x -> x.offer(5, 63, 3));
        Twins.refused("a sixth", Edges6PromisesTest::fiveOffers, x -> x.offer(7, 63, 3));
        for (int v : new int[] {-1, -2, 3, 8, Integer.MIN_VALUE, Integer.MAX_VALUE}) {
            Twins.refused("offer of " + v, Edges6PromisesTest::busy, x -> x.offer(v, 1, 1));
        }
        Twins.refused("it has one", Edges6PromisesTest::busy, x -> x.offer(0, 1, 1));
        for (int hours : new int[] {0, -1, -64, 64, 65, 127, Integer.MIN_VALUE, Integer.MAX_VALUE}) {
            Twins.refused("offer of hours " + hours, Edges6PromisesTest::busy, x -> x.offer(1, hours, 1));
        }
        for (int most : new int[] {0, -1, 4, 5, Integer.MIN_VALUE, Integer.MAX_VALUE}) {
            Twins.refused("offer of most " + most, Edges6PromisesTest::busy, x -> x.offer(1, 1, most));
        }
        Twins.refused("found", Edges6PromisesTest::found, x -> x.offer(1, 1, 1));
        Twins.refused("gone through", Edges6PromisesTest::gone, x -> x.offer(1, 1, 1));
        Twins.refused("found and gone through", Edges6PromisesTest::foundAndGone, x -> x.offer(1, 1, 1));
        Check.same("offer(1, 1, 1)", busy().offer(1, 1, 1), 1);
        Check.same("offer(2, 63, 3)", busy().offer(2, 63, 3), 1);
    }

    private static void shifts() {
        Check.about("16: how many HOURS are KEPT. NONE, and nothing happens: they are, or it was GONE THROUGH");
        Twins.refused("found", Edges6PromisesTest::found, FriendLine::shifts);
        Twins.refused("gone through", Edges6PromisesTest::gone, FriendLine::shifts);
        Twins.refused("found and gone through", Edges6PromisesTest::foundAndGone, FriendLine::shifts);
        FriendLine x = gone();
        Check.same("shifts() of a night gone through", x.shifts(), -1);
        Check.same("lacks(1)", x.lacks(1), -1);
        x.clock(2);
        Check.same("shifts() of the next night", x.shifts(), 0);
        Check.same("shifts() of the next night again", x.shifts(), -1);
        FriendLine full = Lines.team(4);
        for (int v = 0; v < 4; v++) {
            full.offer(v, 63, 3);
        }
        Check.same("shifts(): all HOURS", full.shifts(), 6);
        Check.same("lacks(0)", full.lacks(0), 0);
    }

    private static void there() {
        Check.about("17: HOURS (as bits) ..; 0 also if SHIFTS were not found; NONE: no such ones");
        for (int v : new int[] {-1, -2, 3, 8, Integer.MIN_VALUE, Integer.MAX_VALUE}) {
            Twins.refused("there(" + v + ", 0)", Edges6PromisesTest::busy, x -> x.there(v, 0));
        }
        for (int night : new int[] {-1, 200, Integer.MIN_VALUE, Integer.MAX_VALUE}) {
            Twins.refused("there(0, " + night + ")", Edges6PromisesTest::busy, x -> x.there(0, night));
        }
        FriendLine x = busy();
        Check.same("there(0, 0)", x.there(0, 0), 3);
        Check.same("there(1, 0)", x.there(1, 0), 3);
        Check.same("there(2, 0): no offer", x.there(2, 0), 0);
        Check.same("there(0, 1): not found", x.there(0, 1), 0);
        Check.same("there(0, 199): not found", x.there(0, 199), 0);
        x.volunteer(0);
        Check.same("there(3, 0): it came later", x.there(3, 0), 0);
        x.clock(5);
        Check.same("there(0, 1): passed by", x.there(0, 1), 0);
    }

    private static void lacks() {
        Check.about("18: HOURS of a NIGHT whose SHIFTS were found that are not KEPT (as bits); NONE for others");
        for (int night : new int[] {-1, 1, 2, 199, 200, Integer.MIN_VALUE, Integer.MAX_VALUE}) {
            Twins.refused("lacks(" + night + ")", Edges6PromisesTest::busy, x -> x.lacks(night));
        }
        Twins.refused("lacks(1): gone through", Edges6PromisesTest::gone, x -> x.lacks(1));
        Check.same("lacks(0)", busy().lacks(0), 60);
        Check.same("lacks(1)", found().lacks(1), 63);
        FriendLine x = found();
        x.clock(199);
        Check.same("lacks(1) later", x.lacks(1), 63);
        x.learn(0, 0);
        x.learn(1, 0);
        x.care(0);
        x.offer(0, 32, 1);
        x.offer(1, 32, 1);
        Check.same("shifts() in the last night", x.shifts(), 1);
        Check.same("lacks(199)", x.lacks(199), 31);
    }

    private static FriendLine fortyCalls() {
        FriendLine x = busy();
        for (int i = 1; i < 40; i++) {
            Check.same("call", x.call(i, 0, 0, 0, 1), 4 + i);
        }
        return x;
    }

    private static void call() {
        Check.about("19: NONE, and nothing happens: 40 are there in it, 400 in all, no such MINUTE, CALLER, NEED, "
                + "TOPIC, LENGTH, or it was GONE THROUGH");
        Twins.refused("a 41st", Edges6PromisesTest::fortyCalls, x -> x.call(0, 0, 0, 0, 1));
        Twins.refused("gone through", Edges6PromisesTest::gone, x -> x.call(0, 0, 0, 0, 1));
        Twins.refused("found and gone through", Edges6PromisesTest::foundAndGone, x -> x.call(0, 0, 0, 0, 1));
        int[] greatest = {359, 19, 9, 7, 90};
        int[] least = {0, 0, 0, 0, 1};
        for (int i = 0; i < 5; i++) {
            int[] wrong = {least[i] - 1, greatest[i] + 1, Integer.MIN_VALUE, Integer.MAX_VALUE};
            for (int value : wrong) {
                int[] c = least.clone();
                c[i] = value;
                Twins.refused("argument " + i + " " + value, Edges6PromisesTest::busy,
                        x -> x.call(c[0], c[1], c[2], c[3], c[4]));
            }
        }
        Check.same("the least of all", busy().call(0, 0, 0, 0, 1), 5);
        Check.same("the greatest of all", busy().call(359, 19, 9, 7, 90), 5);
        Check.same("behind shifts()", found().call(0, 0, 0, 0, 1), 5);
    }

    private static void fourHundredCalls() {
        Check.about("19: its number, from 0 on over all NIGHTS. NONE ..: 400 in all");
        FriendLine x = new FriendLine();
        for (int i = 0; i < 390; i++) {
            if (i % 39 == 0) {
                x.clock(i / 39);
            }
            Check.same("call " + i, x.call(i % 39, i % 20, 0, 0, 1), i);
        }
        x.clock(20);
        for (int i = 390; i < 400; i++) {
            Check.same("call " + i, x.call(0, 19, 9, 7, 90), i);
        }
        Check.same("a 401st, the eleventh of its night", x.call(0, 0, 0, 0, 1), -1);
        Check.same("count(3)", x.count(3), 400);
        Check.same("told(399, 0)", x.told(399, 0), 20);
        Check.same("told(399, 5)", x.told(399, 5), 19);
        Check.same("told(400, 0)", x.told(400, 0), -1);
        Check.same("go()", x.go(), 0);
        Check.same("told(390, 1)", x.told(390, 1), 3);
        Check.same("told(399, 1)", x.told(399, 1), 3);
        Check.same("told(389, 1)", x.told(389, 1), 0);
        Check.same("count(6)", x.count(6), 10);
        x.clock(199);
        Check.same("a 401st in the last night", x.call(0, 0, 0, 0, 1), -1);
    }

    private static void go() {
        Check.about("20: how many calls were taken. NONE, and nothing happens: it was");
        Twins.refused("gone through", Edges6PromisesTest::gone, FriendLine::go);
        Twins.refused("found and gone through", Edges6PromisesTest::foundAndGone, FriendLine::go);
        FriendLine x = busy();
        Check.same("go()", x.go(), 0);
        Check.same("go() again", x.go(), -1);
        x.clock(2);
        Check.same("go() in the next night", x.go(), 0);
    }

    private static void told() {
        Check.about("21: Of a CALL: what 0 .. 5. NONE for others");
        for (int wrong : new int[] {-1, -2, 6, 7, Integer.MIN_VALUE, Integer.MAX_VALUE}) {
            Twins.refused("told(0, " + wrong + ")", Edges6PromisesTest::busy, x -> x.told(0, wrong));
        }
        for (int wrong : new int[] {-1, 5, 400, Integer.MIN_VALUE, Integer.MAX_VALUE}) {
            for (int what = 0; what <= 5; what++) {
                int asked = what;
                Twins.refused("told(" + wrong + ", " + what + ")", Edges6PromisesTest::busy,
                        x -> x.told(wrong, asked));
            }
        }
        int[][] due = {{0, 1, 0, 0, 10, 1}, {0, 1, 1, 0, 5, 2}, {0, 2, -1, 3, -1, 3}, {0, 3, -1, -1, -1, 4},
            {1, 0, -1, -1, -1, 1}};
        FriendLine x = busy();
        for (int call = 0; call < 5; call++) {
            for (int what = 0; what <= 5; what++) {
                Check.same("told(" + call + ", " + what + ")", x.told(call, what), due[call][what]);
            }
        }
    }

    private static void talked() {
        Check.about("22: NONE: no such ones, it was not");
        for (int v : new int[] {-1, -2, 3, 8, Integer.MIN_VALUE, Integer.MAX_VALUE}) {
            Twins.refused("talked(" + v + ", 0)", Edges6PromisesTest::busy, x -> x.talked(v, 0));
        }
        for (int night : new int[] {-1, 1, 199, 200, Integer.MIN_VALUE, Integer.MAX_VALUE}) {
            Twins.refused("talked(0, " + night + ")", Edges6PromisesTest::busy, x -> x.talked(0, night));
        }
        FriendLine x = busy();
        Check.same("talked(0, 0)", x.talked(0, 0), 10);
        Check.same("talked(1, 0)", x.talked(1, 0), 5);
        Check.same("talked(2, 0)", x.talked(2, 0), 0);
        x.go();
        Check.same("talked(0, 1)", x.talked(0, 1), 0);
        x.volunteer(0);
        Check.same("talked(3, 0): it came later", x.talked(3, 0), 0);
    }

    private static FriendLine sixtyNotes() {
        FriendLine x = busy();
        for (int i = 1; i < 60; i++) {
            Check.same("note " + i, x.note(0, i % 4), i);
        }
        return x;
    }

    private static void note() {
        Check.about("23: NONE, and nothing happens: 60 are there, no such RANK, no such CALL, it was not taken");
        Twins.refused("a 61st", Edges6PromisesTest::sixtyNotes, x -> x.note(0, 0));
        for (int rank : new int[] {-1, -2, 4, 5, Integer.MIN_VALUE, Integer.MAX_VALUE}) {
            Twins.refused("note of rank " + rank, Edges6PromisesTest::busy, x -> x.note(0, rank));
        }
        for (int call : new int[] {-1, 2, 3, 4, 5, 400, Integer.MIN_VALUE, Integer.MAX_VALUE}) {
            Twins.refused("note to " + call, Edges6PromisesTest::busy, x -> x.note(call, 0));
        }
        Check.same("note(1, 0)", busy().note(1, 0), 1);
        Check.same("note(0, 3)", busy().note(0, 3), 1);
    }

    private static void see() {
        Check.about("24: 1 if a VOLUNTEER may SEE a NOTE in a NIGHT .. else 0; NONE: no such ones");
        for (int v : new int[] {-1, -2, 3, 8, Integer.MIN_VALUE, Integer.MAX_VALUE}) {
            Twins.refused("see(" + v + ", 0, 0)", Edges6PromisesTest::busy, x -> x.see(v, 0, 0));
        }
        for (int note : new int[] {-1, 1, 60, Integer.MIN_VALUE, Integer.MAX_VALUE}) {
            Twins.refused("see(0, " + note + ", 0)", Edges6PromisesTest::busy, x -> x.see(0, note, 0));
        }
        for (int night : new int[] {-1, 200, Integer.MIN_VALUE, Integer.MAX_VALUE}) {
            Twins.refused("see(0, 0, " + night + ")", Edges6PromisesTest::busy, x -> x.see(0, 0, night));
        }
        FriendLine x = busy();
        Check.same("see(0, 0, 0): its own", x.see(0, 0, 0), 1);
        Check.same("see(1, 0, 0): rank 1 of 2", x.see(1, 0, 0), 0);
        Check.same("see(2, 0, 0): rank 2 of 2", x.see(2, 0, 0), 1);
        Check.yes("bar(1, 2) in night 1", x.bar(1, 2));
        Check.same("see(2, 0, 0): ahead of the bar", x.see(2, 0, 0), 1);
        Check.same("see(2, 0, 1)", x.see(2, 0, 1), 0);
    }

    private static void foretold() {
        Check.about("25: FORETOLD calls of an HOUR for a NIGHT; NONE: no such ones, or there is no like NIGHT");
        for (int hour : new int[] {-1, 6, 7, Integer.MIN_VALUE, Integer.MAX_VALUE}) {
            Twins.refused("foretold(" + hour + ", 7)", Edges6PromisesTest::busy, x -> x.foretold(hour, 7));
        }
        for (int night : new int[] {-7, -1, 1, 6, 8, 15, 195, 197, 200, 203, Integer.MIN_VALUE, Integer.MAX_VALUE}) {
            Twins.refused("foretold(0, " + night + ")", Edges6PromisesTest::busy, x -> x.foretold(0, night));
        }
        FriendLine x = busy();
        int[] due = {300, 0, 0, 100, 0, 0};
        for (int hour = 0; hour < 6; hour++) {
            Check.same("foretold(" + hour + ", 0)", x.foretold(hour, 0), due[hour]);
            Check.same("foretold(" + hour + ", 7)", x.foretold(hour, 7), due[hour]);
            Check.same("foretold(" + hour + ", 196)", x.foretold(hour, 196), due[hour]);
        }
    }

    private static void count() {
        Check.about("26: 0 VOLUNTEERS .. 10 bytes on the tape. NONE for others");
        for (int what : new int[] {-1, -2, 11, 12, Integer.MIN_VALUE, Integer.MAX_VALUE}) {
            Twins.refused("count(" + what + ")", Edges6PromisesTest::busy, x -> x.count(what));
        }
        int[] due = {3, 2, 1, 5, 2, 1, 1, 1, 1, 1, 20};
        FriendLine x = busy();
        for (int what = 0; what <= 10; what++) {
            Check.same("count(" + what + ")", x.count(what), due[what]);
        }
    }
}
