/** The edges of the document's terms, part III: offers, shifts, hours that are kept. */
final class Edges3ShiftsTest {
    public static void main(String[] args) {
        fiveOffers();
        oneOfAVolunteer();
        hoursAsBits();
        hoursAtMost();
        rowsOneBehindTheOther();
        noRowAroundTheNight();
        noneIfCareIsDue();
        twoAreThere();
        oneHasStepZero();
        stepZeroInThatNight();
        mostHoursKept();
        fewestHours();
        noneAheadOfAll();
        firstHourThenTheShorterOne();
        allFive();
        thereInAnHourThatIsNotKept();
        Check.end();
    }

    /** Offers of volunteers 0, 1, .., each as hours and most, and what is due: hours kept, who is there when. */
    private static void found(FriendLine x, int[][] offers, int kept, int... there) {
        int night = x.count(2);
        for (int v = 0; v < offers.length; v++) {
            Check.same("offer of " + v, x.offer(v, offers[v][0], offers[v][1]), v);
        }
        Check.same("shifts()", x.shifts(), kept);
        for (int v = 0; v < there.length; v++) {
            Check.same("there(" + v + ", " + night + ")", x.there(v, night), there[v]);
        }
        Check.same("hours that lack", Integer.bitCount(x.lacks(night)), 6 - kept);
    }

    private static void fiveOffers() {
        Check.about("OFFERS .. 5 at most a NIGHT");
        FriendLine x = Lines.skilled(8, 255);
        for (int night : new int[] {0, 1, 199}) {
            x.clock(night);
            for (int i = 0; i < 8; i++) {
                Check.same("offer of " + (7 - i) + " in " + night, x.offer(7 - i, 63, 1), i < 5 ? i : -1);
            }
            Check.same("shifts() in " + night, x.shifts(), night == 199 ? 0 : 2);
            Check.same("there of the sixth", x.there(2, night), 0);
        }
        FriendLine y = Lines.skilled(8, 255);
        Check.same("shifts() of no offer", y.shifts(), 0);
        Check.same("lacks(0) of no offer", y.lacks(0), 63);
    }

    private static void oneOfAVolunteer() {
        Check.about("OFFERS, one of a VOLUNTEER");
        FriendLine x = Lines.skilled(2, 3);
        Check.same("offer", x.offer(0, 1, 1), 0);
        Check.same("offer again", x.offer(0, 1, 1), -1);
        Check.same("offer of other hours", x.offer(0, 2, 3), -1);
        Check.same("offer of the other", x.offer(1, 2, 1), 1);
        Check.same("shifts(): the first offers hold", x.shifts(), 0);
        x.clock(1);
        Check.same("offer in the next night", x.offer(0, 1, 1), 0);
    }

    private static void hoursAsBits() {
        Check.about("HOURS in which it would come (bits 0 .. 5)");
        for (int hours = -1; hours <= 65; hours++) {
            FriendLine x = Lines.skilled(2, 3);
            boolean isTaken = hours >= 1 && hours <= 63;
            Check.same("offer of hours " + hours, x.offer(0, hours, 1), isTaken ? 0 : -1);
            Check.same("offer of hours " + hours, x.offer(1, hours, 1), isTaken ? 1 : -1);
            Check.same("shifts()", x.shifts(), isTaken ? 1 : 0);
            int first = isTaken ? Integer.lowestOneBit(hours) : 0;
            Check.same("there(0, 0)", x.there(0, 0), first);
            Check.same("there(1, 0)", x.there(1, 0), first);
            Check.same("lacks(0)", x.lacks(0), 63 - first);
        }
    }

    private static void hoursAtMost() {
        Check.about("how many HOURS at most (1 .. 3)");
        for (int most = 1; most <= 3; most++) {
            int row = (1 << most) - 1;
            found(Lines.skilled(2, 3), new int[][] {{63, most}, {63, most}}, most, row, row);
            found(Lines.skilled(2, 3), new int[][] {{63, 3}, {63, most}}, most, row, row);
            found(Lines.skilled(2, 3), new int[][] {{1, most}, {1, most}}, 1, 1, 1);
            found(Lines.skilled(2, 3), new int[][] {{32, most}, {32, most}}, 1, 32, 32);
        }
        FriendLine x = Lines.skilled(2, 3);
        Check.same("0 at most", x.offer(0, 63, 0), -1);
        Check.same("4 at most", x.offer(0, 63, 4), -1);
        Check.same("-1 at most", x.offer(0, 63, -1), -1);
    }

    private static void rowsOneBehindTheOther() {
        Check.about("a row of such HOURS one behind the other, no more than that, or none");
        found(Lines.skilled(2, 3), new int[][] {{5, 3}, {5, 3}}, 1, 1, 1);
        found(Lines.skilled(2, 3), new int[][] {{5, 3}, {7, 3}}, 1, 1, 1);
        found(Lines.skilled(2, 3), new int[][] {{0b110101, 3}, {63, 3}}, 2, 0b110000, 0b110000);
        found(Lines.skilled(2, 3), new int[][] {{0b110000, 3}, {0b110000, 3}}, 2, 0b110000, 0b110000);
        found(Lines.skilled(2, 3), new int[][] {{0b111000, 3}, {0b111000, 3}}, 3, 0b111000, 0b111000);
        found(Lines.skilled(2, 3), new int[][] {{1, 3}, {2, 3}}, 0, 0, 0);
    }

    private static void noRowAroundTheNight() {
        Check.about("a row of such HOURS one behind the other: 0 is not behind 5");
        found(Lines.skilled(2, 3), new int[][] {{0b100001, 2}, {0b100001, 2}}, 1, 1, 1);
        found(Lines.skilled(2, 3), new int[][] {{0b110001, 3}, {0b110001, 3}}, 2, 0b110000, 0b110000);
        found(Lines.skilled(3, 7), new int[][] {{0b100001, 3}, {0b000001, 1}, {0b100000, 1}}, 1, 1, 1, 0);
    }

    private static void noneIfCareIsDue() {
        Check.about("none if CARE is DUE of it in that NIGHT");
        for (int cared = 0; cared < 2; cared++) {
            FriendLine x = Lines.skilled(3, 7);
            found(x, new int[][] {{1, 1}, {1, 1}}, 1, 1, 1);
            x.call(0, 0, 9, 0, 1);
            x.go();
            x.clock(1);
            Check.same("offer while it is due", x.offer(0, 63, 3), 0);
            x.offer(1, 3, 3);
            x.offer(2, 6, 3);
            if (cared == 1) {
                Check.yes("care(0) ahead of shifts()", x.care(0));
            }
            Check.same("shifts()", x.shifts(), cared == 1 ? 3 : 1);
            Check.same("there(0, 1)", x.there(0, 1), cared == 1 ? 7 : 0);
            Check.same("care(0) behind shifts()", x.care(0) ? 1 : 0, 1 - cared);
            Check.same("there(0, 1) stays", x.there(0, 1), cared == 1 ? 7 : 0);
        }
    }

    private static void twoAreThere() {
        Check.about("An HOUR is KEPT if two are there or more");
        found(Lines.skilled(1, 1), new int[][] {{63, 3}}, 0, 0);
        found(Lines.skilled(2, 3), new int[][] {{1, 1}, {1, 1}}, 1, 1, 1);
        found(Lines.skilled(2, 3), new int[][] {{1, 1}, {2, 1}}, 0, 0, 0);
        found(Lines.skilled(4, 15), new int[][] {{6, 2}, {7, 3}, {3, 2}, {4, 1}}, 3, 0, 7, 3, 4);
    }

    private static void oneHasStepZero() {
        Check.about("one of them HAS STEP 0 in that NIGHT");
        found(Lines.skilled(2, 0), new int[][] {{63, 3}, {63, 3}}, 0, 0, 0);
        found(Lines.skilled(2, 1), new int[][] {{63, 3}, {63, 3}}, 3, 7, 7);
        found(Lines.skilled(2, 2), new int[][] {{63, 3}, {63, 3}}, 3, 7, 7);
        found(Lines.skilled(3, 4), new int[][] {{63, 3}, {63, 3}, {8, 1}}, 1, 0, 8, 8);
        FriendLine x = new FriendLine();
        x.volunteer(0);
        x.volunteer(0);
        found(x, new int[][] {{63, 3}, {63, 3}}, 0, 0, 0);
        FriendLine y = Lines.skilled(2, 0);
        y.step(-1, 200);
        y.learn(0, 1);
        y.learn(1, 1);
        found(y, new int[][] {{63, 3}, {63, 3}}, 0, 0, 0);
    }

    private static void stepZeroInThatNight() {
        Check.about("HAS STEP 0 in that NIGHT: the last one, and the one behind it");
        FriendLine x = Lines.skilled(2, 1);
        x.clock(9);
        found(x, new int[][] {{1, 1}, {1, 1}}, 1, 1, 1);
        x.clock(10);
        found(x, new int[][] {{1, 1}, {1, 1}}, 0, 0, 0);
        Check.same("lacks(9): it had it then", x.lacks(9), 62);
        x.clock(11);
        x.learn(1, 0);
        found(x, new int[][] {{1, 1}, {1, 1}}, 1, 1, 1);
    }

    private static void mostHoursKept() {
        Check.about("of all ways that by which the most HOURS are KEPT");
        found(Lines.skilled(3, 1), new int[][] {{63, 3}, {1, 1}, {0b111000, 3}}, 3, 0b111000, 0, 0b111000);
        found(Lines.skilled(3, 1), new int[][] {{63, 3}, {3, 2}, {8, 1}}, 2, 3, 3, 0);
        found(Lines.skilled(4, 15), new int[][] {{7, 3}, {7, 3}, {56, 3}, {56, 3}}, 6, 7, 7, 56, 56);
    }

    private static void fewestHours() {
        Check.about("of these the fewest HOURS of all together");
        found(Lines.skilled(2, 3), new int[][] {{63, 3}, {32, 3}}, 1, 32, 32);
        found(Lines.skilled(3, 7), new int[][] {{7, 3}, {7, 3}, {7, 3}}, 3, 0, 7, 7);
        found(Lines.skilled(3, 1), new int[][] {{7, 3}, {5, 1}, {2, 1}}, 2, 3, 1, 2);
        found(Lines.skilled(3, 7), new int[][] {{7, 3}, {1, 1}, {4, 1}}, 2, 7, 1, 4);
        found(Lines.skilled(4, 15), new int[][] {{7, 3}, {1, 1}, {4, 1}, {4, 1}}, 2, 1, 1, 4, 4);
    }

    private static void noneAheadOfAll() {
        Check.about("the first by the first OFFER's SHIFT (none ahead of all ..), then the second's, and so on");
        found(Lines.skilled(5, 31), new int[][] {{1, 1}, {1, 1}, {1, 1}, {1, 1}, {1, 1}}, 1, 0, 0, 0, 1, 1);
        found(Lines.skilled(5, 1), new int[][] {{1, 1}, {1, 1}, {1, 1}, {1, 1}, {1, 1}}, 1, 1, 0, 0, 0, 1);
        found(Lines.skilled(5, 4), new int[][] {{1, 1}, {1, 1}, {1, 1}, {1, 1}, {1, 1}}, 1, 0, 0, 1, 0, 1);
        found(Lines.skilled(3, 7), new int[][] {{2, 1}, {1, 1}, {3, 1}}, 1, 0, 1, 1);
        FriendLine x = Lines.skilled(3, 7);
        x.offer(2, 1, 1);
        x.offer(0, 1, 1);
        x.offer(1, 1, 1);
        Check.same("shifts()", x.shifts(), 1);
        Check.same("there(2, 0): its OFFER is the first", x.there(2, 0), 0);
        Check.same("there(0, 0)", x.there(0, 0), 1);
        Check.same("there(1, 0)", x.there(1, 0), 1);
    }

    private static void firstHourThenTheShorterOne() {
        Check.about("then by its first HOUR; then the shorter one");
        found(Lines.skilled(2, 3), new int[][] {{63, 1}, {63, 1}}, 1, 1, 1);
        found(Lines.skilled(2, 3), new int[][] {{0b101000, 1}, {0b101000, 1}}, 1, 8, 8);
        found(Lines.skilled(3, 7), new int[][] {{3, 2}, {3, 2}, {3, 1}}, 2, 1, 3, 2);
        found(Lines.skilled(3, 1), new int[][] {{63, 2}, {63, 1}, {63, 1}}, 2, 3, 1, 2);
        found(Lines.skilled(4, 15), new int[][] {{3, 1}, {3, 1}, {3, 1}, {3, 1}}, 2, 1, 1, 2, 2);
        found(Lines.skilled(4, 15), new int[][] {{7, 2}, {7, 2}, {7, 2}, {1, 1}}, 3, 1, 6, 6, 1);
    }

    private static void allFive() {
        Check.about("SHIFTS of all OFFERS");
        int[][] all = {{63, 3}, {63, 3}, {63, 3}, {63, 3}, {63, 3}};
        found(Lines.skilled(5, 31), all, 6, 0, 7, 7, 56, 56);
        found(Lines.skilled(5, 1), all, 3, 7, 0, 0, 0, 7);
        found(Lines.skilled(5, 17), all, 6, 7, 0, 7, 56, 56);
        found(Lines.skilled(5, 0), all, 0, 0, 0, 0, 0, 0);
        int[][] ones = {{63, 1}, {63, 1}, {63, 1}, {63, 1}, {63, 1}};
        found(Lines.skilled(5, 31), ones, 2, 0, 1, 1, 2, 2);
        found(Lines.skilled(5, 16), ones, 1, 0, 0, 0, 1, 1);
    }

    private static void thereInAnHourThatIsNotKept() {
        Check.about("Who is there in an HOUR that is not KEPT is there all the same");
        FriendLine x = Lines.skilled(3, 7);
        found(x, new int[][] {{7, 3}, {1, 1}, {4, 1}}, 2, 7, 1, 4);
        Check.same("lacks(0)", x.lacks(0), 0b111010);
        x.call(60, 0, 1, 0, 59);
        x.call(119, 0, 1, 0, 1);
        Check.same("go()", x.go(), 2);
        Lines.taken(x, 0, 0, 60, 119);
        Lines.taken(x, 1, 0, 119, 120);
    }
}
