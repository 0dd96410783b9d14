import java.util.Random;

/** Promises 15 to 18: offers, shifts, who is there, which hours lack. */
final class ShiftsTest {
    public static void main(String[] args) {
        offersThatAreRefused();
        offersOfOneNight();
        shiftsOnce();
        fewestHoursAndTies();
        unkeptHourBetween();
        skillByNight();
        allWays();
        Check.end();
    }

    private static void offersThatAreRefused() {
        FriendLine x = Lines.skilled(7, 1);
        Check.same("offer(-1, 1, 1)", x.offer(-1, 1, 1), -1);
        Check.same("offer(7, 1, 1)", x.offer(7, 1, 1), -1);
        Check.same("offer(0, 0, 1)", x.offer(0, 0, 1), -1);
        Check.same("offer(0, 64, 1)", x.offer(0, 64, 1), -1);
        Check.same("offer(0, -1, 1)", x.offer(0, -1, 1), -1);
        Check.same("offer(0, 1, 0)", x.offer(0, 1, 0), -1);
        Check.same("offer(0, 1, 4)", x.offer(0, 1, 4), -1);
        for (int i = 0; i < 5; i++) {
            Check.same("offer " + i, x.offer(6 - i, 63, 3), i);
            Check.same("offer " + i + " again", x.offer(6 - i, 1, 1), -1);
        }
        Check.same("a sixth", x.offer(0, 1, 1), -1);
    }

    private static void offersOfOneNight() {
        FriendLine x = Lines.skilled(2, 3);
        x.offer(0, 1, 1);
        x.clock(0);
        Check.same("it has one, the clock stood", x.offer(0, 1, 1), -1);
        x.clock(1);
        Check.same("offer in the next night", x.offer(1, 2, 1), 0);
        Check.same("offer in the next night", x.offer(0, 2, 1), 1);
        Check.same("shifts()", x.shifts(), 1);
        Check.same("there(0, 0)", x.there(0, 0), 0);
        Check.same("there(0, 1)", x.there(0, 1), 2);
        Check.same("lacks(0): not found", x.lacks(0), -1);
        Check.same("lacks(1)", x.lacks(1), 61);
        x.clock(2);
        x.go();
        Check.same("offer in a night gone through", x.offer(0, 1, 1), -1);
        Check.same("shifts() in a night gone through", x.shifts(), -1);
        Check.same("lacks(2)", x.lacks(2), -1);
    }

    private static void shiftsOnce() {
        FriendLine x = Lines.skilled(2, 3);
        Check.same("shifts() of no offer", x.shifts(), 0);
        Check.same("shifts() again", x.shifts(), -1);
        Check.same("offer behind shifts()", x.offer(0, 1, 1), -1);
        Check.same("lacks(0)", x.lacks(0), 63);
        Check.same("lacks(-1)", x.lacks(-1), -1);
        Check.same("lacks(200)", x.lacks(200), -1);
        Check.same("there(0, 0)", x.there(0, 0), 0);
        Check.same("there(0, -1)", x.there(0, -1), -1);
        Check.same("there(0, 200)", x.there(0, 200), -1);
        Check.same("there(2, 0)", x.there(2, 0), -1);
        Check.same("there(-1, 0)", x.there(-1, 0), -1);
    }

    private static void fewestHoursAndTies() {
        FriendLine x = Lines.skilled(3, 1);
        x.offer(0, 63, 1);
        x.offer(1, 63, 3);
        x.offer(2, 63, 3);
        Check.same("shifts()", x.shifts(), 1);
        Check.same("there(0, 0)", x.there(0, 0), 1);
        Check.same("there(1, 0): none goes ahead", x.there(1, 0), 0);
        Check.same("there(2, 0)", x.there(2, 0), 1);
        Check.same("lacks(0)", x.lacks(0), 62);
    }

    private static void unkeptHourBetween() {
        FriendLine x = Lines.skilled(3, 1);
        x.offer(0, 7, 3);
        x.offer(1, 1, 1);
        x.offer(2, 4, 1);
        Check.same("shifts()", x.shifts(), 2);
        Check.same("there(0, 0): a row, the unkept hour too", x.there(0, 0), 7);
        Check.same("lacks(0)", x.lacks(0), 58);
        x.clock(1);
        x.offer(0, 5, 3);
        x.offer(1, 1, 1);
        x.offer(2, 4, 1);
        Check.same("shifts(): no row of 0 and 2", x.shifts(), 1);
        Check.same("there(0, 1)", x.there(0, 1), 1);
        Check.same("there(1, 1)", x.there(1, 1), 1);
        Check.same("there(2, 1)", x.there(2, 1), 0);
    }

    private static void skillByNight() {
        FriendLine x = Lines.skilled(2, 1);
        x.clock(9);
        x.offer(0, 1, 1);
        x.offer(1, 1, 1);
        Check.same("shifts() in the last night of step 0", x.shifts(), 1);
        x.clock(10);
        x.offer(0, 1, 1);
        x.offer(1, 1, 1);
        Check.same("shifts() behind it", x.shifts(), 0);
        Check.same("lacks(9)", x.lacks(9), 62);
        FriendLine y = new FriendLine();
        y.volunteer(0);
        y.volunteer(0);
        y.offer(0, 1, 1);
        y.offer(1, 1, 1);
        Check.same("shifts() without a step 0", y.shifts(), 0);
    }

    /** Compares with a search that leaves nothing out. */
    private static void allWays() {
        Random random = new Random(3);
        for (int round = 0; round < 400; round++) {
            int size = random.nextInt(6);
            int skilled = random.nextInt(32);
            FriendLine x = Lines.skilled(5, skilled);
            int[] hours = new int[size];
            int[] mosts = new int[size];
            StringBuilder told = new StringBuilder("skilled ").append(skilled).append(", offers");
            for (int i = 0; i < size; i++) {
                hours[i] = round % 4 == 0 ? 63 : 1 + random.nextInt(63);
                mosts[i] = 1 + random.nextInt(3);
                x.offer(i, hours[i], mosts[i]);
                told.append(' ').append(hours[i]).append('/').append(mosts[i]);
            }
            int[] best = Model.bestShifts(hours, mosts, skilled);
            Check.same("shifts() of " + told, x.shifts(), Model.keptOf(best, skilled));
            for (int i = 0; i < size; i++) {
                Check.same("there(" + i + ", 0) of " + told, x.there(i, 0), best[i]);
            }
        }
    }
}
