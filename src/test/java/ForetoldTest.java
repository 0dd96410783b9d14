/** Promise 25: calls foretold by like nights. */
final class ForetoldTest {
    public static void main(String[] args) {
        wrongOnes();
        byWeekday();
        byHolidays();
        nightOfTheClockDoesNotCount();
        Check.end();
    }

    private static void goThrough(FriendLine x, int night, int calls, int minute) {
        x.clock(night);
        for (int i = 0; i < calls; i++) {
            x.call(minute, 0, 0, 0, 1);
        }
        x.go();
    }

    private static void wrongOnes() {
        FriendLine x = new FriendLine();
        goThrough(x, 0, 1, 0);
        x.clock(1);
        Check.same("foretold(-1, 0)", x.foretold(-1, 0), -1);
        Check.same("foretold(6, 0)", x.foretold(6, 0), -1);
        Check.same("foretold(0, -7)", x.foretold(0, -7), -1);
        Check.same("foretold(0, 200)", x.foretold(0, 200), -1);
        Check.same("foretold(0, 203)", x.foretold(0, 203), -1);
        Check.same("foretold(0, 196)", x.foretold(0, 196), 100);
        Check.same("foretold(0, 195)", x.foretold(0, 195), -1);
    }

    private static void byWeekday() {
        FriendLine x = new FriendLine();
        goThrough(x, 0, 2, 59);
        goThrough(x, 1, 9, 59);
        goThrough(x, 7, 3, 60);
        x.clock(14);
        x.call(0, 0, 0, 0, 1);
        x.clock(21);
        goThrough(x, 21, 0, 0);
        x.clock(22);
        Check.same("foretold(0, 28): 2 by 3", x.foretold(0, 28), 66);
        Check.same("foretold(1, 28): 3 by 3", x.foretold(1, 28), 100);
        Check.same("foretold(5, 28)", x.foretold(5, 28), 0);
        Check.same("foretold(0, 22)", x.foretold(0, 22), 900);
        Check.same("foretold(0, 23)", x.foretold(0, 23), -1);
    }

    private static void byHolidays() {
        FriendLine x = new FriendLine();
        x.holiday(0);
        x.holiday(9);
        x.holiday(14);
        goThrough(x, 0, 4, 0);
        goThrough(x, 7, 1, 0);
        goThrough(x, 9, 3, 0);
        x.clock(10);
        Check.same("foretold(0, 14): the holidays", x.foretold(0, 14), 350);
        Check.same("foretold(0, 21): no holiday", x.foretold(0, 21), 100);
        Check.same("foretold(0, 16): no like night", x.foretold(0, 16), -1);
        x.holiday(16);
        Check.same("foretold(0, 16): a holiday now", x.foretold(0, 16), 350);
    }

    private static void nightOfTheClockDoesNotCount() {
        FriendLine x = new FriendLine();
        goThrough(x, 0, 2, 0);
        Check.same("foretold(0, 7) in night 0", x.foretold(0, 7), -1);
        x.clock(7);
        Check.same("foretold(0, 7) in night 7", x.foretold(0, 7), 200);
        goThrough(x, 7, 4, 0);
        Check.same("foretold(0, 14) in night 7", x.foretold(0, 14), 200);
        x.clock(8);
        Check.same("foretold(0, 14) in night 8", x.foretold(0, 14), 300);
    }
}
