/** Promises 13 and 14: the clock and holidays. */
final class ClockTest {
    public static void main(String[] args) {
        clockOnlyGoesOn();
        holidays();
        Check.end();
    }

    private static void clockOnlyGoesOn() {
        FriendLine x = new FriendLine();
        Check.no("clock(-1)", x.clock(-1));
        Check.yes("clock(0)", x.clock(0));
        Check.yes("clock(3)", x.clock(3));
        Check.same("count(2)", x.count(2), 3);
        Check.no("clock(2)", x.clock(2));
        Check.yes("clock(3) again", x.clock(3));
        Check.no("clock(200)", x.clock(200));
        Check.same("count(2)", x.count(2), 3);
        Check.yes("clock(199)", x.clock(199));
        Check.same("count(2)", x.count(2), 199);
    }

    private static void holidays() {
        FriendLine x = new FriendLine();
        Check.no("holiday(-1)", x.holiday(-1));
        Check.no("holiday(200)", x.holiday(200));
        Check.yes("holiday(0)", x.holiday(0));
        Check.no("holiday(0) again", x.holiday(0));
        Check.yes("holiday(199)", x.holiday(199));
        x.clock(4);
        x.go();
        Check.no("holiday(4), gone through", x.holiday(4));
        Check.yes("holiday(3), past but not gone through", x.holiday(3));
    }
}
