/** Lines to begin a test with. */
final class Lines {
    /** Far beyond any number that the document takes, on both sides. */
    static final int[] FAR = {Integer.MIN_VALUE, Integer.MIN_VALUE + 1, -1_000_000, 1_000_000, Integer.MAX_VALUE};

    private Lines() {
    }

    /** So many volunteers of rank 0; each has step 0 in all nights. */
    static FriendLine team(int volunteers) {
        FriendLine x = new FriendLine();
        x.step(FriendLine.NONE, 200);
        for (int v = 0; v < volunteers; v++) {
            x.volunteer(0);
            x.learn(v, 0);
        }
        return x;
    }

    /** So many volunteers of rank 0; those of these bits have step 0 in nights 0 to 9. */
    static FriendLine skilled(int volunteers, int bits) {
        FriendLine x = new FriendLine();
        x.step(FriendLine.NONE, 10);
        for (int v = 0; v < volunteers; v++) {
            x.volunteer(0);
            if ((bits >> v & 1) != 0) {
                x.learn(v, 0);
            }
        }
        return x;
    }

    /** Volunteers 0 and 1 are there in these hours, one behind the other, of the clock's night. */
    static void open(FriendLine x, int hours) {
        x.offer(0, hours, 3);
        x.offer(1, hours, 3);
        Check.same("shifts() of two in hours " + hours, x.shifts(), Integer.bitCount(hours));
    }

    /** As open; behind it volunteer 0 alone takes calls, as 1 is barred from all callers up to this one. */
    static void openForOne(FriendLine x, int hours, int lastCaller) {
        open(x, hours);
        for (int caller = 0; caller <= lastCaller; caller++) {
            x.bar(caller, 1);
        }
    }

    /** What is told of a call: its state, volunteer, minute at which it was taken or dropped, and end. */
    static void told(FriendLine x, int call, int state, int v, int since, int end) {
        Check.same("told(" + call + ", 1)", x.told(call, 1), state);
        Check.same("told(" + call + ", 2)", x.told(call, 2), v);
        Check.same("told(" + call + ", 3)", x.told(call, 3), since);
        Check.same("told(" + call + ", 4)", x.told(call, 4), end);
    }

    static void taken(FriendLine x, int call, int v, int since, int end) {
        told(x, call, 1, v, since, end);
    }

    static void dropped(FriendLine x, int call, int minute) {
        told(x, call, 2, FriendLine.NONE, minute, FriendLine.NONE);
    }

    static void left(FriendLine x, int call) {
        told(x, call, 3, FriendLine.NONE, FriendLine.NONE, FriendLine.NONE);
    }
}
