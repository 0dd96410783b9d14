/** Promises 1, 2, 3 and the tape in 26. */
final class TapeTest {
    public static void main(String[] args) {
        newObjectIsEmpty();
        feedFillsAndRefuses();
        backTakesAndRefuses();
        bytesComeHighestFirst();
        Check.end();
    }

    private static void newObjectIsEmpty() {
        FriendLine x = new FriendLine();
        for (int what = 0; what <= 10; what++) {
            Check.same("new count(" + what + ")", x.count(what), 0);
        }
        Check.same("count(11)", x.count(11), -1);
        Check.same("count(-1)", x.count(-1), -1);
        Check.same("new place()", x.place(), -1);
        Check.same("new due(0)", x.due(0), -1);
        Check.same("new told(0, 0)", x.told(0, 0), -1);
        Check.same("new there(0, 0)", x.there(0, 0), -1);
        Check.same("new lacks(0)", x.lacks(0), -1);
        Check.same("new foretold(0, 0)", x.foretold(0, 0), -1);
        Check.same("NONE", FriendLine.NONE, -1);
    }

    private static void feedFillsAndRefuses() {
        FriendLine x = new FriendLine();
        for (int i = 1; i <= 100; i++) {
            Check.same("feed " + i, x.feed(0, 0, 0, 0, 0), i * 20);
        }
        Check.same("feed beyond 2,000", x.feed(0, 0, 0, 0, 0), -1);
        Check.same("count(10)", x.count(10), 2000);
        Check.same("back(19)", x.back(19), 1981);
        Check.same("feed to 2,001", x.feed(0, 0, 0, 0, 0), -1);
        Check.same("back(1)", x.back(1), 1980);
        Check.same("feed to 2,000", x.feed(0, 0, 0, 0, 0), 2000);
    }

    private static void backTakesAndRefuses() {
        FriendLine x = new FriendLine();
        Check.same("back(0) of none", x.back(0), 0);
        Check.same("back(1) of none", x.back(1), -1);
        x.feed(0, 0, 0, 0, 0);
        Check.same("back(-1)", x.back(-1), -1);
        Check.same("back(least)", x.back(Integer.MIN_VALUE), -1);
        Check.same("back(21)", x.back(21), -1);
        Check.same("back(most)", x.back(Integer.MAX_VALUE), -1);
        Check.same("back(0)", x.back(0), 20);
        Check.same("back(20)", x.back(20), 0);
    }

    private static void bytesComeHighestFirst() {
        FriendLine x = new FriendLine();
        // "drop if need==0 ;  " with byte 255 behind it.
        Check.same("feed", x.feed(0x64726f70, 0x20696620, 0x6e656564, 0x3d3d303b, 0x202020ff), 20);
        Check.same("read()", x.read(), 1);
        Check.same("place()", x.place(), 19);
    }
}
