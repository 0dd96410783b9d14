/** Promises 23 and 24: notes, and who may see them. */
final class NotesTest {
    public static void main(String[] args) {
        notes();
        seeing();
        sixtyAtMost();
        Check.end();
    }

    /** Volunteers of ranks 0 (it takes call 0 of caller 4), 1, 2; call 1 is dropped; call 2 of night 1 is open. */
    private static FriendLine oneNight() {
        FriendLine x = new FriendLine();
        x.volunteer(0);
        x.volunteer(1);
        x.volunteer(2);
        x.step(-1, 200);
        x.learn(0, 0);
        x.offer(0, 1, 1);
        x.offer(1, 1, 1);
        x.shifts();
        Check.fine(x, "drop if need==0;");
        x.call(0, 4, 5, 0, 5);
        x.call(0, 4, 0, 0, 5);
        x.go();
        x.clock(1);
        x.call(0, 4, 5, 0, 5);
        return x;
    }

    private static void notes() {
        FriendLine x = oneNight();
        Check.same("note(0, -1)", x.note(0, -1), -1);
        Check.same("note(0, 4)", x.note(0, 4), -1);
        Check.same("note(1, 0): dropped", x.note(1, 0), -1);
        Check.same("note(2, 0): not gone through", x.note(2, 0), -1);
        Check.same("note(3, 0)", x.note(3, 0), -1);
        Check.same("note(-1, 0)", x.note(-1, 0), -1);
        x.go();
        Check.same("note(2, 0): left", x.note(2, 0), -1);
        Check.same("count(7)", x.count(7), 0);
        Check.same("note(0, 3)", x.note(0, 3), 0);
        Check.same("note(0, 0)", x.note(0, 0), 1);
        Check.same("count(7)", x.count(7), 2);
    }

    private static void seeing() {
        FriendLine x = oneNight();
        x.clock(3);
        x.note(0, 2);
        Check.same("see(0, 0, 3): its own", x.see(0, 0, 3), 1);
        Check.same("see(0, 0, 2): ahead of it", x.see(0, 0, 2), 0);
        Check.same("see(1, 0, 3): rank", x.see(1, 0, 3), 0);
        Check.same("see(2, 0, 3)", x.see(2, 0, 3), 1);
        Check.same("see(2, 0, 199)", x.see(2, 0, 199), 1);
        Check.same("see(2, 0, 200)", x.see(2, 0, 200), -1);
        Check.same("see(2, 0, -1)", x.see(2, 0, -1), -1);
        Check.same("see(3, 0, 3)", x.see(3, 0, 3), -1);
        Check.same("see(-1, 0, 3)", x.see(-1, 0, 3), -1);
        Check.same("see(2, 1, 3)", x.see(2, 1, 3), -1);
        Check.same("see(2, -1, 3)", x.see(2, -1, 3), -1);
        x.clock(6);
        x.bar(4, 2);
        x.bar(4, 0);
        Check.same("see(2, 0, 5): not barred yet", x.see(2, 0, 5), 1);
        Check.same("see(2, 0, 6): barred", x.see(2, 0, 6), 0);
        Check.same("see(0, 0, 6): its own, bar or not", x.see(0, 0, 6), 1);
    }

    private static void sixtyAtMost() {
        FriendLine x = oneNight();
        for (int i = 0; i < 60; i++) {
            Check.same("note " + i, x.note(0, i % 4), i);
        }
        Check.same("a 61st", x.note(0, 0), -1);
        Check.same("count(7)", x.count(7), 60);
    }
}
