/** Promises 11 and 12: care that is due behind hard calls. */
final class CareTest {
    public static void main(String[] args) {
        wrongOnes();
        dueBehindHardCalls();
        careCoversNightsAheadAlone();
        dueHoldsUntilGiven();
        Check.end();
    }

    private static void open(FriendLine x) {
        x.offer(0, 1, 1);
        x.offer(1, 1, 1);
        x.shifts();
    }

    private static void wrongOnes() {
        FriendLine x = Lines.team(2);
        Check.same("due(2)", x.due(2), -1);
        Check.same("due(-1)", x.due(-1), -1);
        Check.no("care(2)", x.care(2));
        Check.no("care(-1)", x.care(-1));
        Check.no("care(0)", x.care(0));
        Check.same("due(0)", x.due(0), 0);
    }

    private static void dueBehindHardCalls() {
        for (int need = 7; need <= 9; need++) {
            FriendLine x = Lines.team(2);
            open(x);
            x.call(0, 0, need, 0, 5);
            Check.same("go()", x.go(), 1);
            Check.same("due(0) in that night, need " + need, x.due(0), 0);
            Check.no("care(0) in that night", x.care(0));
            x.clock(1);
            Check.same("due(0) behind need " + need, x.due(0), need >= 8 ? 1 : 0);
            Check.same("due(1)", x.due(1), 0);
        }
    }

    private static void careCoversNightsAheadAlone() {
        FriendLine x = Lines.team(2);
        open(x);
        x.call(0, 0, 9, 0, 5);
        x.go();
        x.clock(1);
        Check.yes("care(0)", x.care(0));
        Check.no("care(0) again", x.care(0));
        open(x);
        Check.same("there(0, 1)", x.there(0, 1), 1);
        x.call(0, 0, 8, 0, 5);
        Check.same("go()", x.go(), 1);
        Check.same("told(1, 2)", x.told(1, 2), 0);
        Check.same("due(0) in night 1", x.due(0), 0);
        x.clock(2);
        Check.same("due(0): care of night 1 is not for its calls", x.due(0), 1);
        Check.yes("care(0)", x.care(0));
        x.clock(3);
        Check.same("due(0)", x.due(0), 0);
    }

    private static void dueHoldsUntilGiven() {
        FriendLine x = Lines.team(2);
        open(x);
        x.call(0, 0, 9, 0, 5);
        x.go();
        x.clock(150);
        Check.same("due(0)", x.due(0), 1);
        open(x);
        Check.same("there(0, 150): none while due", x.there(0, 150), 0);
        Check.same("there(1, 150): not kept alone", x.there(1, 150), 0);
        Check.yes("care(0)", x.care(0));
        Check.same("there(0, 150): found already", x.there(0, 150), 0);
    }
}
