/** Promises 6 to 10: volunteers, steps, learning and bars. */
final class TeamTest {
    public static void main(String[] args) {
        volunteers();
        steps();
        learning();
        learningAnew();
        chainOfSteps();
        bars();
        Check.end();
    }

    private static void volunteers() {
        FriendLine x = new FriendLine();
        Check.same("volunteer(-1)", x.volunteer(-1), -1);
        Check.same("volunteer(4)", x.volunteer(4), -1);
        for (int i = 0; i < 8; i++) {
            Check.same("volunteer " + i, x.volunteer(i % 4), i);
        }
        Check.same("a ninth", x.volunteer(0), -1);
        Check.same("count(0)", x.count(0), 8);
    }

    private static void steps() {
        FriendLine x = new FriendLine();
        Check.same("step(0, 5) of none", x.step(0, 5), -1);
        Check.same("step(-2, 5)", x.step(-2, 5), -1);
        Check.same("step(-1, 0)", x.step(-1, 0), -1);
        Check.same("step(-1, 201)", x.step(-1, 201), -1);
        Check.same("step(-1, 1)", x.step(-1, 1), 0);
        Check.same("step(1, 5)", x.step(1, 5), -1);
        Check.same("step(0, 200)", x.step(0, 200), 1);
        for (int i = 2; i < 8; i++) {
            Check.same("step " + i, x.step(i - 1, 9), i);
        }
        Check.same("a ninth", x.step(-1, 9), -1);
        Check.same("count(1)", x.count(1), 8);
    }

    private static void learning() {
        FriendLine x = new FriendLine();
        Check.no("learn(0, 0) of none", x.learn(0, 0));
        x.volunteer(0);
        x.step(-1, 3);
        Check.no("learn(1, 0)", x.learn(1, 0));
        Check.no("learn(-1, 0)", x.learn(-1, 0));
        Check.no("learn(0, 1)", x.learn(0, 1));
        Check.no("learn(0, -1)", x.learn(0, -1));
        Check.same("has(0, 0, 0)", x.has(0, 0, 0), 0);
        x.clock(5);
        Check.yes("learn(0, 0)", x.learn(0, 0));
        Check.same("has(0, 0, 4)", x.has(0, 0, 4), 0);
        Check.same("has(0, 0, 5)", x.has(0, 0, 5), 1);
        Check.same("has(0, 0, 7)", x.has(0, 0, 7), 1);
        Check.same("has(0, 0, 8)", x.has(0, 0, 8), 0);
        Check.same("has(1, 0, 5)", x.has(1, 0, 5), -1);
        Check.same("has(0, 1, 5)", x.has(0, 1, 5), -1);
        Check.same("has(-1, 0, 5)", x.has(-1, 0, 5), -1);
        Check.same("has(0, -1, 5)", x.has(0, -1, 5), -1);
        Check.same("has(0, 0, -1)", x.has(0, 0, -1), -1);
        Check.same("has(0, 0, 200)", x.has(0, 0, 200), -1);
        Check.same("has(0, 0, 199)", x.has(0, 0, 199), 0);
    }

    private static void learningAnew() {
        FriendLine x = new FriendLine();
        x.volunteer(0);
        x.volunteer(0);
        x.step(-1, 4);
        x.learn(0, 0);
        x.clock(2);
        Check.yes("learn anew", x.learn(0, 0));
        Check.same("still had in 0", x.has(0, 0, 0), 1);
        Check.same("had in 5", x.has(0, 0, 5), 1);
        Check.same("lapsed in 6", x.has(0, 0, 6), 0);
        x.clock(8);
        Check.yes("learn behind a gap", x.learn(0, 0));
        Check.same("the gap stays", x.has(0, 0, 7), 0);
        Check.same("had in 8", x.has(0, 0, 8), 1);
        Check.same("the other one", x.has(1, 0, 8), 0);
        x.clock(199);
        Check.yes("learn in the last night", x.learn(1, 0));
        Check.same("had in 199", x.has(1, 0, 199), 1);
    }

    private static void chainOfSteps() {
        FriendLine x = new FriendLine();
        x.volunteer(0);
        x.step(-1, 3);
        x.step(0, 10);
        x.step(1, 200);
        Check.no("learn(0, 1)", x.learn(0, 1));
        Check.yes("learn(0, 0)", x.learn(0, 0));
        Check.no("learn(0, 2)", x.learn(0, 2));
        Check.yes("learn(0, 1)", x.learn(0, 1));
        Check.yes("learn(0, 2)", x.learn(0, 2));
        Check.same("has(0, 2, 2)", x.has(0, 2, 2), 1);
        Check.same("has(0, 2, 3): the root lapsed", x.has(0, 2, 3), 0);
        x.clock(5);
        Check.no("learn(0, 2) without the root", x.learn(0, 2));
        Check.no("learn(0, 1) without the root", x.learn(0, 1));
        Check.yes("learn(0, 0)", x.learn(0, 0));
        Check.same("has(0, 2, 5): back with the root", x.has(0, 2, 5), 1);
        Check.same("has(0, 2, 4)", x.has(0, 2, 4), 0);
        Check.same("has(0, 1, 7)", x.has(0, 1, 7), 1);
        Check.same("has(0, 1, 8)", x.has(0, 1, 8), 0);
    }

    private static void bars() {
        FriendLine x = new FriendLine();
        Check.no("bar(0, 0) of none", x.bar(0, 0));
        x.volunteer(0);
        x.volunteer(0);
        Check.no("bar(-1, 0)", x.bar(-1, 0));
        Check.no("bar(20, 0)", x.bar(20, 0));
        Check.no("bar(0, -1)", x.bar(0, -1));
        Check.no("bar(0, 2)", x.bar(0, 2));
        Check.yes("bar(0, 0)", x.bar(0, 0));
        Check.no("bar(0, 0) again", x.bar(0, 0));
        Check.yes("bar(0, 1)", x.bar(0, 1));
        Check.yes("bar(19, 1)", x.bar(19, 1));
        x.clock(9);
        Check.no("bar(0, 0) later", x.bar(0, 0));
    }
}
