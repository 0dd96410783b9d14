import java.util.Random;

/** All promises: long random runs, each answer compared with the Model's. An argument tells how many runs. */
final class RandomTest {
    private static final String[] WORDS = {"first", "step", "drop", "rest", "if", "and", "need", "topic", "waited",
        "hour", "known", "talked", "0", "1", "7", "8", "60", "61", "9999", "12345", ";", ";", "+", "-", "*", "==",
        "!=", "<", "<=", "(", ")", "=", "!", "waitedly", "waitedlong", "#", " ", "\t"};

    private final Random random;
    private final FriendLine line = new FriendLine();
    private final Model model = new Model();
    private final String run;
    private int calls = 0;
    private int gone = 0;

    private RandomTest(int seed) {
        random = new Random(seed);
        run = "run " + seed + ", call ";
    }

    public static void main(String[] args) {
        int runs = args.length == 0 ? 60 : Integer.parseInt(args[0]);
        for (int seed = 0; seed < runs; seed++) {
            new RandomTest(seed).go();
        }
        Check.end();
    }

    private int upTo(int most) {
        return random.nextInt(most + 1);
    }

    /** Mostly 0 .. most, at times just outside, seldom far off. */
    private int around(int most) {
        switch (random.nextInt(40)) {
            case 0: return -1;
            case 1: return most + 1;
            case 2: return random.nextInt();
            default: return upTo(most);
        }
    }

    private void same(String what, long got, long want) {
        calls++;
        // What later calls answer is free.
        if (calls <= 512) {
            Check.same(run + calls + ": " + what, got, want);
        }
    }

    private void same(String what, boolean got, boolean want) {
        same(what, got ? 1 : 0, want ? 1 : 0);
    }

    private void go() {
        boolean isBusy = random.nextBoolean();
        if (isBusy) {
            setUp();
        }
        while (calls < 490) {
            int kind = random.nextInt(20);
            if (kind < 3) {
                text();
            } else if (kind < 5) {
                telling();
            } else if (kind < 7) {
                night(isBusy ? 8 + upTo(32) : upTo(8));
            } else {
                asking();
            }
        }
    }

    private void setUp() {
        for (int i = 0; i < 5; i++) {
            int rank = upTo(3);
            same("volunteer", line.volunteer(rank), model.volunteer(rank));
        }
        for (int i = 0; i < 4; i++) {
            int behind = upTo(i) - 1;
            int lasts = 1 + upTo(60);
            same("step", line.step(behind, lasts), model.step(behind, lasts));
        }
    }

    private void telling() {
        int a = around(7);
        int b = around(7);
        switch (random.nextInt(7)) {
            case 0: same("volunteer " + a, line.volunteer(a), model.volunteer(a)); break;
            case 1: same("step", line.step(b - 1, a * 20), model.step(b - 1, a * 20)); break;
            case 2: {
                int caller = around(19);
                same("bar " + caller + " " + a, line.bar(caller, a), model.bar(caller, a));
                break;
            }
            case 3: same("care " + a, line.care(a), model.care(a)); break;
            case 4: {
                int night = around(199);
                same("holiday " + night, line.holiday(night), model.holiday(night));
                break;
            }
            default: same("learn " + a + " " + b, line.learn(a, b), model.learn(a, b)); break;
        }
    }

    private void night(int most) {
        int next = model.count(2) + (random.nextInt(4) == 0 ? upTo(9) - 1 : 1);
        same("clock " + next, line.clock(next), model.clock(next));
        for (int v = 0; v < 8; v++) {
            same("care " + v, line.care(v), model.care(v));
            if (random.nextInt(3) == 0) {
                same("learn " + v, line.learn(v, 0), model.learn(v, 0));
            }
        }
        for (int i = 0; i < 5; i++) {
            int v = around(4);
            int hours = random.nextBoolean() ? 63 : around(63);
            int longest = 1 + around(2);
            same("offer " + v + " " + hours, line.offer(v, hours, longest), model.offer(v, hours, longest));
        }
        if (random.nextInt(10) != 0) {
            same("shifts", line.shifts(), model.shifts());
        }
        for (int i = 0; i < most; i++) {
            int minute = random.nextInt(3) == 0 ? around(359) : upTo(150);
            int caller = random.nextInt(3) == 0 ? around(19) : upTo(2);
            int need = around(9);
            int topic = around(7);
            int length = random.nextInt(20) == 0 ? upTo(91) : 1 + upTo(40);
            same("call", line.call(minute, caller, need, topic, length), model.call(minute, caller, need, topic, length));
        }
        if (random.nextInt(10) != 0) {
            gone = model.count(2);
            same("go", line.go(), model.go());
            for (int call = Math.max(0, model.count(3) - most); call < model.count(3); call++) {
                int what = around(5);
                same("told " + call + " " + what, line.told(call, what), model.told(call, what));
            }
        }
    }

    private void asking() {
        int v = around(5);
        int night = random.nextBoolean() ? around(model.count(2)) : random.nextBoolean() ? gone : around(199);
        int call = around(Math.max(model.count(3) - 1, 0));
        int what = around(10);
        switch (random.nextInt(12)) {
            case 0: same("has", line.has(v, what, night), model.has(v, what, night)); break;
            case 1: same("has", line.has(v, what % 4, night), model.has(v, what % 4, night)); break;
            case 2: same("due", line.due(v), model.due(v)); break;
            case 3: same("there", line.there(v, night), model.there(v, night)); break;
            case 4: same("lacks", line.lacks(night), model.lacks(night)); break;
            case 5: same("told", line.told(call, what % 7), model.told(call, what % 7)); break;
            case 6: same("talked", line.talked(v, night), model.talked(v, night)); break;
            case 7: {
                int rank = around(3);
                same("note", line.note(call, rank), model.note(call, rank));
                break;
            }
            case 8: {
                int note = around(Math.max(model.count(7) - 1, 0));
                same("see", line.see(v, note, night), model.see(v, note, night));
                break;
            }
            case 9: {
                int hour = around(5);
                same("foretold " + hour + " " + night, line.foretold(hour, night), model.foretold(hour, night));
                break;
            }
            case 10: same("place", line.place(), model.place()); break;
            default: same("count " + what, line.count(what), model.count(what)); break;
        }
    }

    private void text() {
        StringBuilder text = new StringBuilder();
        int rules = random.nextInt(20) == 0 ? 19 + upTo(3) : upTo(6);
        for (int i = 0; i < rules; i++) {
            rule(text);
        }
        for (int harm = random.nextInt(3); harm > 1; harm--) {
            int at = upTo(text.length());
            int end = Math.min(text.length(), at + upTo(3));
            text.replace(at, end, WORDS[random.nextInt(WORDS.length)]);
        }
        text.setLength(Math.min(text.length(), 1980));
        for (int at = 0; at < text.length(); at += 20) {
            int[] w = new int[5];
            for (int i = 0; i < 20; i++) {
                w[i / 4] = w[i / 4] << 8 | (at + i < text.length() ? text.charAt(at + i) : ' ');
            }
            same("feed", line.feed(w[0], w[1], w[2], w[3], w[4]), model.feed(w[0], w[1], w[2], w[3], w[4]));
        }
        int n = around(model.count(10) < 20 ? model.count(10) : 3);
        same("back " + n, line.back(n), model.back(n));
        same("read of " + text, line.read(), model.read());
        same("place in " + text, line.place(), model.place());
    }

    private void rule(StringBuilder text) {
        String blank = random.nextBoolean() ? " " : "\n";
        switch (random.nextInt(4)) {
            case 0:
                text.append("first ");
                term(text, 0);
                text.append(random.nextInt(3) == 0 ? ";" : " if ");
                break;
            case 1: text.append("step ").append(random.nextInt(30) == 0 ? 8 : upTo(4)).append(blank).append("if "); break;
            case 2: text.append("drop if 5<waited and "); break;
            default: text.append("rest ").append(random.nextInt(30) == 0 ? 0 : 1 + upTo(29)).append("if "); break;
        }
        if (text.charAt(text.length() - 1) == ';') {
            return;
        }
        relation(text);
        while (random.nextInt(4) == 0) {
            text.append(" and ");
            relation(text);
        }
        text.append(";").append(random.nextInt(4) == 0 ? blank : "");
    }

    private void relation(StringBuilder text) {
        term(text, 0);
        text.append(new String[] {"==", "!=", "<", "<=", " < "}[random.nextInt(5)]);
        term(text, 0);
    }

    private void term(StringBuilder text, int depth) {
        int parts = 1 + random.nextInt(5) / 2;
        for (int i = 0; i < parts; i++) {
            if (i > 0) {
                text.append("+-*".charAt(random.nextInt(3)));
            }
            int kind = random.nextInt(depth > 6 ? 5 : 6);
            if (kind < 2) {
                text.append(random.nextInt(8) == 0 ? upTo(9999) : upTo(20));
            } else if (kind < 5) {
                text.append(WORDS[6 + random.nextInt(6)]);
            } else {
                text.append('(');
                term(text, depth + 1);
                text.append(')');
            }
        }
    }
}
