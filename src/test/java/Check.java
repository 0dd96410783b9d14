/** What all tests use: comparing answers, and putting a text on the tape. */
final class Check {
    private static int wrong = 0;
    private static String sentence = "";

    private Check() {
    }

    /** What is compared from here on stands for these words of the document. */
    static void about(String words) {
        sentence = "'" + words + "': ";
    }

    static void same(String what, long got, long want) {
        if (got != want) {
            wrong++;
            System.out.println(sentence + what + " answered " + got + ", due is " + want);
        }
    }

    static void yes(String what, boolean got) {
        same(what, got ? 1 : 0, 1);
    }

    static void no(String what, boolean got) {
        same(what, got ? 1 : 0, 0);
    }

    static void end() {
        if (wrong != 0) {
            System.out.println(wrong + " answers are not as due");
            System.exit(1);
        }
    }

    /** Puts a text on an empty tape; its last twenty bytes may be filled up with blanks and taken back. */
    static void put(FriendLine line, String text) {
        for (int at = 0; at < text.length(); at += 20) {
            line.feed(word(text, at), word(text, at + 4), word(text, at + 8), word(text, at + 12), word(text, at + 16));
        }
        int surplus = (20 - text.length() % 20) % 20;
        same("back(" + surplus + ")", line.back(surplus), text.length());
    }

    static int read(FriendLine line, String text) {
        put(line, text);
        return line.read();
    }

    static void fine(FriendLine line, String text) {
        same("read() of " + text, read(line, text), 0);
        same("place() of " + text, line.place(), FriendLine.NONE);
    }

    static void faulty(String text, int fault, int place) {
        FriendLine line = new FriendLine();
        same("read() of " + text, read(line, text), fault);
        same("place() of " + text, line.place(), place);
        same("count(10) behind " + text, line.count(10), 0);
    }

    private static int word(String text, int at) {
        int word = 0;
        for (int i = at; i < at + 4; i++) {
            word = word << 8 | (i < text.length() ? text.charAt(i) & 255 : ' ');
        }
        return word;
    }
}
