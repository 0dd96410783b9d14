import java.util.ArrayList;
import java.util.Arrays;
import java.util.List;

/** The edges of the document's terms, part II: the rules' text, its tokens, its grammar, its faults, what it says. */
final class Edges2RulesTest {
    private static final List<String> TOKENS = List.of("first", "step", "drop", "rest", "if", "and", "need", "topic",
            "waited", "hour", "known", "talked", "0", "9999", ";", "+", "-", "*", "==", "!=", "<", "<=", "(", ")",
            "abcdefgh", "abcdefghi", "12345", "=", "!", ">", ">=", "/", ",", ":", "First", "IF", "_", "\0", "\u00ff");
    private static final String[] RULE = {"first", "step", "drop", "rest"};
    private static final String[] UNIT = {"need", "topic", "waited", "hour", "known", "talked", "0", "9999", "("};
    private static final String[] NUMBER = {"0", "9999"};
    private static final String[] IF = {"if"};
    private static final String[] INSIDE = {"+", "-", "*", ")"};
    private static final String[] BEHIND_FIRST = {"+", "-", "*", "if", ";"};
    private static final String[] BEHIND_LEFT = {"+", "-", "*", "==", "!=", "<", "<="};
    private static final String[] BEHIND_RIGHT = {"+", "-", "*", "and", ";"};
    /** 2 ** 31, which wraps to the least int of all. */
    private static final String LEAST = "4096*4096*128";
    /** 383: six parentheses within one another, and a sum and a product at each of the seven levels. */
    private static final String DEEP = "1+2*(1+2*(1+2*(1+2*(1+2*(1+2*(1+2*2))))))";
    /** 399 tokens, behind which a semicolon is the last one for which there is room. */
    private static final String NEARLY_FULL = "first 1;first 1" + "+1".repeat(197);

    public static void main(String[] args) {
        fullText();
        emptyText();
        blanks();
        letters();
        digits();
        wordsOfEightLetters();
        wordsLetterByLetter();
        signsTheLongestThatCanBe();
        tokensWithoutBlanks();
        whatGoesOn();
        fourHundredTokens();
        fourHundredTokensOfConditions();
        twentyRules();
        sixParentheses();
        deepestTerms();
        wrongNumbers();
        firstFaultByPlace();
        leastFaultOfOnePlace();
        wrongOnlyWithoutOthers();
        faultChangesNothing();
        readAgainAndAgain();
        relations();
        joinedRelations();
        orderOfWork();
        wrapping();
        wrappingFirst();
        needAndTopic();
        waited();
        waitedTillTaken();
        hour();
        hourOfTheEnd();
        known();
        knownNightByNight();
        talkedOfWhom();
        Check.end();
    }

    private static String times(int n, String part) {
        return part.repeat(n);
    }

    private static void counted(String text, int rules) {
        FriendLine x = new FriendLine();
        Check.fine(x, text);
        Check.same("count(8) of " + text, x.count(8), rules);
    }

    private static void fullText() {
        Check.about("RULES are a text of at most 2,000 bytes");
        counted(times(2000, " "), 0);
        counted(times(1992, "\n") + "first 1;", 1);
        counted("first 1;" + times(1992, "\t"), 1);
        counted("first" + times(1993, "\r") + "1;", 1);
        counted(times(1987, " ") + "drop if 1==1;", 1);
        Check.faulty(times(1992, " ") + "first 1?", 1, 1999);
        Check.faulty(times(1995, " ") + "first", 1, 2000);
        Check.faulty("first" + times(1995, " "), 1, 2000);
        Check.faulty("first" + times(1994, " "), 1, 1999);
        Check.faulty(times(2000, "a"), 1, 0);
        Check.faulty(times(2000, "1"), 1, 0);
        Check.faulty("first " + times(1994, "0"), 1, 6);
        Check.faulty(times(2000, "("), 1, 0);
        Check.faulty("first " + times(1994, "("), 2, 12);
        Check.faulty(times(2000, "\0"), 1, 0);
        Check.faulty(times(2000, "\u00ff"), 1, 0);
    }

    private static void emptyText() {
        Check.about("text: {RULE}");
        counted("", 0);
        counted(" ", 0);
        counted("\t\n\r ", 0);
        counted("first 0;", 1);
        counted("first 0;first 0;", 2);
    }

    private static void blanks() {
        Check.about("blanks (9, 10, 13, 32)");
        for (int c = 0; c < 256; c++) {
            String text = "first" + (char) c + "1;";
            boolean isBlank = c == 9 || c == 10 || c == 13 || c == 32;
            if (isBlank) {
                counted(text, 1);
            } else if (c == '(') {
                Check.faulty(text, 1, 7);
            } else if (c >= '0' && c <= '9') {
                counted(text, 1);
            } else {
                Check.faulty(text, 1, c >= 'a' && c <= 'z' ? 0 : 5);
            }
        }
    }

    private static void letters() {
        Check.about("WORDS (letters a .. z, 8 at most)");
        for (char c : new char[] {'`', '{', '@', 'A', 'Z', '[', '\u00e0'}) {
            Check.faulty("first need" + c + ";", 1, 10);
            Check.faulty("first " + c + "need;", 1, 6);
        }
        for (char c : new char[] {'a', 'm', 'z'}) {
            Check.faulty("first need" + c + ";", 1, 6);
            Check.faulty("first " + c + "need;", 1, 6);
        }
    }

    private static void digits() {
        Check.about("INTS (1 to 4 digits) .. A longer one .. is no TOKEN");
        counted("first 0;", 1);
        counted("first 9;", 1);
        counted("first 9999;", 1);
        counted("first 0000;", 1);
        Check.faulty("first 10000;", 1, 6);
        Check.faulty("first 00000;", 1, 6);
        Check.faulty("first 99999;", 1, 6);
        Check.faulty("step 00001 if 1==1;", 1, 5);
        Check.faulty("first 4294967297;", 1, 6);
        Check.faulty("first 1/1;", 1, 7);
        Check.faulty("first 1:1;", 1, 7);
        Check.faulty("first 12 34;", 1, 9);
        holds("9999==10*1000-1");
        holds("0009==9");
        holds("1234==12*100+34");
    }

    private static void wordsOfEightLetters() {
        Check.about("WORDS (letters a .. z, 8 at most) .. A longer one .. is no TOKEN");
        Check.faulty("first abcdefgh;", 1, 6);
        Check.faulty("first abcdefghi;", 1, 6);
        Check.faulty("first needneed;", 1, 6);
        Check.faulty("first needneedneed;", 1, 6);
        Check.faulty("firstfirst 1;", 1, 0);
        Check.faulty("first 1 ifif;", 1, 8);
    }

    private static void wordsLetterByLetter() {
        Check.about("VAR: 'need' | 'topic' | 'waited' | 'hour' | 'known' | 'talked', and the words of RULE and COND");
        for (String word : new String[] {"need", "topic", "waited", "hour", "known", "talked"}) {
            for (String other : nearly(word)) {
                Check.faulty("first " + other + ";", 1, 6);
            }
        }
        for (String word : RULE) {
            for (String other : nearly(word)) {
                Check.faulty(other + " 1 if 1==1;", 1, 0);
            }
        }
        for (String other : nearly("if")) {
            Check.faulty("first 1 " + other + " 1==1;", 1, 8);
        }
        for (String other : nearly("and")) {
            Check.faulty("drop if 1==1 " + other + " 1==1;", 1, 13);
        }
    }

    /** A word with one letter changed, missing at its end or its beginning, or too many. */
    private static List<String> nearly(String word) {
        List<String> all = new ArrayList<>();
        for (int i = 0; i < word.length(); i++) {
            all.add(word.substring(0, i) + 'x' + word.substring(i + 1));
            all.add(word.substring(0, i) + Character.toUpperCase(word.charAt(i)) + word.substring(i + 1));
        }
        all.add(word.substring(1));
        all.add(word.substring(0, word.length() - 1));
        all.add(word + 's');
        all.add('s' + word);
        all.add(word + word);
        return all;
    }

    private static void signsTheLongestThatCanBe() {
        Check.about("TOKENS, the longest that can be .. SIGNS ; + - * == != < <= ( )");
        for (String sign : new String[] {"==", "!=", "<", "<="}) {
            counted("drop if 1" + sign + "1;", 1);
            counted("drop if 1 " + sign + " 1;", 1);
            int end = 9 + sign.length();
            Check.faulty("drop if 1" + sign + "<1;", 1, end);
            Check.faulty("drop if 1" + sign + "!1;", 1, end);
            Check.faulty("drop if 1" + sign + " =1;", 1, end + 1);
            Check.faulty("drop if 1" + sign, 1, end);
        }
        Check.faulty("drop if 1===1;", 1, 11);
        Check.faulty("drop if 1!==1;", 1, 11);
        Check.faulty("drop if 1<==1;", 1, 11);
        for (String sign : new String[] {"= =", "! =", "=", "!", "=<", ">", ">=", "<>", "&", "/", "%"}) {
            Check.faulty("drop if 1" + sign + "1;", 1, sign.equals("<>") ? 10 : 9);
            Check.faulty("drop if 1" + sign, 1, sign.equals("<>") ? 10 : 9);
        }
    }

    private static void tokensWithoutBlanks() {
        Check.about("with blanks .. between or not");
        counted("first1;step1if1<1;drop if(1)==1and 1!=1;rest1if(need)<=1and(1)<1;", 4);
        counted("first1if1==1and1==1;", 1);
        counted(" first ( need + 1 ) * 2 - 3 if need == 1 and topic != 2 ; ", 1);
        Check.faulty("firstneed;", 1, 0);
        counted("first need if need==need and1==1;", 1);
        Check.faulty("first need if need==needand 1==1;", 1, 20);
        Check.faulty("first needif 1==1;", 1, 6);
    }

    private static void whatGoesOn() {
        Check.about("SYNTAX: a TOKEN, or what is none, with which no text goes on");
        goesOn("", true, RULE);
        goesOn("first 1;", true, RULE);
        goesOn("drop if 1==1;", true, RULE);
        goesOn("first", false, UNIT);
        goesOn("first (", false, UNIT);
        goesOn("first ((", false, UNIT);
        goesOn("first 1 +", false, UNIT);
        goesOn("first need -", false, UNIT);
        goesOn("first (1) *", false, UNIT);
        goesOn("first 1", false, BEHIND_FIRST);
        goesOn("first talked", false, BEHIND_FIRST);
        goesOn("first (1)", false, BEHIND_FIRST);
        goesOn("first 1 + 1", false, BEHIND_FIRST);
        goesOn("first 1 * 1", false, BEHIND_FIRST);
        goesOn("first (1", false, INSIDE);
        goesOn("first ((1)", false, INSIDE);
        goesOn("first (1 * need", false, INSIDE);
        goesOn("step", false, NUMBER);
        goesOn("rest", false, NUMBER);
        goesOn("step 1", false, IF);
        goesOn("rest 1", false, IF);
        goesOn("drop", false, IF);
        for (String ahead : new String[] {"first 1 if", "step 1 if", "drop if", "rest 1 if", "drop if 1==1 and"}) {
            goesOn(ahead, false, UNIT);
            goesOn(ahead + " 1", false, BEHIND_LEFT);
            goesOn(ahead + " (1", false, INSIDE);
            goesOn(ahead + " (1)", false, BEHIND_LEFT);
            goesOn(ahead + " 1 -", false, UNIT);
            goesOn(ahead + " 1 <", false, UNIT);
            goesOn(ahead + " 1 == 1", false, BEHIND_RIGHT);
            goesOn(ahead + " 1 <= (1", false, INSIDE);
            goesOn(ahead + " 1 != (1)", false, BEHIND_RIGHT);
            goesOn(ahead + " 1 == 1 *", false, UNIT);
        }
    }

    /** Behind a beginning of a text go these tokens alone, and the text's end if it is whole. */
    private static void goesOn(String ahead, boolean isWhole, String... with) {
        String begun = ahead + " ";
        for (String token : TOKENS) {
            String text = begun + token;
            if (!Arrays.asList(with).contains(token)) {
                Check.faulty(text, 1, begun.length());
            } else if (token.equals(";")) {
                Check.faulty(text, 0, -1);
            } else {
                Check.faulty(text, 1, text.length());
            }
        }
        Check.faulty(begun, isWhole ? 0 : 1, isWhole ? -1 : begun.length());
    }

    private static void fourHundredTokens() {
        Check.about("ROOM: a 401st TOKEN");
        String ahead = NEARLY_FULL;
        int length = ahead.length();
        counted(ahead + ";", 2);
        counted(ahead + ";  ", 2);
        Check.faulty(ahead, 1, length);
        Check.faulty(ahead + "+", 1, length + 1);
        Check.faulty(ahead + "+ ", 1, length + 2);
        Check.faulty(ahead + "+1", 2, length + 1);
        Check.faulty(ahead + "*1;", 2, length + 1);
        Check.faulty(ahead + " if 1==1;", 2, length + 4);
        Check.faulty(ahead + "; first", 2, length + 2);
        Check.faulty(ahead + "; first 1 1 (((((((", 2, length + 2);
    }

    private static void fourHundredTokensOfConditions() {
        Check.about("ROOM: a 401st TOKEN: all 400 are worked out");
        String ahead = "drop if " + times(98, "1==1 and ") + "1==1";
        holdsNot(ahead.substring(8) + "+1");
        holds(ahead.substring(8) + "+0");
        Check.faulty(ahead + "+0+0;", 2, ahead.length() + 3);
    }

    private static void twentyRules() {
        Check.about("ROOM: .. a 21st RULE (at its first TOKEN)");
        String ahead = times(5, "first 1;step 1 if 1<1;drop if 1<1;rest 1 if 1<1;");
        counted(ahead.substring(0, ahead.length() - 14), 19);
        counted(ahead, 20);
        counted(ahead + " ", 20);
        for (String rule : RULE) {
            Check.faulty(ahead + rule, 2, ahead.length());
            Check.faulty(ahead + " " + rule + " ", 2, ahead.length() + 1);
        }
        Check.faulty(ahead + "need", 1, ahead.length());
        Check.faulty(ahead + ";", 1, ahead.length());
        Check.faulty(ahead + "?", 1, ahead.length());
        FriendLine x = new FriendLine();
        x.call(3, 0, 0, 0, 1);
        Check.fine(x, times(19, "drop if need!=0;") + "drop if need==0;");
        x.go();
        Lines.dropped(x, 0, 3);
    }

    private static void sixParentheses() {
        Check.about("ROOM: .. a 7th ( within one another (at it)");
        counted("first ((((((1))))));", 1);
        Check.faulty("first (((((((1)))))));", 2, 12);
        Check.faulty("first (1+(1+(1+(1+(1+(1+(1+1)))))));", 2, 24);
        counted("first " + times(30, "(1)+") + "1;", 1);
        counted("first " + times(5, "((((((1))))))*") + "((((((1))))));", 1);
        Check.faulty("first ((((((1))))))+(((((((1", 2, 26);
        Check.faulty("first (((((1)+(1)+((((1", 2, 20);
        counted("drop if ((((((1))))))<((((((1)))))) and ((((((1))))))<((((((1))))));", 1);
        Check.faulty("drop if (((((((1", 2, 14);
        Check.faulty("drop if 1<(((((((1", 2, 16);
        Check.faulty("drop if 1<1 and (((((((1", 2, 22);
        Check.faulty("drop if 1<1 and 1<(((((((1", 2, 24);
        Check.faulty("first ((((((1 (1))))));", 1, 14);
    }

    private static void deepestTerms() {
        Check.about("a 7th ( within one another: six are worked out");
        String deep = DEEP;
        String other = DEEP.replace("2*2", "2*3");
        holds(deep + "==383");
        holds("383==" + deep);
        holds("2-(3-(4-(5-(6-(7-8*2)))))==13");
        holds("1==1 and " + deep + "==" + deep);
        holdsNot("1==1 and " + deep + "==" + other);
        holdsNot(other + "==" + deep);
        holds(deep + "+128==" + other);
    }

    private static void wrongNumbers() {
        Check.about("WRONG: at the INT behind step: above 7; behind rest: 0, or above 60");
        for (int n : new int[] {0, 1, 6, 7, 8, 9, 59, 60, 61, 62, 100, 999, 1000, 9999}) {
            Check.faulty("step " + n + " if 1==1;", n <= 7 ? 0 : 5, n <= 7 ? -1 : 5);
            boolean isRest = n >= 1 && n <= 60;
            Check.faulty("rest  " + n + " if 1==1;", isRest ? 0 : 5, isRest ? -1 : 6);
        }
        counted("step 0007 if 1==1; rest 0060 if 1==1; rest 0001 if 1==1; step 0000 if 1==1;", 4);
        Check.faulty("step 0008 if 1==1;", 5, 5);
        Check.faulty("rest 0061 if 1==1;", 5, 5);
        Check.faulty("rest 0000 if 1==1;", 5, 5);
        Check.faulty("rest 00 if 1==1;", 5, 5);
        counted("first 9999 if 9999==0;", 1);
    }

    private static void firstFaultByPlace() {
        Check.about("FAULTS, the first by its place (a byte; the text's end: its length)");
        Check.faulty("?", 1, 0);
        Check.faulty(" ?", 1, 1);
        Check.faulty("first 1 ? ?", 1, 8);
        Check.faulty("first 1 1; first 1 1;", 1, 8);
        Check.faulty("first (((((((1 1", 2, 12);
        Check.faulty("first 1 1 (((((((1", 1, 8);
        Check.faulty("first", 1, 5);
        Check.faulty("first \n", 1, 7);
        String rules = times(20, "first 1;");
        Check.faulty(rules + "first first", 2, 160);
        Check.faulty(rules.substring(8) + "first first first", 1, 158);
        Check.faulty("step 8 if 1==1; step 9 if 1==1;", 5, 5);
        Check.faulty("step 7 if 1==1; rest 0 if 1==1; step 8 if 1==1;", 5, 21);
        Check.faulty("rest 60 if 1==1; step 8 if 1==1; rest 0 if 1==1;", 5, 22);
    }

    private static void leastFaultOfOnePlace() {
        Check.about("of one place the least");
        String full = NEARLY_FULL + ";";
        Check.faulty(full + "need", 1, full.length());
        Check.faulty(full + ";", 1, full.length());
        Check.faulty(full + "12345", 1, full.length());
        Check.faulty(NEARLY_FULL + "+;", 1, full.length());
        Check.faulty(times(20, "first 1;") + "and", 1, 160);
        Check.faulty("first ((((((1(", 1, 13);
        String deep = "first 1;first " + times(195, "1+") + "((((((";
        Check.faulty(deep, 1, deep.length());
        Check.faulty(deep + "(", 2, deep.length());
        Check.faulty(deep + ")", 1, deep.length());
    }

    private static void wrongOnlyWithoutOthers() {
        Check.about("If there is none, likewise: 5 WRONG");
        Check.faulty("step 8 if 1==1; ?", 1, 16);
        Check.faulty("step 8 if 1==1", 1, 14);
        Check.faulty("step 8", 1, 6);
        Check.faulty("rest 0", 1, 6);
        Check.faulty("step 8 if (((((((1", 2, 16);
        Check.faulty("step 8 if 1==1;" + times(20, "first 1;"), 2, 15 + 19 * 8);
        Check.faulty("step 8 if 1==1;" + times(19, "first 1;"), 5, 5);
        Check.faulty("step 8 if 1" + times(200, "+1") + "==1;", 2, 11 + 396);
        Check.faulty("step 8 if 1" + times(197, "+1") + "==1;", 2, 11 + 197 * 2 + 3);
        Check.faulty("step 8 if 1" + times(196, "+1") + "==1;", 5, 5);
    }

    private static void faultChangesNothing() {
        Check.about("A text with a FAULT changes nothing; else it is in place of the one ahead");
        String[] faulty = {"drop if 1==1;?", "drop if 1==1", times(20, "drop if 1==1;") + "drop",
            "drop if 1==1;step 8 if 1==1;", "drop if 1==1;first (((((((1)))))));"};
        for (String text : faulty) {
            FriendLine x = new FriendLine();
            Check.fine(x, "drop if need==3;");
            Check.yes("a fault in " + text, Check.read(x, text) != 0);
            Check.same("count(8)", x.count(8), 1);
            x.call(0, 0, 2, 0, 1);
            x.call(0, 0, 3, 0, 1);
            x.go();
            Lines.left(x, 0);
            Lines.dropped(x, 1, 0);
        }
        FriendLine y = new FriendLine();
        Check.fine(y, "drop if need==3; drop if need==4;");
        Check.fine(y, "drop if need==2;");
        Check.same("count(8)", y.count(8), 1);
        for (int need = 2; need <= 4; need++) {
            y.call(0, 0, need, 0, 1);
        }
        y.go();
        Lines.dropped(y, 0, 0);
        Lines.left(y, 1);
        Lines.left(y, 2);
        y.clock(1);
        Check.fine(y, "");
        Check.same("count(8)", y.count(8), 0);
        y.call(0, 0, 2, 0, 1);
        y.go();
        Lines.left(y, 3);
    }

    private static void readAgainAndAgain() {
        Check.about("else it is in place of the one ahead: again and again");
        FriendLine x = new FriendLine();
        for (int i = 0; i < 4; i++) {
            Check.fine(x, NEARLY_FULL + ";");
            Check.same("a fault", Check.read(x, "first 1+1*(1+1*(1+1*(1+1*(1+1*(1+1*(1+1*("), 2);
            Check.same("a fault", Check.read(x, "drop if 1==1 and 1+"), 1);
            Check.fine(x, times(20, "drop if 1==2;"));
        }
        Check.fine(x, "drop if " + DEEP + "==383 and topic==3; drop if 1==1 and need==4;");
        Check.same("count(8)", x.count(8), 2);
        x.call(0, 0, 4, 0, 1);
        x.call(0, 0, 0, 3, 1);
        x.call(0, 0, 0, 0, 1);
        x.go();
        Lines.dropped(x, 0, 0);
        Lines.dropped(x, 1, 0);
        Lines.left(x, 2);
    }

    private static void holds(String condition) {
        Check.same(condition, isDroppedBy(condition), 1);
    }

    private static void holdsNot(String condition) {
        Check.same(condition, isDroppedBy(condition), 0);
    }

    /** Whether a condition holds of a call of need 3 and topic 5. */
    private static int isDroppedBy(String condition) {
        FriendLine x = new FriendLine();
        x.call(0, 0, 3, 5, 1);
        Check.fine(x, "drop if " + condition + ";");
        x.go();
        return x.told(0, 1) == 2 ? 1 : 0;
    }

    private static void relations() {
        Check.about("REL: E ('==' | '!=' | '<' | '<=') E");
        String[] lesser = {"0-1", "0", "1", "9998", LEAST, LEAST};
        String[] greater = {"0", "1", "2", "9999", LEAST + "-1", LEAST + "+1"};
        for (int i = 0; i < lesser.length; i++) {
            String a = lesser[i];
            String b = greater[i];
            holds(a + "<" + b);
            holds(a + "<=" + b);
            holds(a + "!=" + b);
            holdsNot(a + "==" + b);
            holdsNot(b + "<" + a);
            holdsNot(b + "<=" + a);
            holds(b + "!=" + a);
            holdsNot(b + "==" + a);
            holdsNot(a + "<" + a);
            holds(a + "<=" + a);
            holdsNot(a + "!=" + a);
            holds(a + "==" + a);
        }
    }

    private static void joinedRelations() {
        Check.about("COND: REL {'and' REL}");
        for (int bits = 0; bits < 16; bits++) {
            StringBuilder condition = new StringBuilder();
            for (int i = 0; i < 4; i++) {
                condition.append(i == 0 ? "" : " and ").append(need(bits >> i & 1));
            }
            if (bits == 15) {
                holds(condition.toString());
            } else {
                holdsNot(condition.toString());
            }
        }
        holds("1!=2 and 1!=3");
        holds("need!=4 and 1<2 and need<=3 and topic==5");
    }

    /** A relation that holds of need 3, or one that does not. */
    private static String need(int holds) {
        return holds == 1 ? "need==3" : "need==4";
    }

    private static void orderOfWork() {
        Check.about("E: PART {('+' | '-') PART}. PART: UNIT {'*' UNIT}");
        holds("9-4-3==2");
        holds("9-(4-3)==8");
        holds("9-4+3==8");
        holds("2+3*4==14");
        holds("2*3+4==10");
        holds("(2+3)*4==20");
        holds("2*(3+4)==14");
        holds("20-2*3*2==8");
        holds("2*3-2*2==2");
        holds("8==2*(1+3)");
        holds("7==10-1-2");
        holds("(1)+(2)*(3)==7");
    }

    /** Any int as a term of ints of four digits. */
    private static String term(int n) {
        return (n >>> 24) + "*4096*4096+" + (n >>> 12 & 4095) + "*4096+" + (n & 4095);
    }

    private static void wrapping() {
        Check.about("Ints of 32 bits that wrap");
        holds(LEAST + "==" + term(Integer.MIN_VALUE));
        holds(LEAST + "<0");
        holds(LEAST + "-1==" + term(Integer.MAX_VALUE));
        holds("0<" + LEAST + "-1");
        holds(LEAST + "-1+1==" + LEAST);
        holds("0-" + LEAST + "==" + LEAST);
        holds(LEAST + "*2==0");
        holds(LEAST + "+" + LEAST + "==0");
        holds("(" + LEAST + "-1)*(" + LEAST + "-1)==1");
        holds("(" + LEAST + "-1)+(" + LEAST + "-1)==0-2");
        holds("9999*9999*9999==" + term(9999 * 9999 * 9999));
        holds("9999*9999*9999*9999*9999==" + term(9999 * 9999 * 9999 * 9999 * 9999));
        holdsNot(LEAST + "-1<" + LEAST);
    }

    private static void wrappingFirst() {
        Check.about("Ints of 32 bits that wrap: the greatest FIRST");
        FriendLine x = Lines.team(2);
        Lines.openForOne(x, 1, 0);
        Check.fine(x, "first " + LEAST + " if topic==0; first " + LEAST + "-1 if topic==1; first 0-1 if topic==2;");
        x.call(0, 0, 9, 0, 1);
        x.call(0, 0, 0, 1, 1);
        x.call(0, 0, 5, 2, 1);
        x.go();
        Lines.taken(x, 1, 0, 0, 1);
        Lines.taken(x, 2, 0, 1, 2);
        Lines.taken(x, 0, 0, 2, 3);
    }

    private static void needAndTopic() {
        Check.about("VARS: of a call NEED, TOPIC");
        FriendLine x = new FriendLine();
        Check.fine(x, "drop if need==0 and topic==7; drop if need==9 and topic==0;");
        x.call(0, 0, 0, 7, 1);
        x.call(0, 0, 9, 0, 1);
        x.call(0, 0, 0, 0, 1);
        x.call(0, 0, 9, 7, 1);
        x.go();
        Lines.dropped(x, 0, 0);
        Lines.dropped(x, 1, 0);
        Lines.left(x, 2);
        Lines.left(x, 3);
    }

    private static void waited() {
        Check.about("the MINUTES it waited (till now ..)");
        for (int came : new int[] {0, 1, 358, 359}) {
            for (int wait : new int[] {0, 1, 2, 358, 359, 360}) {
                FriendLine x = new FriendLine();
                Check.fine(x, "drop if waited==" + wait + ";");
                x.call(came, 0, 0, 0, 1);
                x.go();
                if (came + wait <= 359) {
                    Lines.dropped(x, 0, came + wait);
                } else {
                    Lines.left(x, 0);
                }
            }
        }
    }

    private static void waitedTillTaken() {
        Check.about("the MINUTES it waited (.. or till it was taken)");
        FriendLine x = Lines.team(2);
        Lines.openForOne(x, 7, 0);
        Check.fine(x, "rest 30 if waited==0; rest 7 if waited==38; rest 60 if waited==48;");
        x.call(0, 0, 9, 0, 10);
        x.call(2, 0, 8, 0, 10);
        x.call(3, 0, 7, 0, 10);
        x.go();
        Lines.taken(x, 0, 0, 0, 10);
        Lines.taken(x, 1, 0, 40, 50);
        Lines.taken(x, 2, 0, 57, 67);
    }

    private static void hour() {
        Check.about("the HOUR of this MINUTE");
        int[] minutes = {0, 59, 60, 299, 300, 359};
        for (int hour = 0; hour <= 6; hour++) {
            FriendLine x = new FriendLine();
            Check.fine(x, "drop if hour==" + hour + ";");
            for (int minute : minutes) {
                x.call(minute, 0, 0, 0, 1);
            }
            x.go();
            for (int call = 0; call < minutes.length; call++) {
                if (hour <= 5 && minutes[call] < hour * 60 + 60) {
                    Lines.dropped(x, call, Math.max(minutes[call], hour * 60));
                } else {
                    Lines.left(x, call);
                }
            }
        }
    }

    private static void hourOfTheEnd() {
        Check.about("the HOUR of this MINUTE: in rest, of that in which the call ends");
        for (int length : new int[] {59, 60, 61}) {
            FriendLine x = Lines.team(2);
            Lines.openForOne(x, 7, 0);
            Check.fine(x, "rest 20 if hour==1;");
            x.call(0, 0, 9, 0, length);
            x.call(0, 0, 0, 0, 5);
            x.go();
            int since = length < 60 ? length : length + 20;
            Lines.taken(x, 1, 0, since, since + 5);
        }
    }

    private static void known() {
        Check.about("how many calls of its CALLER were taken in NIGHTS ahead");
        FriendLine x = Lines.team(2);
        Check.fine(x, "drop if topic==7; rest 60 if known!=0 and topic==1;");
        Lines.open(x, 1);
        x.call(0, 19, 0, 0, 1);
        x.call(0, 19, 0, 1, 1);
        x.call(5, 19, 0, 0, 1);
        x.call(5, 19, 0, 7, 1);
        x.call(70, 19, 0, 0, 1);
        x.call(5, 0, 0, 0, 1);
        Check.same("go(): taken, dropped and left", x.go(), 4);
        Lines.taken(x, 5, 1, 5, 6);
        x.clock(1);
        Lines.open(x, 1);
        x.call(0, 19, 0, 0, 1);
        x.clock(199);
        Check.fine(x, "drop if known==3 and topic==0; drop if known==1 and topic==1; drop if known==0 and topic==2;");
        for (int caller : new int[] {19, 0, 1}) {
            for (int topic = 0; topic < 3; topic++) {
                x.call(0, caller, 0, topic, 1);
            }
        }
        x.go();
        for (int i = 0; i < 9; i++) {
            boolean isDropped = i == 0 || i == 4 || i == 8;
            Check.same("told(" + (7 + i) + ", 1)", x.told(7 + i, 1), isDropped ? 2 : 3);
        }
    }

    private static void knownNightByNight() {
        Check.about("how many calls of its CALLER were taken in NIGHTS ahead: of all of them, not of this one");
        FriendLine x = Lines.team(2);
        for (int night = 0; night < 5; night++) {
            x.clock(night);
            Lines.open(x, 1);
            Check.fine(x, "drop if known!=" + night + " and topic==0; drop if known!=" + 2 * night + " and topic==1;");
            x.call(0, 0, 0, 0, 1);
            x.call(1, 19, 0, 1, 1);
            x.call(2, 19, 0, 1, 1);
            Check.same("go() in " + night, x.go(), 3);
        }
    }

    private static void talkedOfWhom() {
        Check.about("talked: MINUTES that the VOLUNTEER asked for (in rest, in step) talked .. so far, else 0");
        FriendLine x = Lines.team(2);
        Lines.openForOne(x, 7, 0);
        Check.fine(x, "drop if talked!=0; first 0-need if talked!=0; rest 10 if talked==5; rest 20 if talked==11;"
                + "step 7 if 13<=talked;");
        x.call(0, 0, 7, 0, 5);
        x.call(0, 0, 6, 0, 6);
        x.call(0, 0, 5, 0, 1);
        x.call(0, 0, 4, 0, 1);
        x.call(0, 0, 3, 0, 1);
        Check.same("go()", x.go(), 4);
        Lines.taken(x, 0, 0, 0, 5);
        Lines.taken(x, 1, 0, 15, 21);
        Lines.taken(x, 2, 0, 41, 42);
        Lines.taken(x, 3, 0, 42, 43);
        Lines.left(x, 4);
        x.clock(1);
        Lines.open(x, 1);
        x.call(0, 0, 1, 0, 1);
        Check.same("go(): of this NIGHT alone", x.go(), 1);
    }
}
