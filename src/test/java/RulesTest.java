/** Promises 4 and 5: the text of the rules, its tokens, its grammar and its faults. */
final class RulesTest {
    public static void main(String[] args) {
        textsThatAreFine();
        tokens();
        syntax();
        room();
        wrong();
        faultsByPlace();
        faultyTextChangesNothing();
        Check.end();
    }

    private static void counted(String text, int rules) {
        FriendLine x = new FriendLine();
        Check.fine(x, text);
        Check.same("count(8) of " + text, x.count(8), rules);
        Check.same("count(10) of " + text, x.count(10), 0);
    }

    private static void textsThatAreFine() {
        counted("", 0);
        counted(" \t\n\r ", 0);
        counted("first need;", 1);
        counted("first need if hour<=3 and known!=0;", 1);
        counted("step0if need==1;step 7 if need==1;", 2);
        counted("drop if waited*2<(3+4)-5;", 1);
        counted("rest 1 if talked<5;rest 60 if 0==0;rest 0060 if 1<2;", 3);
        counted("first((((((1))))));", 1);
        counted("first(1)+((2))*(((3)))-((((((4))))));", 1);
        counted("first 9999*9999;", 1);
    }

    private static void tokens() {
        Check.faulty("firstneed;", 1, 0);
        Check.faulty("first abcdefgh;", 1, 6);
        Check.faulty("first abcdefghi;", 1, 6);
        Check.faulty("first 12345;", 1, 6);
        Check.faulty("first 00001;", 1, 6);
        Check.faulty("drop if need=0;", 1, 12);
        Check.faulty("drop if need===0;", 1, 14);
        Check.faulty("drop if need<==0;", 1, 14);
        Check.faulty("drop if need< =0;", 1, 14);
        Check.faulty("drop if need>0;", 1, 12);
        Check.faulty("drop if need!0;", 1, 12);
        Check.faulty("drop if need! =0;", 1, 12);
        Check.faulty("First need;", 1, 0);
        Check.faulty("first Need;", 1, 6);
        Check.faulty("first\u000bneed;", 1, 5);
        Check.faulty("first\u0000need;", 1, 5);
        Check.faulty("first need/2;", 1, 10);
        Check.faulty("first need\u00e9;", 1, 10);
    }

    private static void syntax() {
        Check.faulty(";", 1, 0);
        Check.faulty("need;", 1, 0);
        Check.faulty("if need==0;", 1, 0);
        Check.faulty("first", 1, 5);
        Check.faulty("first  ", 1, 7);
        Check.faulty("first ;", 1, 6);
        Check.faulty("first need", 1, 10);
        Check.faulty("first need; first", 1, 17);
        Check.faulty("first -1;", 1, 6);
        Check.faulty("first need topic;", 1, 11);
        Check.faulty("first need==0;", 1, 10);
        Check.faulty("first need and 1==1;", 1, 11);
        Check.faulty("first (need;", 1, 11);
        Check.faulty("first need);", 1, 10);
        Check.faulty("first ();", 1, 7);
        Check.faulty("first (need==1);", 1, 11);
        Check.faulty("first need if;", 1, 13);
        Check.faulty("first need if need;", 1, 18);
        Check.faulty("first need if need==;", 1, 20);
        Check.faulty("first need if need==1==1;", 1, 21);
        Check.faulty("first need if need==1 and;", 1, 25);
        Check.faulty("first need if need==1 if 1==1;", 1, 22);
        Check.faulty("first need if (1==1);", 1, 16);
        Check.faulty("step if need==1;", 1, 5);
        Check.faulty("step need if 1==1;", 1, 5);
        Check.faulty("step 1;", 1, 6);
        Check.faulty("step 1+1 if 1==1;", 1, 6);
        Check.faulty("rest 5;", 1, 6);
        Check.faulty("drop;", 1, 4);
        Check.faulty("drop 5 if 1==1;", 1, 5);
        Check.faulty("first 1;;", 1, 8);
        Check.faulty("first 1 + ;", 1, 10);
        Check.faulty("first 1 * * 2;", 1, 10);
        Check.faulty("first step;", 1, 6);
    }

    private static void room() {
        Check.faulty("first(((((((1)))))));", 2, 11);
        Check.faulty("first((((((1)))))) + (((((((2", 2, 27);
        Check.faulty("first 1(((((((1", 1, 7);
        StringBuilder rules = new StringBuilder();
        for (int i = 0; i < 20; i++) {
            rules.append("first 1;");
        }
        counted(rules.toString(), 20);
        Check.faulty(rules + "  first", 2, 162);
        Check.faulty(rules + "need", 1, 160);
        Check.faulty(rules + "#", 1, 160);
        manyTokens();
    }

    /** With a semicolon behind it: three tokens, and two for each +1. */
    private static String sum(int ones) {
        StringBuilder text = new StringBuilder("first 1");
        for (int i = 0; i < ones; i++) {
            text.append("+1");
        }
        return text.toString();
    }

    private static void manyTokens() {
        counted(sum(198) + "; ", 1);
        Check.faulty(sum(199) + ";", 2, 7 + 2 * 199);
        Check.faulty(sum(199) + "?", 1, 7 + 2 * 199);
        Check.faulty(sum(199) + "first", 1, 7 + 2 * 199);
        Check.faulty(sum(199), 1, 7 + 2 * 199);
        Check.faulty(sum(199) + "  ", 1, 9 + 2 * 199);
        // 3 and 397 tokens are 400; 6 and 394 ahead of the semicolon are as many, and it is one too many.
        counted("first 1;" + sum(197) + "; ", 2);
        Check.faulty("first 1;" + sum(197) + "; drop", 2, 8 + 7 + 2 * 197 + 2);
        Check.faulty("drop if 1==1;" + sum(196) + ";", 2, 13 + 7 + 2 * 196);
    }

    private static void wrong() {
        Check.faulty("step 8 if 1==1;", 5, 5);
        Check.faulty("step 9999 if 1==1;", 5, 5);
        Check.faulty("rest 0 if 1==1;", 5, 5);
        Check.faulty("rest 0000 if 1==1;", 5, 5);
        Check.faulty("rest 61 if 1==1;", 5, 5);
        Check.faulty("first 1; rest 61 if 1==1; step 8 if 1==1;", 5, 14);
    }

    private static void faultsByPlace() {
        Check.faulty("step 8 if 1==1; need", 1, 16);
        Check.faulty("step 8 if (((((((1==1;", 2, 16);
        Check.faulty("step 8 if 1==1", 1, 14);
        Check.faulty("first(((((((1 1", 2, 11);
        Check.faulty("first 1 1 (((((((1", 1, 8);
    }

    private static void faultyTextChangesNothing() {
        FriendLine x = new FriendLine();
        Check.fine(x, "first 1;drop if 1==2;");
        Check.same("read() of a fault", Check.read(x, "first 1;drop if 1==1;first 3;step 8 if 1==1;"), 5);
        Check.same("place()", x.place(), 34);
        Check.same("place() again", x.place(), 34);
        Check.same("count(8)", x.count(8), 2);
        Check.same("read() of a fault", Check.read(x, "first"), 1);
        Check.same("count(8)", x.count(8), 2);
        Check.fine(x, "first 2;");
        Check.same("count(8)", x.count(8), 1);
        Check.same("read() of nothing", x.read(), 0);
        Check.same("count(8)", x.count(8), 0);
    }
}
