/** The edges of the document's terms, part V: notes, who may see them, calls that are foretold. */
final class Edges5NotesTest {
    public static void main(String[] args) {
        sixtyNotes();
        toACallThatWasTaken();
        ranksOfNotes();
        notAheadOfItsNight();
        byWhomItIs();
        rankIsNoLess();
        notBarredInThatNight();
        noLikeNight();
        goneThroughAlone();
        aheadOfTheClocks();
        noHolidaysOfItsWeekday();
        holidaysOfWhateverWeekday();
        holidayFromNowOn();
        callsThatCame();
        wholePart();
        allNights();
        Check.end();
    }

    /**
     * Volunteers 0 to 3 have these numbers as ranks, and 4 is of rank 0. Night 0 is gone through: calls 0 and 1 of
     * caller 6 were taken by 4 and 3, call 2 was dropped, call 3 was left; call 4 is of night 5, the clock's.
     */
    private static FriendLine line() {
        FriendLine x = new FriendLine();
        x.step(-1, 200);
        for (int v = 0; v < 5; v++) {
            x.volunteer(v % 4);
        }
        x.learn(4, 0);
        x.offer(3, 1, 1);
        x.offer(4, 1, 1);
        x.shifts();
        Check.fine(x, "drop if topic==7;");
        x.call(0, 6, 1, 0, 9);
        x.call(0, 6, 9, 0, 9);
        x.call(1, 6, 1, 7, 9);
        x.call(60, 6, 1, 0, 9);
        Check.same("go()", x.go(), 2);
        Check.same("told(0, 2)", x.told(0, 2), 4);
        Check.same("told(1, 2)", x.told(1, 2), 3);
        x.clock(5);
        x.call(0, 6, 1, 0, 9);
        return x;
    }

    private static void sixtyNotes() {
        Check.about("NOTES, 60 at most");
        FriendLine x = line();
        Check.same("see of none", x.see(0, 0, 5), -1);
        for (int i = 0; i < 60; i++) {
            Check.same("see ahead of note " + i, x.see(3, i, 5), -1);
            Check.same("note " + i, x.note(i % 2, i % 4), i);
            Check.same("see behind note " + i, x.see(3, i, 5), 1);
        }
        Check.same("a 61st", x.note(0, 0), -1);
        Check.same("see of 59", x.see(0, 59, 5), 0);
        Check.same("see of 56", x.see(0, 56, 5), 1);
        Check.same("see of 60", x.see(3, 60, 5), -1);
        Check.same("see of -1", x.see(3, -1, 5), -1);
        Check.same("count(7)", x.count(7), 60);
    }

    private static void toACallThatWasTaken() {
        Check.about("NOTES .. to a call that was taken");
        FriendLine x = line();
        Check.same("dropped", x.note(2, 0), -1);
        Check.same("left", x.note(3, 0), -1);
        Check.same("not gone through", x.note(4, 0), -1);
        Check.same("no call", x.note(5, 0), -1);
        Check.same("call -1", x.note(-1, 0), -1);
        Check.same("taken", x.note(0, 0), 0);
        Check.same("taken", x.note(1, 0), 1);
        Check.same("to the same call", x.note(1, 0), 2);
        x.offer(4, 1, 1);
        x.offer(0, 1, 1);
        x.shifts();
        x.go();
        Check.same("taken in the clock's night", x.note(4, 0), 3);
    }

    private static void ranksOfNotes() {
        Check.about("NOTES .. with a RANK (0 .. 3)");
        FriendLine x = line();
        Check.same("rank -1", x.note(0, -1), -1);
        Check.same("rank 4", x.note(0, 4), -1);
        for (int rank = 0; rank <= 3; rank++) {
            Check.same("rank " + rank, x.note(0, rank), rank);
        }
    }

    private static void notAheadOfItsNight() {
        Check.about("at the CLOCK's NIGHT. A VOLUNTEER may SEE it in a NIGHT: not ahead of that");
        FriendLine x = line();
        x.note(0, 0);
        x.clock(199);
        x.note(0, 0);
        for (int v = 3; v <= 4; v++) {
            Check.same("see(" + v + ", 0, 0): the call's night", x.see(v, 0, 0), 0);
            Check.same("see(" + v + ", 0, 4)", x.see(v, 0, 4), 0);
            Check.same("see(" + v + ", 0, 5)", x.see(v, 0, 5), 1);
            Check.same("see(" + v + ", 0, 6)", x.see(v, 0, 6), 1);
            Check.same("see(" + v + ", 0, 199)", x.see(v, 0, 199), 1);
            Check.same("see(" + v + ", 1, 198)", x.see(v, 1, 198), 0);
            Check.same("see(" + v + ", 1, 199)", x.see(v, 1, 199), 1);
        }
        FriendLine y = Lines.team(2);
        Lines.open(y, 1);
        y.call(0, 0, 0, 0, 1);
        y.go();
        y.note(0, 0);
        Check.same("see(1, 0, 0): a note of night 0", y.see(1, 0, 0), 1);
    }

    private static void byWhomItIs() {
        Check.about("by whom it is");
        FriendLine x = line();
        x.note(0, 3);
        Check.same("see(4, 0, 5): of rank 0, but its own", x.see(4, 0, 5), 1);
        Check.same("see(0, 0, 5): of rank 0", x.see(0, 0, 5), 0);
        x.bar(6, 4);
        Check.same("see(4, 0, 5): barred, but its own", x.see(4, 0, 5), 1);
        Check.same("see(4, 0, 199)", x.see(4, 0, 199), 1);
        x.note(1, 3);
        Check.same("see(4, 1, 5): another one's", x.see(4, 1, 5), 0);
    }

    private static void rankIsNoLess() {
        Check.about("else, if its own RANK is no less");
        FriendLine x = line();
        for (int rank = 0; rank <= 3; rank++) {
            int note = x.note(0, rank);
            for (int v = 0; v <= 3; v++) {
                Check.same("see(" + v + ", " + note + ", 5)", x.see(v, note, 5), v >= rank ? 1 : 0);
            }
        }
    }

    private static void notBarredInThatNight() {
        Check.about("and it is not BARRED from the CALLER in that NIGHT");
        FriendLine x = line();
        x.note(0, 0);
        x.clock(8);
        Check.yes("bar(6, 3)", x.bar(6, 3));
        Check.yes("bar(5, 2): another caller", x.bar(5, 2));
        for (int night : new int[] {4, 5, 7, 8, 9, 199}) {
            Check.same("see(3, 0, " + night + ")", x.see(3, 0, night), night >= 5 && night < 8 ? 1 : 0);
            Check.same("see(2, 0, " + night + ")", x.see(2, 0, night), night >= 5 ? 1 : 0);
        }
    }

    /** A night with so many calls in hour 0 is gone through. */
    private static void gone(FriendLine x, int night, int calls) {
        Check.yes("clock(" + night + ")", x.clock(night));
        for (int i = 0; i < calls; i++) {
            x.call(i, 0, 0, 0, 1);
        }
        Check.same("go() in " + night, x.go(), 0);
    }

    private static void noLikeNight() {
        Check.about("NONE: no such ones, or there is no like NIGHT");
        FriendLine x = new FriendLine();
        for (int night : new int[] {0, 1, 6, 7, 199}) {
            Check.same("foretold(0, " + night + ") of none", x.foretold(0, night), -1);
        }
        gone(x, 0, 0);
        x.clock(1);
        Check.same("foretold(0, 7): a like night without calls", x.foretold(0, 7), 0);
        Check.same("foretold(0, 6)", x.foretold(0, 6), -1);
        Check.same("foretold(0, 8)", x.foretold(0, 8), -1);
        Check.same("foretold(5, 7)", x.foretold(5, 7), 0);
        Check.same("foretold(6, 7)", x.foretold(6, 7), -1);
        Check.same("foretold(-1, 7)", x.foretold(-1, 7), -1);
        Check.same("foretold(0, 196)", x.foretold(0, 196), 0);
        Check.same("foretold(0, 203)", x.foretold(0, 203), -1);
        Check.same("foretold(0, -7)", x.foretold(0, -7), -1);
    }

    private static void goneThroughAlone() {
        Check.about("over all NIGHTS GONE THROUGH");
        FriendLine x = new FriendLine();
        x.call(0, 0, 0, 0, 1);
        x.clock(7);
        Check.same("foretold(0, 14): passed by", x.foretold(0, 14), -1);
        gone(x, 7, 3);
        x.clock(14);
        Check.same("foretold(0, 14)", x.foretold(0, 14), 300);
        x.call(0, 0, 0, 0, 1);
        x.clock(21);
        Check.same("foretold(0, 21): 14 was passed by", x.foretold(0, 21), 300);
    }

    private static void aheadOfTheClocks() {
        Check.about("as of the CLOCK's: over all NIGHTS GONE THROUGH ahead of it");
        FriendLine x = new FriendLine();
        gone(x, 0, 2);
        Check.same("foretold(0, 7) in night 0", x.foretold(0, 7), -1);
        x.clock(1);
        Check.same("foretold(0, 7) in night 1", x.foretold(0, 7), 200);
        gone(x, 7, 4);
        Check.same("foretold(0, 14) in night 7", x.foretold(0, 14), 200);
        x.clock(8);
        Check.same("foretold(0, 14) in night 8", x.foretold(0, 14), 300);
        gone(x, 199, 1);
        Check.same("foretold(0, 199): 199 is the clock's", x.foretold(0, 199), -1);
    }

    private static void noHolidaysOfItsWeekday() {
        Check.about("that are no HOLIDAYS, if it is none, of its weekday");
        FriendLine x = new FriendLine();
        x.holiday(7);
        gone(x, 0, 1);
        gone(x, 6, 2);
        gone(x, 7, 4);
        gone(x, 8, 8);
        gone(x, 14, 3);
        x.clock(15);
        Check.same("foretold(0, 21)", x.foretold(0, 21), 200);
        Check.same("foretold(0, 196)", x.foretold(0, 196), 200);
        Check.same("foretold(0, 20)", x.foretold(0, 20), 200);
        Check.same("foretold(0, 22)", x.foretold(0, 22), 800);
        Check.same("foretold(0, 23)", x.foretold(0, 23), -1);
    }

    private static void holidaysOfWhateverWeekday() {
        Check.about("or that are HOLIDAYS, if it is one (of whatever weekday)");
        FriendLine x = new FriendLine();
        x.holiday(1);
        x.holiday(9);
        x.holiday(22);
        x.holiday(199);
        gone(x, 0, 9);
        gone(x, 1, 1);
        gone(x, 8, 9);
        x.clock(9);
        Check.same("foretold(0, 9) by night 1", x.foretold(0, 9), 100);
        gone(x, 9, 2);
        x.clock(10);
        Check.same("foretold(0, 22) by nights 1 and 9", x.foretold(0, 22), 150);
        Check.same("foretold(0, 199)", x.foretold(0, 199), 150);
        Check.same("foretold(0, 29): no holiday", x.foretold(0, 29), 900);
        FriendLine y = new FriendLine();
        y.holiday(7);
        gone(y, 0, 1);
        y.clock(1);
        Check.same("foretold(0, 7): the first holiday", y.foretold(0, 7), -1);
    }

    private static void holidayFromNowOn() {
        Check.about("A NIGHT is a HOLIDAY from now on");
        FriendLine x = new FriendLine();
        x.holiday(2);
        gone(x, 2, 5);
        gone(x, 3, 7);
        x.clock(4);
        Check.same("foretold(0, 10)", x.foretold(0, 10), 700);
        Check.yes("holiday(10)", x.holiday(10));
        Check.same("foretold(0, 10): a holiday now", x.foretold(0, 10), 500);
        Check.yes("holiday(4): the clock's", x.holiday(4));
        gone(x, 4, 1);
        x.clock(5);
        Check.same("foretold(0, 10): of two", x.foretold(0, 10), 300);
    }

    private static void callsThatCame() {
        Check.about("the calls that came in that HOUR");
        FriendLine x = Lines.team(2);
        Lines.open(x, 1);
        Check.fine(x, "drop if topic==7;");
        x.call(0, 0, 0, 0, 90);
        x.call(59, 0, 0, 7, 1);
        x.call(59, 0, 0, 0, 1);
        x.call(59, 0, 0, 0, 1);
        x.call(60, 0, 0, 0, 1);
        Check.same("go(): taken, dropped and left", x.go(), 2);
        x.clock(1);
        Check.same("foretold(0, 7)", x.foretold(0, 7), 400);
        Check.same("foretold(1, 7)", x.foretold(1, 7), 100);
        Check.same("foretold(2, 7)", x.foretold(2, 7), 0);
    }

    private static void wholePart() {
        Check.about("together, times 100, by how many NIGHTS they are (the whole part)");
        FriendLine x = new FriendLine();
        int calls = 0;
        for (int n = 0; n < 7; n++) {
            gone(x, n * 7, n % 3);
            calls += n % 3;
            x.clock(n * 7 + 1);
            Check.same("foretold(0, 70) by " + (n + 1), x.foretold(0, 70), calls * 100 / (n + 1));
        }
        FriendLine y = new FriendLine();
        gone(y, 0, 40);
        y.clock(1);
        Check.same("foretold(0, 70) of 40 calls", y.foretold(0, 70), 4000);
    }

    private static void allNights() {
        Check.about("over all NIGHTS GONE THROUGH: 199 of them");
        FriendLine x = new FriendLine();
        for (int night = 0; night < 199; night++) {
            x.clock(night);
            if (night % 7 == 3) {
                x.call(0, 0, 0, 0, 1);
            }
            x.go();
        }
        x.clock(199);
        Check.same("count(9)", x.count(9), 199);
        Check.same("foretold(0, 199) by 28 nights", x.foretold(0, 199), 100);
        Check.same("foretold(0, 198)", x.foretold(0, 198), 0);
        Check.same("go() in 199", x.go(), 0);
        Check.same("count(9)", x.count(9), 200);
    }
}
