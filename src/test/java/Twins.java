import java.util.ArrayList;
import java.util.List;
import java.util.function.Supplier;
import java.util.function.ToIntFunction;

/** Two lines with the same calls behind them: one is asked what must be refused, and goes on as the other does. */
final class Twins {
    private Twins() {
    }

    /** The call answers NONE (a boolean one by 'bit': 0), and nothing happens. */
    static void refused(String what, Supplier<FriendLine> made, ToIntFunction<FriendLine> call) {
        same(what, made, call, FriendLine.NONE);
    }

    static void no(String what, Supplier<FriendLine> made, ToIntFunction<FriendLine> call) {
        same(what, made, call, 0);
    }

    static int bit(boolean is) {
        return is ? 1 : 0;
    }

    private static void same(String what, Supplier<FriendLine> made, ToIntFunction<FriendLine> call, int due) {
        FriendLine asked = made.get();
        FriendLine other = made.get();
        Check.same(what, call.applyAsInt(asked), due);
        List<Integer> got = goOn(asked);
        List<Integer> want = goOn(other);
        for (int i = 0; i < got.size(); i++) {
            Check.same("answer " + i + " behind " + what, got.get(i), want.get(i));
        }
    }

    /** All that can be asked without a change, then what changes most of it, then the same questions again. */
    private static List<Integer> goOn(FriendLine x) {
        List<Integer> all = new ArrayList<>();
        ask(x, all);
        change(x, all);
        ask(x, all);
        return all;
    }

    private static void ask(FriendLine x, List<Integer> all) {
        int tonight = x.count(2);
        for (int what = 0; what <= 10; what++) {
            all.add(x.count(what));
        }
        all.add(x.place());
        for (int v = 0; v < 3; v++) {
            all.add(x.due(v));
            all.add(x.talked(v, tonight));
            all.add(x.there(v, tonight));
            all.add(x.has(v, 0, tonight));
            all.add(x.has(v, 1, tonight + 1));
            all.add(x.see(v, 0, tonight));
        }
        all.add(x.lacks(tonight));
        int last = x.count(3) - 1;
        for (int what = 0; what <= 5; what++) {
            all.add(x.told(0, what));
            all.add(x.told(last, what));
        }
        for (int night = 0; night < 3; night++) {
            all.add(x.foretold(0, tonight + night));
        }
    }

    private static void change(FriendLine x, List<Integer> all) {
        all.add(x.read());
        all.add(x.place());
        all.add(x.volunteer(3));
        all.add(x.step(0, 2));
        all.add(bit(x.learn(2, 0)));
        all.add(bit(x.learn(2, 1)));
        for (int caller = 0; caller < 20; caller += 19) {
            all.add(bit(x.bar(caller, 2)));
        }
        for (int v = 0; v < 3; v++) {
            all.add(x.offer(v, 1, 1));
        }
        all.add(x.shifts());
        for (int i = 0; i < 3; i++) {
            all.add(x.call(i, i, 9, i, 3));
        }
        all.add(x.go());
        all.add(x.note(x.count(3) - 3, 1));
        all.add(bit(x.clock(x.count(2) + 1)));
        all.add(bit(x.holiday(x.count(2))));
        for (int v = 0; v < 2; v++) {
            all.add(bit(x.care(v)));
            all.add(x.offer(v, 63, 3));
        }
        all.add(x.shifts());
        all.add(x.call(0, 0, 0, 0, 1));
        all.add(x.go());
    }
}
