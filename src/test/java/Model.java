import java.util.ArrayList;
import java.util.List;

/**
 * A second telling of the document, as plain as can be and with the whole library: lists of what was told, rules as
 * trees, shifts by all ways. RandomTest compares the program with it.
 */
final class Model {
    static final int NONE = -1;

    record Learned(int v, int step, int night) { }
    record Bar(int caller, int v, int night) { }
    record Cared(int v, int night) { }
    record Step(int behind, int lasts) { }
    record Offer(int night, int v, int hours, int most) { }
    record Note(int call, int rank, int night) { }
    record There(int v, int night, int hours) { }

    static final class Call {
        int night, minute, caller, need, topic, length;
        int state = 0, taker = NONE, since = NONE;
    }

    static final class Fault extends RuntimeException {
        private static final long serialVersionUID = 1;
        final int number, place;

        Fault(int number, int place) {
            super(null, null, false, false);
            this.number = number;
            this.place = place;
        }
    }

    interface Term {
        int of(int[] facts);
    }

    static final class Rule {
        String kind;
        int number;
        Term term;
        List<Term> all = new ArrayList<>();

        boolean holds(int[] facts) {
            return all.stream().allMatch(rel -> rel.of(facts) != 0);
        }
    }

    private final List<Integer> tape = new ArrayList<>();
    private List<Rule> rules = new ArrayList<>();
    private int place = NONE;
    private final List<Integer> ranks = new ArrayList<>();
    private final List<Step> steps = new ArrayList<>();
    private final List<Learned> learned = new ArrayList<>();
    private final List<Bar> bars = new ArrayList<>();
    private final List<Cared> cared = new ArrayList<>();
    private final List<Integer> holidays = new ArrayList<>();
    private final List<Integer> found = new ArrayList<>();
    private final List<Integer> gone = new ArrayList<>();
    private final List<Offer> offers = new ArrayList<>();
    private final List<There> present = new ArrayList<>();
    private final List<Call> calls = new ArrayList<>();
    private final List<Note> notes = new ArrayList<>();
    private int clock = 0;

    int feed(int a, int b, int c, int d, int e) {
        if (tape.size() > 1980) {
            return NONE;
        }
        for (int word : new int[] {a, b, c, d, e}) {
            for (int k = 3; k >= 0; k--) {
                tape.add(word >> 8 * k & 255);
            }
        }
        return tape.size();
    }

    int back(int n) {
        if (n < 0 || n > tape.size()) {
            return NONE;
        }
        tape.subList(tape.size() - n, tape.size()).clear();
        return tape.size();
    }

    int read() {
        List<Integer> text = new ArrayList<>(tape);
        tape.clear();
        place = NONE;
        try {
            rules = new Grammar(text).text();
            return 0;
        } catch (Fault fault) {
            place = fault.place;
            return fault.number;
        }
    }

    int place() {
        return place;
    }

    int volunteer(int rank) {
        if (rank < 0 || rank > 3 || ranks.size() == 8) {
            return NONE;
        }
        ranks.add(rank);
        return ranks.size() - 1;
    }

    int step(int behind, int lasts) {
        if (steps.size() == 8 || behind < NONE || behind >= steps.size() || lasts < 1 || lasts > 200) {
            return NONE;
        }
        steps.add(new Step(behind, lasts));
        return steps.size() - 1;
    }

    boolean learn(int v, int step) {
        if (!in(v, ranks) || !in(step, steps)) {
            return false;
        }
        int behind = steps.get(step).behind();
        if (behind != NONE && !owns(v, behind, clock)) {
            return false;
        }
        learned.add(new Learned(v, step, clock));
        return true;
    }

    int has(int v, int step, int night) {
        return in(v, ranks) && in(step, steps) && isNight(night) ? bit(owns(v, step, night)) : NONE;
    }

    boolean bar(int caller, int v) {
        if (caller < 0 || caller > 19 || !in(v, ranks) || barred(caller, v, 199)) {
            return false;
        }
        bars.add(new Bar(caller, v, clock));
        return true;
    }

    boolean care(int v) {
        if (due(v) != 1) {
            return false;
        }
        cared.add(new Cared(v, clock));
        return true;
    }

    int due(int v) {
        return in(v, ranks) ? bit(needsCare(v)) : NONE;
    }

    boolean clock(int n) {
        if (n < clock || n > 199) {
            return false;
        }
        clock = n;
        return true;
    }

    boolean holiday(int night) {
        if (!isNight(night) || holidays.contains(night) || gone.contains(night)) {
            return false;
        }
        holidays.add(night);
        return true;
    }

    int offer(int v, int hours, int most) {
        List<Offer> now = offersNow();
        boolean isWrong = !in(v, ranks) || hours < 1 || hours > 63 || most < 1 || most > 3 || now.size() == 5;
        if (isWrong || now.stream().anyMatch(o -> o.v() == v) || found.contains(clock) || gone.contains(clock)) {
            return NONE;
        }
        offers.add(new Offer(clock, v, hours, most));
        return now.size();
    }

    int shifts() {
        if (found.contains(clock) || gone.contains(clock)) {
            return NONE;
        }
        List<Offer> now = offersNow();
        int[] hours = new int[now.size()];
        int[] mosts = new int[now.size()];
        int skilled = 0;
        for (int i = 0; i < now.size(); i++) {
            int v = now.get(i).v();
            hours[i] = needsCare(v) ? 0 : now.get(i).hours();
            mosts[i] = now.get(i).most();
            skilled |= owns(v, 0, clock) ? 1 << i : 0;
        }
        int[] best = bestShifts(hours, mosts, skilled);
        for (int i = 0; i < now.size(); i++) {
            present.add(new There(now.get(i).v(), clock, best[i]));
        }
        found.add(clock);
        return keptOf(best, skilled);
    }

    int there(int v, int night) {
        return in(v, ranks) && isNight(night) ? hoursOf(v, night) : NONE;
    }

    int lacks(int night) {
        if (!found.contains(night)) {
            return NONE;
        }
        int lack = 0;
        for (int hour = 0; hour < 6; hour++) {
            int people = 0;
            boolean skilled = false;
            for (int v = 0; v < ranks.size(); v++) {
                if ((hoursOf(v, night) >> hour & 1) != 0) {
                    people++;
                    skilled |= owns(v, 0, night);
                }
            }
            lack |= people >= 2 && skilled ? 0 : 1 << hour;
        }
        return lack;
    }

    int call(int minute, int caller, int need, int topic, int length) {
        boolean isWrong = minute < 0 || minute > 359 || caller < 0 || caller > 19 || need < 0 || need > 9
                || topic < 0 || topic > 7 || length < 1 || length > 90;
        long tonight = calls.stream().filter(c -> c.night == clock).count();
        if (isWrong || gone.contains(clock) || tonight == 40 || calls.size() == 400) {
            return NONE;
        }
        Call call = new Call();
        call.night = clock;
        call.minute = minute;
        call.caller = caller;
        call.need = need;
        call.topic = topic;
        call.length = length;
        calls.add(call);
        return calls.size() - 1;
    }

    int go() {
        if (gone.contains(clock)) {
            return NONE;
        }
        int[] restsTo = new int[ranks.size()];
        for (int minute = 0; minute < 360; minute++) {
            endAndRest(minute, restsTo);
            List<Call> waiting = new ArrayList<>();
            for (Call c : calls) {
                if (c.night == clock && c.state == 0 && c.minute <= minute) {
                    if (firstHolding("drop", facts(c, minute, minute, 0)) != null) {
                        c.state = 2;
                        c.since = minute;
                    } else {
                        waiting.add(c);
                    }
                }
            }
            int now = minute;
            waiting.sort((c, d) -> Integer.compare(firstOf(d, now), firstOf(c, now)));
            for (Call c : waiting) {
                give(c, minute, restsTo);
            }
        }
        gone.add(clock);
        int taken = 0;
        for (Call c : calls) {
            if (c.night == clock) {
                c.state = c.state == 0 ? 3 : c.state;
                taken += c.state == 1 ? 1 : 0;
            }
        }
        return taken;
    }

    int told(int call, int what) {
        if (!in(call, calls)) {
            return NONE;
        }
        Call c = calls.get(call);
        return switch (what) {
            case 0 -> c.night;
            case 1 -> c.state;
            case 2 -> c.taker;
            case 3 -> c.since;
            case 4 -> c.state == 1 ? c.since + c.length : NONE;
            case 5 -> c.caller;
            default -> NONE;
        };
    }

    int talked(int v, int night) {
        return in(v, ranks) && gone.contains(night) ? talkedTill(v, night, 1000) : NONE;
    }

    int note(int call, int rank) {
        if (notes.size() == 60 || rank < 0 || rank > 3 || !in(call, calls) || calls.get(call).state != 1) {
            return NONE;
        }
        notes.add(new Note(call, rank, clock));
        return notes.size() - 1;
    }

    int see(int v, int note, int night) {
        if (!in(v, ranks) || !in(note, notes) || !isNight(night)) {
            return NONE;
        }
        Note n = notes.get(note);
        Call c = calls.get(n.call());
        boolean byOther = ranks.get(v) >= n.rank() && !barred(c.caller, v, night);
        return bit(night >= n.night() && (c.taker == v || byOther));
    }

    int foretold(int hour, int night) {
        if (hour < 0 || hour > 5 || !isNight(night)) {
            return NONE;
        }
        int nights = 0;
        int came = 0;
        for (int n : gone) {
            boolean isLike = holidays.contains(night) ? holidays.contains(n) : !holidays.contains(n) && n % 7 == night % 7;
            if (n < clock && isLike) {
                nights++;
                came += calls.stream().filter(c -> c.night == n && c.minute / 60 == hour).count();
            }
        }
        return nights == 0 ? NONE : came * 100 / nights;
    }

    int count(int what) {
        return switch (what) {
            case 0 -> ranks.size();
            case 1 -> steps.size();
            case 2 -> clock;
            case 3 -> calls.size();
            case 4, 5, 6 -> (int) calls.stream().filter(c -> c.state == what - 3).count();
            case 7 -> notes.size();
            case 8 -> rules.size();
            case 9 -> gone.size();
            case 10 -> tape.size();
            default -> NONE;
        };
    }

    private static boolean in(int i, List<?> list) {
        return i >= 0 && i < list.size();
    }

    private static boolean isNight(int n) {
        return n >= 0 && n <= 199;
    }

    private static int bit(boolean is) {
        return is ? 1 : 0;
    }

    private boolean owns(int v, int step, int night) {
        if (!in(step, steps)) {
            return false;
        }
        Step s = steps.get(step);
        boolean isLearned = learned.stream().anyMatch(l -> l.v() == v && l.step() == step && l.night() <= night
                && night < l.night() + s.lasts());
        return isLearned && (s.behind() == NONE || owns(v, s.behind(), night));
    }

    private boolean barred(int caller, int v, int night) {
        return bars.stream().anyMatch(b -> b.caller() == caller && b.v() == v && b.night() <= night);
    }

    private boolean needsCare(int v) {
        return calls.stream().anyMatch(c -> c.taker == v && c.need >= 8 && c.night < clock
                && cared.stream().noneMatch(g -> g.v() == v && g.night() > c.night));
    }

    private List<Offer> offersNow() {
        return offers.stream().filter(o -> o.night() == clock).toList();
    }

    private int hoursOf(int v, int night) {
        return present.stream().filter(t -> t.v() == v && t.night() == night).mapToInt(There::hours).sum();
    }

    private void endAndRest(int minute, int[] restsTo) {
        for (Call c : calls) {
            if (c.night == clock && c.state == 1 && c.since + c.length == minute) {
                int[] facts = facts(c, c.since, minute, talkedTill(c.taker, clock, minute));
                Rule rule = firstHolding("rest", facts);
                restsTo[c.taker] = minute + (rule == null ? 0 : rule.number);
            }
        }
    }

    private void give(Call call, int minute, int[] restsTo) {
        int found = NONE;
        for (int v = 0; v < ranks.size(); v++) {
            int who = v;
            int talk = talkedTill(v, clock, minute);
            int[] facts = facts(call, minute, minute, talk);
            boolean isThere = (hoursOf(v, clock) >> minute / 60 & 1) != 0;
            boolean talks = calls.stream().anyMatch(c -> c.night == clock && c.taker == who && minute < c.since + c.length);
            boolean isTrained = rules.stream().allMatch(r -> !r.kind.equals("step") || !r.holds(facts)
                    || owns(who, r.number, clock));
            boolean may = isThere && !talks && minute >= restsTo[v] && !barred(call.caller, v, clock) && isTrained;
            if (may && (found == NONE || talk < talkedTill(found, clock, minute))) {
                found = v;
            }
        }
        if (found != NONE) {
            call.state = 1;
            call.taker = found;
            call.since = minute;
        }
    }

    private int talkedTill(int v, int night, int minute) {
        return calls.stream().filter(c -> c.night == night && c.taker == v)
                .mapToInt(c -> Math.min(minute, c.since + c.length) - c.since).sum();
    }

    private int[] facts(Call c, int waitedTill, int minute, int talk) {
        int known = (int) calls.stream().filter(o -> o.night < clock && o.caller == c.caller && o.state == 1).count();
        return new int[] {c.need, c.topic, waitedTill - c.minute, minute / 60, known, talk};
    }

    private Rule firstHolding(String kind, int[] facts) {
        return rules.stream().filter(r -> r.kind.equals(kind) && r.holds(facts)).findFirst().orElse(null);
    }

    private int firstOf(Call c, int minute) {
        int[] facts = facts(c, minute, minute, 0);
        Rule rule = firstHolding("first", facts);
        return rule == null ? c.need : rule.term.of(facts);
    }

    /** All shifts of an offer in their order: none, then by the first hour, then the shorter one. */
    private static List<Integer> options(int hours, int most) {
        List<Integer> all = new ArrayList<>();
        all.add(0);
        for (int first = 0; first < 6; first++) {
            int shift = 0;
            for (int hour = first; hour < 6 && hour < first + most && (hours >> hour & 1) != 0; hour++) {
                shift |= 1 << hour;
                all.add(shift);
            }
        }
        return all;
    }

    static int keptOf(int[] shifts, int skilled) {
        int kept = 0;
        for (int hour = 0; hour < 6; hour++) {
            int people = 0;
            int skills = 0;
            for (int i = 0; i < shifts.length; i++) {
                people += shifts[i] >> hour & 1;
                skills += (shifts[i] >> hour & 1) * (skilled >> i & 1);
            }
            kept += people >= 2 && skills >= 1 ? 1 : 0;
        }
        return kept;
    }

    static int[] bestShifts(int[] hours, int[] mosts, int skilled) {
        List<List<Integer>> options = new ArrayList<>();
        int ways = 1;
        for (int i = 0; i < hours.length; i++) {
            options.add(options(hours[i], mosts[i]));
            ways *= options.get(i).size();
        }
        int[] best = null;
        int bestWorth = 0;
        int[] shifts = new int[hours.length];
        for (int way = 0; way < ways; way++) {
            int rest = way;
            int given = 0;
            for (int i = hours.length - 1; i >= 0; i--) {
                shifts[i] = options.get(i).get(rest % options.get(i).size());
                rest /= options.get(i).size();
                given += Integer.bitCount(shifts[i]);
            }
            int worth = keptOf(shifts, skilled) * 100 - given;
            if (best == null || worth > bestWorth) {
                best = shifts.clone();
                bestWorth = worth;
            }
        }
        return best;
    }

    /** Reads a text by descent; a fault is thrown where it is. */
    private static final class Grammar {
        private static final List<String> FACTS = List.of("need", "topic", "waited", "hour", "known", "talked");
        private static final List<String> RELATIONS = List.of("==", "!=", "<", "<=");

        private final List<String> tokens = new ArrayList<>();
        private final List<Integer> places = new ArrayList<>();
        private int at = 0;
        private int depth = 0;

        Grammar(List<Integer> bytes) {
            StringBuilder text = new StringBuilder();
            bytes.forEach(b -> text.append((char) (int) b));
            cut(text.toString());
        }

        private void cut(String text) {
            java.util.regex.Matcher m = java.util.regex.Pattern
                    .compile("[\\t\\n\\r ]+|([a-z]+|[0-9]+|==|!=|<=|[;+*<()-]|[\\x00-\\xff])", java.util.regex.Pattern.DOTALL)
                    .matcher(text);
            while (m.find()) {
                if (m.group(1) != null) {
                    tokens.add(m.group(1));
                    places.add(m.start());
                }
            }
            tokens.add("");
            places.add(text.length());
        }

        private String look() {
            return tokens.get(at);
        }

        private boolean isNumber() {
            return look().matches("[0-9]{1,4}");
        }

        private Fault syntax() {
            return new Fault(1, places.get(at));
        }

        private void pass() {
            if (at >= 400) {
                throw new Fault(2, places.get(at));
            }
            at++;
        }

        private void want(String token) {
            if (!look().equals(token)) {
                throw syntax();
            }
            pass();
        }

        List<Rule> text() {
            List<Rule> all = new ArrayList<>();
            List<Integer> wrong = new ArrayList<>();
            while (!look().isEmpty()) {
                Rule rule = new Rule();
                rule.kind = look();
                if (!List.of("first", "step", "drop", "rest").contains(rule.kind)) {
                    throw syntax();
                }
                if (all.size() == 20) {
                    throw new Fault(2, places.get(at));
                }
                pass();
                rule(rule, wrong);
                all.add(rule);
            }
            if (!wrong.isEmpty()) {
                throw new Fault(5, wrong.get(0));
            }
            return all;
        }

        private void rule(Rule rule, List<Integer> wrong) {
            boolean isConditional = true;
            if (rule.kind.equals("first")) {
                rule.term = sum();
                isConditional = look().equals("if");
            } else if (!rule.kind.equals("drop")) {
                if (!isNumber()) {
                    throw syntax();
                }
                rule.number = Integer.parseInt(look());
                boolean isStep = rule.kind.equals("step");
                if (isStep ? rule.number > 7 : rule.number == 0 || rule.number > 60) {
                    wrong.add(places.get(at));
                }
                pass();
            }
            if (isConditional) {
                want("if");
                rule.all.add(relation());
                while (look().equals("and")) {
                    pass();
                    rule.all.add(relation());
                }
            }
            want(";");
        }

        private Term relation() {
            Term left = sum();
            String sign = look();
            if (!RELATIONS.contains(sign)) {
                throw syntax();
            }
            pass();
            Term right = sum();
            return switch (sign) {
                case "==" -> f -> bit(left.of(f) == right.of(f));
                case "!=" -> f -> bit(left.of(f) != right.of(f));
                case "<" -> f -> bit(left.of(f) < right.of(f));
                default -> f -> bit(left.of(f) <= right.of(f));
            };
        }

        private Term sum() {
            Term all = product();
            while (look().equals("+") || look().equals("-")) {
                int factor = look().equals("+") ? 1 : -1;
                pass();
                Term left = all;
                Term right = product();
                all = f -> left.of(f) + factor * right.of(f);
            }
            return all;
        }

        private Term product() {
            Term all = unit();
            while (look().equals("*")) {
                pass();
                Term left = all;
                Term right = unit();
                all = f -> left.of(f) * right.of(f);
            }
            return all;
        }

        private Term unit() {
            int fact = FACTS.indexOf(look());
            if (isNumber()) {
                int number = Integer.parseInt(look());
                pass();
                return f -> number;
            }
            if (fact >= 0) {
                pass();
                return f -> f[fact];
            }
            if (look().equals("(") && depth == 6) {
                throw new Fault(2, places.get(at));
            }
            want("(");
            depth++;
            Term inner = sum();
            want(")");
            depth--;
            return inner;
        }
    }
}
