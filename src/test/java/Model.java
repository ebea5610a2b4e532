import java.util.ArrayDeque;
import java.util.ArrayList;
import java.util.Arrays;
import java.util.Deque;
import java.util.HashMap;
import java.util.List;
import java.util.Map;
import java.util.NoSuchElementException;
import java.util.TreeSet;

/** What the document says, in the slowest and plainest way; it shares nothing with the class but the face. */
final class Model {
    record Sample(String name, boolean rings, int first, int second, List<int[]> ring) { }

    record Phase(String name, List<Integer> members) { }

    record Rule(String kind, int a, int b, int n, int most) { }

    record Told(List<int[]> knots, List<Sample> samples, List<Phase> phases, List<Rule> rules, int sigma, int reserve) {
        Told copy() {
            return new Told(new ArrayList<>(knots), new ArrayList<>(samples), new ArrayList<>(phases),
                    new ArrayList<>(rules), sigma, reserve);
        }
    }

    /** What narrowing comes to. */
    static final class Outcome {
        final List<TreeSet<Integer>> spans = new ArrayList<>();
        int[] gone;
        int rounds;
        int clashRule = -2;
        int clashSample = -2;

        int years() {
            return spans.stream().mapToInt(TreeSet::size).sum();
        }

        int empty() {
            return (int) spans.stream().filter(TreeSet::isEmpty).count();
        }

        int answer(int what) {
            return what == 0 ? years() : what == 1 ? empty() : rounds;
        }
    }

    static final class Fault extends RuntimeException {
        private static final long serialVersionUID = 1;
        final int kind;
        final int place;

        Fault(int kind, int place) {
            this.kind = kind;
            this.place = place;
        }
    }

    private static final List<String> KINDS = List.of("before", "same", "after", "until", "order", "lasts");

    Told told = new Told(List.of(new int[] {0, 1000}, new int[] {999, 1}), List.of(), List.of(), List.of(), 1, 0);
    final Deque<Told> past = new ArrayDeque<>();
    String tape = "";
    int faultPlace = -1;
    final int[] refused = new int[3];
    private Outcome present;

    private NoSuchElementException noSuch() {
        refused[0]++;
        return new NoSuchElementException();
    }

    private IllegalArgumentException illegal() {
        refused[1]++;
        return new IllegalArgumentException();
    }

    private void sampleIs(int s) {
        if (s < 0 || s >= told.samples.size()) {
            throw noSuch();
        }
    }

    private void yearIs(int y) {
        if (y < 0 || y > 999) {
            throw noSuch();
        }
    }

    private void ruleIs(int r) {
        if (r < 0 || r >= told.rules.size()) {
            throw noSuch();
        }
    }

    private void whatIs(int what, int most) {
        if (what < 0 || what > most) {
            throw illegal();
        }
    }

    private void becomes(Told next) {
        past.addLast(told.copy());
        if (past.size() > 12) {
            past.removeFirst();
        }
        told = next;
        present = null;
    }

    private Outcome present() {
        if (present == null) {
            present = narrow(firsts(told.sigma, told.reserve), -1, false);
        }
        return present;
    }

    // ---- the calls

    int feed(int... numbers) {
        if (tape.length() + 20 > 500) {
            return -1;
        }
        for (int number : numbers) {
            tape += "" + (char) (number >>> 24) + (char) (number >>> 16 & 255) + (char) (number >>> 8 & 255)
                    + (char) (number & 255);
        }
        return tape.length();
    }

    int text(int n) {
        if (n < 0 || n > tape.length()) {
            throw illegal();
        }
        String text = tape.substring(0, n);
        tape = "";
        try {
            told = new Parser(text).parse();
        } catch (Fault f) {
            faultPlace = f.place;
            return f.kind - 10;
        }
        faultPlace = -1;
        past.clear();
        present = null;
        return told.samples.size();
    }

    int set(int what, int v) {
        if (what == 0 && v >= 1 && v <= 3) {
            int was = told.sigma;
            becomes(new Told(told.knots, told.samples, told.phases, told.rules, v, told.reserve));
            return was;
        }
        if (what == 1 && v >= -500 && v <= 500) {
            int was = told.reserve;
            becomes(new Told(told.knots, told.samples, told.phases, told.rules, told.sigma, v));
            return was;
        }
        throw illegal();
    }

    int redate(int s, int a, int e) {
        sampleIs(s);
        whatIs(a, 9999);
        whatIs(e, 999);
        Sample was = told.samples.get(s);
        Told next = told.copy();
        next.samples.set(s, new Sample(was.name, false, a, e, List.of()));
        becomes(next);
        return was.rings ? 1 : 0;
    }

    private int add(Rule rule) {
        if (told.rules.size() == 24) {
            refused[2]++;
            throw new IllegalStateException();
        }
        Told next = told.copy();
        next.rules.add(rule);
        becomes(next);
        return told.rules.size() - 1;
    }

    int before(int a, int b, int least, int most) {
        sampleIs(a);
        sampleIs(b);
        if (a == b || least < 0 || least > 999 || most < least || most > 999) {
            throw illegal();
        }
        return add(new Rule("before", a, b, least, most));
    }

    int bounds(int s, int what, int year) {
        sampleIs(s);
        if (what != 2 && what != 3 || year < 0 || year > 999) {
            throw illegal();
        }
        return add(new Rule(KINDS.get(what), s, -1, year, -1));
    }

    int drop(int r) {
        ruleIs(r);
        int gone = present().gone[r];
        Told next = told.copy();
        next.rules.remove(r);
        becomes(next);
        return gone;
    }

    int undo() {
        if (past.isEmpty()) {
            return -1;
        }
        told = past.removeLast();
        present = null;
        return past.size();
    }

    int told(int what) {
        whatIs(what, 11);
        return List.of(told.knots.size(), told.samples.size(), told.phases.size(), told.rules.size(), told.sigma,
                told.reserve).stream().skip(what).findFirst().orElseGet(() -> switch (what) {
                    case 6 -> present().rounds;
                    case 7 -> present().years();
                    case 8 -> present().empty();
                    case 9 -> Arrays.stream(present().gone).sum();
                    case 10 -> past.size();
                    default -> tape.length();
                });
    }

    int age(int year) {
        yearIs(year);
        Integer age = ageOf(year);
        return age == null ? -1 : age;
    }

    int years(int age, int what) {
        whatIs(age, 9999);
        whatIs(what, 2);
        TreeSet<Integer> years = new TreeSet<>();
        for (int y = 0; y < 1000; y++) {
            if (ageOf(y) != null && ageOf(y) == age) {
                years.add(y);
            }
        }
        if (what == 0) {
            return years.size();
        }
        return years.isEmpty() ? -1 : what == 1 ? years.first() : years.last();
    }

    int knot(int k, int what) {
        if (k < 0 || k >= told.knots.size()) {
            throw noSuch();
        }
        whatIs(what, 1);
        return told.knots.get(k)[what];
    }

    int sample(int s, int what) {
        sampleIs(s);
        whatIs(what, 9);
        Sample sample = told.samples.get(s);
        TreeSet<Integer> span = present().spans.get(s);
        int best = -1;
        for (int y : span) {
            if (best == -1 || misfitOf(sample, y, told.reserve) < misfitOf(sample, best, told.reserve)) {
                best = y;
            }
        }
        switch (what) {
            case 0: return sample.rings ? 1 : 0;
            case 1: return sample.first;
            case 2: return sample.rings ? sample.ring.size() : sample.second;
            case 3: return firsts(told.sigma, told.reserve).get(s).size();
            case 4: return span.size();
            case 5: return span.isEmpty() ? -1 : span.first();
            case 6: return span.isEmpty() ? -1 : span.last();
            case 7: return intervals(span).size();
            case 8: return best;
            default: return best == -1 ? -1 : misfitOf(sample, best, told.reserve);
        }
    }

    int interval(int s, int k, int what) {
        sampleIs(s);
        List<int[]> all = intervals(present().spans.get(s));
        if (k < 0 || k >= all.size()) {
            throw noSuch();
        }
        whatIs(what, 1);
        return all.get(k)[what];
    }

    int misfit(int s, int year) {
        sampleIs(s);
        yearIs(year);
        Integer misfit = misfitOf(told.samples.get(s), year, told.reserve);
        return misfit == null ? -1 : misfit;
    }

    int place(int s, int year) {
        sampleIs(s);
        yearIs(year);
        return present().spans.get(s).contains(year) ? 3
                : firsts(told.sigma, told.reserve).get(s).contains(year) ? 1 : 0;
    }

    int rule(int r, int what) {
        ruleIs(r);
        whatIs(what, 5);
        Rule rule = told.rules.get(r);
        return new int[] {KINDS.indexOf(rule.kind), rule.a, rule.b, rule.n, rule.most, present().gone[r]}[what];
    }

    int clash(int what) {
        whatIs(what, 1);
        return what == 0 ? present().clashRule : present().clashSample;
    }

    int blame() {
        int bits = 0;
        for (int r = 0; r < told.rules.size() && present().clashSample >= 0; r++) {
            if (narrow(firsts(told.sigma, told.reserve), r, true).clashSample < 0) {
                bits += 1 << r;
            }
        }
        return bits;
    }

    int needless() {
        int bits = 0;
        for (int r = 0; r < told.rules.size(); r++) {
            if (narrow(firsts(told.sigma, told.reserve), r, false).spans.equals(present().spans)) {
                bits += 1 << r;
            }
        }
        return bits;
    }

    int without(int r, int what) {
        ruleIs(r);
        whatIs(what, 2);
        return narrow(firsts(told.sigma, told.reserve), r, false).answer(what);
    }

    private Outcome pinnedSo(int s, int year, boolean untilClash) {
        List<TreeSet<Integer>> firsts = firsts(told.sigma, told.reserve);
        firsts.set(s, new TreeSet<>(List.of(year)));
        return narrow(firsts, -1, untilClash);
    }

    int pinned(int s, int year, int what) {
        sampleIs(s);
        yearIs(year);
        whatIs(what, 2);
        return pinnedSo(s, year, false).answer(what);
    }

    int doomed(int s) {
        sampleIs(s);
        int count = 0;
        for (int year : present().spans.get(s)) {
            count += pinnedSo(s, year, true).clashSample >= 0 ? 1 : 0;
        }
        return count;
    }

    int phase(int p, int what) {
        if (p < 0 || p >= told.phases.size()) {
            throw noSuch();
        }
        whatIs(what, 4);
        TreeSet<Integer> all = new TreeSet<>();
        TreeSet<Integer> earliest = new TreeSet<>();
        TreeSet<Integer> latest = new TreeSet<>();
        boolean oneEmpty = false;
        for (int s : told.phases.get(p).members) {
            TreeSet<Integer> span = present().spans.get(s);
            all.addAll(span);
            oneEmpty |= span.isEmpty();
            if (!span.isEmpty()) {
                earliest.add(span.first());
                latest.add(span.last());
            }
        }
        switch (what) {
            case 0: return told.phases.get(p).members.size();
            case 1: return all.isEmpty() ? -1 : all.first();
            case 2: return all.isEmpty() ? -1 : all.last();
            case 3: return oneEmpty ? -1 : Math.max(0, earliest.last() - latest.first());
            default: return oneEmpty ? -1 : all.last() - all.first();
        }
    }

    int member(int p, int k) {
        if (p < 0 || p >= told.phases.size()) {
            throw noSuch();
        }
        List<Integer> members = told.phases.get(p).members;
        return k < 0 || k >= members.size() ? -1 : members.get(k);
    }

    private int looks;

    /** The years found; null without, or if it is given up. */
    private int[] tryAll() {
        looks = 0;
        int[] years = new int[told.samples.size()];
        return tryFrom(0, years) == 1 ? years : null;
    }

    private int tryFrom(int s, int[] years) {
        if (s == years.length) {
            return 1;
        }
        for (int year : present().spans.get(s)) {
            if (looks == 20000) {
                return -2;
            }
            looks++;
            years[s] = year;
            if (fits(s, years)) {
                int answer = tryFrom(s + 1, years);
                if (answer != 0) {
                    return answer;
                }
            }
        }
        return 0;
    }

    private boolean fits(int s, int[] years) {
        for (Rule rule : told.rules) {
            for (int[] pair : pairs(rule)) {
                if (pair[0] <= s && pair[1] <= s) {
                    int behind = years[pair[1]] - years[pair[0]];
                    if (behind < pair[2] || behind > pair[3]) {
                        return false;
                    }
                }
            }
        }
        return true;
    }

    int trial(int what) {
        whatIs(what, 1);
        int answer = tryFrom(0, startOfTrial());
        return what == 0 ? answer : looks;
    }

    private int[] startOfTrial() {
        looks = 0;
        return new int[told.samples.size()];
    }

    int tried(int s) {
        sampleIs(s);
        int[] years = tryAll();
        return years == null ? -1 : years[s];
    }

    int loosened() {
        for (int sigma = 1; sigma <= 3; sigma++) {
            if (narrow(firsts(sigma, told.reserve), -1, true).clashSample < 0) {
                return sigma;
            }
        }
        return -1;
    }

    int shifted() {
        int best = -9999;
        for (int reserve = -500; reserve <= 500; reserve++) {
            if (Math.abs(reserve) < Math.abs(best)
                    && narrow(firsts(told.sigma, reserve), -1, true).clashSample < 0) {
                best = reserve;
            }
        }
        return best;
    }

    long print() {
        long h = 0;
        for (TreeSet<Integer> span : present().spans) {
            for (int[] interval : intervals(span)) {
                h = 31 * h + interval[0];
                h = 31 * h + interval[1];
            }
            h = 31 * h;
        }
        return h;
    }

    int status(int what) {
        return what < 0 || what > 2 ? -1 : refused[what];
    }

    // ---- what they come from

    private Integer ageOf(int year) {
        for (int k = 1; k < told.knots.size(); k++) {
            int[] from = told.knots.get(k - 1);
            int[] to = told.knots.get(k);
            if (year >= from[0] && year <= to[0]) {
                return from[1] + (to[1] - from[1]) * (year - from[0]) / (to[0] - from[0]);
            }
        }
        return null;
    }

    private Integer misfitOf(Sample sample, int year, int reserve) {
        if (!sample.rings) {
            Integer age = ageOf(year);
            return age == null ? null : Integer.valueOf(Math.abs(age + reserve - sample.first));
        }
        int sum = 0;
        for (int[] ring : sample.ring) {
            Integer age = year + ring[0] > 999 ? null : ageOf(year + ring[0]);
            if (age == null) {
                return null;
            }
            sum += Math.abs(age + reserve - ring[1]);
        }
        return sum;
    }

    private List<TreeSet<Integer>> firsts(int sigma, int reserve) {
        List<TreeSet<Integer>> all = new ArrayList<>();
        for (Sample sample : told.samples) {
            Map<Integer, Integer> misfits = new HashMap<>();
            for (int y = 0; y < 1000; y++) {
                Integer misfit = misfitOf(sample, y, reserve);
                if (misfit != null) {
                    misfits.put(y, misfit);
                }
            }
            int least = misfits.values().stream().mapToInt(m -> m).min().orElse(0);
            int most = sample.rings ? least + sigma * sample.first : sigma * sample.second;
            TreeSet<Integer> span = new TreeSet<>();
            misfits.forEach((y, m) -> {
                if (m <= most) {
                    span.add(y);
                }
            });
            all.add(span);
        }
        return all;
    }

    private static List<int[]> intervals(TreeSet<Integer> span) {
        List<int[]> all = new ArrayList<>();
        for (int y : span) {
            if (span.contains(y - 1)) {
                all.get(all.size() - 1)[1] = y;
            } else {
                all.add(new int[] {y, y});
            }
        }
        return all;
    }

    /** Of a rule of two or more samples: a, b, the least and the most that b may be behind a. */
    private List<int[]> pairs(Rule rule) {
        List<int[]> all = new ArrayList<>();
        switch (rule.kind) {
            case "before":
                all.add(new int[] {rule.a, rule.b, rule.n, rule.most});
                break;
            case "same":
                all.add(new int[] {rule.a, rule.b, 0, 0});
                break;
            case "order":
                for (int a : told.phases.get(rule.a).members) {
                    for (int b : told.phases.get(rule.b).members) {
                        all.add(new int[] {a, b, rule.n, 999});
                    }
                }
                break;
            case "lasts":
                List<Integer> members = told.phases.get(rule.a).members;
                for (int k = 0; k < members.size(); k++) {
                    for (int m = k + 1; m < members.size(); m++) {
                        all.add(new int[] {members.get(k), members.get(m), -rule.n, rule.n});
                    }
                }
                break;
            default:
                break;
        }
        return all;
    }

    private Outcome narrow(List<TreeSet<Integer>> firsts, int skipped, boolean untilClash) {
        Outcome outcome = new Outcome();
        outcome.gone = new int[told.rules.size()];
        for (TreeSet<Integer> first : firsts) {
            outcome.spans.add(new TreeSet<>(first));
        }
        look(outcome, -1);
        int before;
        do {
            before = outcome.years();
            outcome.rounds++;
            for (int r = 0; r < told.rules.size(); r++) {
                if (untilClash && outcome.clashSample >= 0) {
                    return outcome;
                }
                if (r != skipped) {
                    int years = outcome.years();
                    apply(outcome, r);
                    outcome.gone[r] += years - outcome.years();
                }
            }
        } while (outcome.years() != before);
        return outcome;
    }

    private void apply(Outcome outcome, int r) {
        Rule rule = told.rules.get(r);
        if (rule.kind.equals("after")) {
            outcome.spans.get(rule.a).removeIf(y -> y < rule.n);
        } else if (rule.kind.equals("until")) {
            outcome.spans.get(rule.a).removeIf(y -> y > rule.n);
        }
        look(outcome, r);
        for (int[] pair : pairs(rule)) {
            TreeSet<Integer> a = outcome.spans.get(pair[0]);
            TreeSet<Integer> b = outcome.spans.get(pair[1]);
            if (pair[0] == pair[1]) {
                if (pair[2] > 0) {
                    a.clear();
                }
            } else {
                b.removeIf(y -> !hasOneWithin(a, y - pair[3], y - pair[2]));
                look(outcome, r);
                a.removeIf(y -> !hasOneWithin(b, y + pair[2], y + pair[3]));
            }
            look(outcome, r);
        }
    }

    private static boolean hasOneWithin(TreeSet<Integer> years, int from, int to) {
        Integer next = years.ceiling(from);
        return next != null && next <= to;
    }

    private static void look(Outcome outcome, int r) {
        for (int s = 0; s < outcome.spans.size() && outcome.clashSample < 0; s++) {
            if (outcome.spans.get(s).isEmpty()) {
                outcome.clashRule = r;
                outcome.clashSample = s;
            }
        }
    }

    /** Goes by the document's lines, and stops at the first fault by throwing it. */
    private static final class Parser {
        private final String text;
        private int at = 0;
        private int tokenAt = 0;
        private final List<int[]> knots = new ArrayList<>();
        private final List<Sample> samples = new ArrayList<>();
        private final List<Phase> phases = new ArrayList<>();
        private final List<Rule> rules = new ArrayList<>();
        private Integer sigma;
        private Integer reserve;

        Parser(String text) {
            this.text = text;
        }

        Told parse() {
            do {
                String word = token("[a-z]+");
                int wordAt = tokenAt;
                if (knots.isEmpty() && !word.equals("curve")) {
                    throw new Fault(1, wordAt);
                }
                line(word, wordAt);
                token(";");
            } while (!ahead("$"));
            return new Told(knots, samples, phases, rules, sigma == null ? 1 : sigma, reserve == null ? 0 : reserve);
        }

        private void line(String word, int wordAt) {
            switch (word) {
                case "curve":
                    tooMany(!knots.isEmpty(), wordAt);
                    do {
                        if (!knots.isEmpty()) {
                            token(",");
                            tooMany(knots.size() == 16, tokenAt);
                        }
                        int year = number(knots.isEmpty() ? 0 : knots.get(knots.size() - 1)[0] + 1, 999);
                        knots.add(new int[] {year, number(0, 9999)});
                    } while (knots.size() < 2 || ahead(","));
                    break;
                case "sample":
                    tooMany(samples.size() == 12, wordAt);
                    samples.add(new Sample(newName(), false, number(0, 9999), number(0, 999), List.of()));
                    break;
                case "rings":
                    tooMany(samples.size() == 12, wordAt);
                    rings();
                    break;
                case "phase":
                    tooMany(phases.size() == 4, wordAt);
                    phase();
                    break;
                case "sigma":
                    tooMany(sigma != null, wordAt);
                    sigma = number(1, 3);
                    break;
                case "reserve":
                    tooMany(reserve != null, wordAt);
                    reserve();
                    break;
                default:
                    if (!KINDS.contains(word)) {
                        throw new Fault(1, wordAt);
                    }
                    tooMany(rules.size() == 24, wordAt);
                    rule(word);
                    break;
            }
        }

        private void rings() {
            String name = newName();
            int slack = number(0, 999);
            List<int[]> ring = new ArrayList<>();
            do {
                if (!ring.isEmpty()) {
                    token(",");
                    tooMany(ring.size() == 6, tokenAt);
                }
                int place = number(ring.isEmpty() ? 0 : ring.get(ring.size() - 1)[0] + 1, 300);
                ring.add(new int[] {place, number(0, 9999)});
            } while (ahead(","));
            samples.add(new Sample(name, true, slack, ring.size(), ring));
        }

        private void phase() {
            String own = newName();
            List<Integer> members = new ArrayList<>();
            List<String> named = new ArrayList<>(List.of(own));
            do {
                if (members.size() == 6) {
                    token("[a-z]+");
                    throw new Fault(3, tokenAt);
                }
                members.add(sampleNamed(named));
            } while (ahead("[a-z]"));
            phases.add(new Phase(own, members));
        }

        private void reserve() {
            boolean minus = ahead("-");
            if (minus) {
                token("-");
            }
            int start = tokenAt;
            String digits = token("[0-9]+").replaceFirst("^0+", "");
            if (digits.length() > 3 || Integer.parseInt("0" + digits) > 500) {
                throw new Fault(2, minus ? start : tokenAt);
            }
            reserve = Integer.parseInt("0" + digits) * (minus ? -1 : 1);
        }

        private void rule(String kind) {
            List<String> named = new ArrayList<>();
            int a = kind.equals("order") || kind.equals("lasts") ? phaseNamed(named) : sampleNamed(named);
            switch (kind) {
                case "before":
                    int b = sampleNamed(named);
                    int least = ahead("[0-9]") ? number(0, 999) : 0;
                    rules.add(new Rule(kind, a, b, least, ahead("[0-9]") ? number(least, 999) : 999));
                    break;
                case "same":
                    rules.add(new Rule(kind, a, sampleNamed(named), 0, -1));
                    break;
                case "order":
                    int q = phaseNamed(named);
                    rules.add(new Rule(kind, a, q, ahead("[0-9]") ? number(0, 999) : 0, -1));
                    break;
                default:
                    rules.add(new Rule(kind, a, -1, number(0, 999), -1));
                    break;
            }
        }

        private String newName() {
            String name = name();
            if (samples.stream().anyMatch(s -> s.name.equals(name)) || phases.stream().anyMatch(p -> p.name.equals(name))) {
                throw new Fault(4, tokenAt);
            }
            return name;
        }

        private int sampleNamed(List<String> named) {
            return find(samples.stream().map(s -> s.name).toList(), named);
        }

        private int phaseNamed(List<String> named) {
            return find(phases.stream().map(p -> p.name).toList(), named);
        }

        private int find(List<String> names, List<String> named) {
            String name = name();
            if (named.contains(name)) {
                throw new Fault(4, tokenAt);
            }
            if (!names.contains(name)) {
                throw new Fault(5, tokenAt);
            }
            named.add(name);
            return names.indexOf(name);
        }

        private String name() {
            String name = token("[a-z]+");
            if (name.length() > 6) {
                throw new Fault(1, tokenAt);
            }
            return name;
        }

        private int number(int least, int most) {
            String digits = token("[0-9]+").replaceFirst("^0+", "");
            if (digits.length() > 5) {
                throw new Fault(2, tokenAt);
            }
            int number = Integer.parseInt("0" + digits);
            if (number < least || number > most) {
                throw new Fault(2, tokenAt);
            }
            return number;
        }

        private void tooMany(boolean so, int where) {
            if (so) {
                throw new Fault(3, where);
            }
        }

        private boolean ahead(String form) {
            String rest = text.substring(at).replaceFirst("^ +", "");
            return java.util.regex.Pattern.compile("^(?:" + form + ")", java.util.regex.Pattern.DOTALL)
                    .matcher(rest.isEmpty() ? "" : form.equals("$") ? "x" : rest).find();
        }

        private String token(String form) {
            while (at < text.length() && text.charAt(at) == ' ') {
                at++;
            }
            java.util.regex.Matcher m = java.util.regex.Pattern.compile(form).matcher(text).region(at, text.length());
            tokenAt = at;
            if (!m.lookingAt()) {
                throw new Fault(1, at);
            }
            at = m.end();
            return m.group();
        }
    }
}
