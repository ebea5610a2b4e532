import java.util.NoSuchElementException;

/** A desk of carbon dates; ../shared/DOC.md says what each call answers. */
public final class CarbonDates {
    public static final int NONE = -1;

    private static final int YEARS = 1000;
    private static final int LAST_YEAR = 999;
    private static final int WORDS = 16;
    private static final int MOST_AGE = 9999;
    private static final int MOST_ERROR = 999;
    private static final int MOST_PLACE = 300;
    private static final int MOST_SIGMA = 3;
    private static final int MOST_RESERVE = 500;
    private static final int MOST_KNOTS = 16;
    private static final int MOST_SAMPLES = 12;
    private static final int MOST_RINGS = 6;
    private static final int MOST_PHASES = 4;
    private static final int MOST_MEMBERS = 6;
    private static final int MOST_RULES = 24;
    private static final int MOST_BYTES = 500;
    private static final int MOST_UNDOS = 12;
    private static final int MOST_LOOKS = 20000;
    private static final int NAME_LETTERS = 6;

    // every round but the last takes out a year at least
    private static final int MOST_ROUNDS = MOST_SAMPLES * YEARS + 1;
    // every look is one step, and so is every going back from what a look has opened
    private static final int MOST_STEPS = 3 * MOST_LOOKS;

    private static final int NO_CLASH = -2;
    private static final int GIVEN_UP = -2;
    private static final int NO_RESERVE = -9999;

    private static final int BEFORE = 0;
    private static final int SAME = 1;
    private static final int AFTER = 2;
    private static final int UNTIL = 3;
    private static final int ORDER = 4;
    private static final int LASTS = 5;
    // lines that tell no rule; the rules' own lines go by the kinds above
    private static final int CURVE_LINE = 6;
    private static final int SAMPLE_LINE = 7;
    private static final int RINGS_LINE = 8;
    private static final int PHASE_LINE = 9;
    private static final int SIGMA_LINE = 10;
    private static final int RESERVE_LINE = 11;

    private static final int OUT_OF_PLACE = 1;
    private static final int NO_SUCH_NUMBER = 2;
    private static final int TOO_MANY = 3;
    private static final int NAME_TAKEN = 4;
    private static final int NAME_UNKNOWN = 5;

    private static final int TEXT_END = -1;

    private final int[] ages = new int[YEARS];
    private final Told told = new Told();
    private final Told[] past = new Told[MOST_UNDOS];
    private int undos = 0;
    private final int[] tape = new int[MOST_BYTES];
    private int taped = 0;
    private int faultPlace = NONE;
    private final int[] refusals = new int[3];
    private final Reader reader = new Reader(tape);
    private final Narrowing now = new Narrowing(told, ages);
    private final Narrowing supposed = new Narrowing(told, ages);
    private final Trial trying = new Trial(told, now);

    public CarbonDates() {
        for (int k = 0; k < MOST_UNDOS; k++) {
            past[k] = new Told();
        }
        told.knots = 2;
        told.knotYear[0] = 0;
        told.knotAge[0] = 1000;
        told.knotYear[1] = LAST_YEAR;
        told.knotAge[1] = 1;
        told.layAges(ages);
        renew();
    }

    public int feed(int a, int b, int c, int d, int e) {
        if (taped + 20 > MOST_BYTES) {
            return NONE;
        }
        feedNumber(a);
        feedNumber(b);
        feedNumber(c);
        feedNumber(d);
        feedNumber(e);
        return taped;
    }

    public int text(int n) throws IllegalArgumentException {
        needArgument(n >= 0 && n <= taped);
        reader.read(n);
        taped = 0;
        if (reader.fault != 0) {
            faultPlace = reader.place;
            return reader.fault - 10;
        }
        faultPlace = NONE;
        told.copyFrom(reader.draft);
        told.layAges(ages);
        undos = 0;
        renew();
        return told.samples;
    }

    public int fault() {
        return faultPlace;
    }

    public int set(int what, int v) throws IllegalArgumentException {
        boolean sigma = what == 0 && v >= 1 && v <= MOST_SIGMA;
        boolean reserve = what == 1 && v >= -MOST_RESERVE && v <= MOST_RESERVE;
        needArgument(sigma || reserve);
        keepForUndo();
        int was = sigma ? told.sigma : told.reserve;
        if (sigma) {
            told.sigma = v;
        } else {
            told.reserve = v;
        }
        renew();
        return was;
    }

    public int redate(int sample, int a, int e) throws NoSuchElementException, IllegalArgumentException {
        needSample(sample);
        needArgument(a >= 0 && a <= MOST_AGE && e >= 0 && e <= MOST_ERROR);
        keepForUndo();
        Sample redated = told.sample[sample];
        int was = redated.isRings ? 1 : 0;
        redated.isRings = false;
        redated.ageOrSlack = a;
        redated.errorOrRings = e;
        renew();
        return was;
    }

    public int before(int a, int b, int least, int most)
            throws NoSuchElementException, IllegalArgumentException, IllegalStateException {
        needSample(a);
        needSample(b);
        needArgument(a != b && least >= 0 && least <= most && most <= LAST_YEAR);
        needRoomForRule();
        keepForUndo();
        told.addRule(BEFORE, a, b, least, most);
        renew();
        return told.rules - 1;
    }

    public int bounds(int sample, int what, int year)
            throws NoSuchElementException, IllegalArgumentException, IllegalStateException {
        needSample(sample);
        needArgument((what == AFTER || what == UNTIL) && isYear(year));
        needRoomForRule();
        keepForUndo();
        // what is the rule's kind
        told.addRule(what, sample, NONE, year, NONE);
        renew();
        return told.rules - 1;
    }

    public int drop(int rule) throws NoSuchElementException {
        needRule(rule);
        int gone = now.gone[rule];
        keepForUndo();
        told.dropRule(rule);
        renew();
        return gone;
    }

    public int undo() {
        if (undos == 0) {
            return NONE;
        }
        undos--;
        told.copyFrom(past[undos]);
        renew();
        return undos;
    }

    public int told(int what) throws IllegalArgumentException {
        needArgument(what >= 0 && what <= 11);
        switch (what) {
            case 0: return told.knots;
            case 1: return told.samples;
            case 2: return told.phases;
            case 3: return told.rules;
            case 4: return told.sigma;
            case 5: return told.reserve;
            case 6: return now.rounds;
            case 7: return now.yearsOfAll();
            case 8: return now.emptySpans();
            case 9: return now.goneOfAll();
            case 10: return undos;
            default: return taped;
        }
    }

    public int age(int year) throws NoSuchElementException {
        needYear(year);
        return ages[year];
    }

    public int years(int age, int what) throws IllegalArgumentException {
        needArgument(age >= 0 && age <= MOST_AGE && what >= 0 && what <= 2);
        int count = 0;
        int first = NONE;
        int last = NONE;
        for (int year = 0; year < YEARS; year++) {
            if (ages[year] == age) {
                count++;
                first = first == NONE ? year : first;
                last = year;
            }
        }
        return what == 0 ? count : what == 1 ? first : last;
    }

    public int knot(int knot, int what) throws NoSuchElementException, IllegalArgumentException {
        needThere(knot >= 0 && knot < told.knots);
        needArgument(what == 0 || what == 1);
        return what == 0 ? told.knotYear[knot] : told.knotAge[knot];
    }

    public int sample(int sample, int what) throws NoSuchElementException, IllegalArgumentException {
        needSample(sample);
        needArgument(what >= 0 && what <= 9);
        switch (what) {
            case 0: return told.sample[sample].isRings ? 1 : 0;
            case 1: return told.sample[sample].ageOrSlack;
            case 2: return told.sample[sample].errorOrRings;
            case 3: return Years.count(now.first[sample]);
            case 4: return now.size[sample];
            case 5: return now.low[sample];
            case 6: return now.high[sample];
            case 7: return Years.intervals(now.span[sample]);
            case 8: return now.bestYear(sample);
            default: return misfitOf(sample, now.bestYear(sample));
        }
    }

    public int interval(int sample, int k, int what) throws NoSuchElementException, IllegalArgumentException {
        needSample(sample);
        int start = Years.intervalStart(now.span[sample], k);
        needThere(start < YEARS);
        needArgument(what == 0 || what == 1);
        return what == 0 ? start : Years.nextOut(now.span[sample], start) - 1;
    }

    public int misfit(int sample, int year) throws NoSuchElementException {
        needSample(sample);
        needYear(year);
        return misfitOf(sample, year);
    }

    public int place(int sample, int year) throws NoSuchElementException {
        needSample(sample);
        needYear(year);
        if (Years.has(now.span[sample], year)) {
            return 3;
        }
        return Years.has(now.first[sample], year) ? 1 : 0;
    }

    public int rule(int rule, int what) throws NoSuchElementException, IllegalArgumentException {
        needRule(rule);
        needArgument(what >= 0 && what <= 5);
        switch (what) {
            case 0: return told.rule[rule].kind;
            case 1: return told.rule[rule].a;
            case 2: return told.rule[rule].b;
            case 3: return told.rule[rule].least;
            case 4: return told.rule[rule].most;
            default: return now.gone[rule];
        }
    }

    public int clash(int what) throws IllegalArgumentException {
        needArgument(what == 0 || what == 1);
        return what == 0 ? now.clashRule : now.clashSample;
    }

    public int blame() {
        int bits = 0;
        if (now.hasClash()) {
            supposed.takeFirst(now);
            for (int rule = 0; rule < told.rules; rule++) {
                supposed.run(rule, true);
                bits |= supposed.hasClash() ? 0 : 1 << rule;
            }
        }
        return bits;
    }

    public int needless() {
        int bits = 0;
        supposed.takeFirst(now);
        for (int rule = 0; rule < told.rules; rule++) {
            supposed.run(rule, false);
            bits |= supposed.sameSpans(now) ? 1 << rule : 0;
        }
        return bits;
    }

    public int without(int rule, int what) throws NoSuchElementException, IllegalArgumentException {
        needRule(rule);
        needArgument(what >= 0 && what <= 2);
        supposed.takeFirst(now);
        supposed.run(rule, false);
        return ofSupposed(what);
    }

    public int pinned(int sample, int year, int what) throws NoSuchElementException, IllegalArgumentException {
        needSample(sample);
        needYear(year);
        needArgument(what >= 0 && what <= 2);
        supposed.takeFirst(now);
        supposed.pin(sample, year);
        supposed.run(NONE, false);
        return ofSupposed(what);
    }

    public int doomed(int sample) throws NoSuchElementException {
        needSample(sample);
        int count = 0;
        // what narrowing leaves does not hang on the order in which years go,
        // so a year of the span may be pinned in the spans as they are: that takes fewer rounds
        supposed.takeSpans(now);
        for (int year = 0; year < YEARS; year++) {
            if (Years.has(now.span[sample], year)) {
                supposed.pin(sample, year);
                supposed.run(NONE, true);
                count += supposed.hasClash() ? 1 : 0;
            }
        }
        return count;
    }

    public int phase(int phase, int what) throws NoSuchElementException, IllegalArgumentException {
        needPhase(phase);
        needArgument(what >= 0 && what <= 4);
        return what == 0 ? told.phase[phase].size : now.ofPhase(told.phase[phase], what);
    }

    public int member(int phase, int k) throws NoSuchElementException {
        needPhase(phase);
        return k >= 0 && k < told.phase[phase].size ? told.phase[phase].member[k] : NONE;
    }

    public int trial(int what) throws IllegalArgumentException {
        needArgument(what == 0 || what == 1);
        trying.seek();
        return what == 0 ? trying.answer : trying.looks;
    }

    public int tried(int sample) throws NoSuchElementException {
        needSample(sample);
        trying.seek();
        return trying.answer == 1 ? trying.year[sample] : NONE;
    }

    public int loosened() {
        for (int sigma = 1; sigma <= MOST_SIGMA; sigma++) {
            if (goesBy(sigma, told.reserve)) {
                return sigma;
            }
        }
        return NONE;
    }

    public int shifted() {
        // where the rules leave none of all years there are, no reserve need be tried
        supposed.openAll();
        supposed.run(NONE, true);
        if (supposed.hasClash()) {
            return NO_RESERVE;
        }
        for (int far = 0; far <= MOST_RESERVE; far++) {
            if (goesBy(told.sigma, -far)) {
                return -far;
            }
            if (far > 0 && goesBy(told.sigma, far)) {
                return far;
            }
        }
        return NO_RESERVE;
    }

    public long print() {
        long sum = 0;
        for (int sample = 0; sample < told.samples; sample++) {
            long[] span = now.span[sample];
            int start = Years.nextIn(span, 0);
            for (int k = 0; k < YEARS && start < YEARS; k++) {
                int end = Years.nextOut(span, start);
                sum = 31 * sum + start;
                sum = 31 * sum + end - 1;
                start = Years.nextIn(span, end);
            }
            sum = 31 * sum;
        }
        return sum;
    }

    public int status(int what) {
        return what >= 0 && what < refusals.length ? refusals[what] : NONE;
    }

    private void needThere(boolean there) {
        if (!there) {
            refusals[0]++;
            throw new NoSuchElementException();
        }
    }

    private void needArgument(boolean fine) {
        if (!fine) {
            refusals[1]++;
            throw new IllegalArgumentException();
        }
    }

    private void needRoomForRule() {
        if (told.rules >= MOST_RULES) {
            refusals[2]++;
            throw new IllegalStateException();
        }
    }

    private void needSample(int sample) {
        needThere(sample >= 0 && sample < told.samples);
    }

    private void needPhase(int phase) {
        needThere(phase >= 0 && phase < told.phases);
    }

    private void needRule(int rule) {
        needThere(rule >= 0 && rule < told.rules);
    }

    private void needYear(int year) {
        needThere(isYear(year));
    }

    private static boolean isYear(int year) {
        return year >= 0 && year < YEARS;
    }

    private void feedNumber(int number) {
        for (int shift = 24; shift >= 0; shift -= 8) {
            tape[taped] = number >>> shift & 255;
            taped++;
        }
    }

    private void keepForUndo() {
        if (undos == MOST_UNDOS) {
            Told oldest = past[0];
            for (int k = 1; k < MOST_UNDOS; k++) {
                past[k - 1] = past[k];
            }
            past[MOST_UNDOS - 1] = oldest;
            undos--;
        }
        past[undos].copyFrom(told);
        undos++;
    }

    private void renew() {
        now.layFirst(told.sigma, told.reserve);
        now.run(NONE, false);
        trying.sought = false;
    }

    private int misfitOf(int sample, int year) {
        return year == NONE ? NONE : now.misfitOf(told.sample[sample], year, told.reserve);
    }

    private int ofSupposed(int what) {
        return what == 0 ? supposed.yearsOfAll() : what == 1 ? supposed.emptySpans() : supposed.rounds;
    }

    private boolean goesBy(int sigma, int reserve) {
        supposed.layFirst(sigma, reserve);
        supposed.run(NONE, true);
        return !supposed.hasClash();
    }

    private static final class Sample {
        boolean isRings = false;
        int ageOrSlack = 0;
        int errorOrRings = 0;
        final int[] place = new int[MOST_RINGS];
        final int[] ringAge = new int[MOST_RINGS];

        void copyFrom(Sample other) {
            isRings = other.isRings;
            ageOrSlack = other.ageOrSlack;
            errorOrRings = other.errorOrRings;
            System.arraycopy(other.place, 0, place, 0, MOST_RINGS);
            System.arraycopy(other.ringAge, 0, ringAge, 0, MOST_RINGS);
        }
    }

    private static final class Phase {
        int size = 0;
        final int[] member = new int[MOST_MEMBERS];

        void copyFrom(Phase other) {
            size = other.size;
            System.arraycopy(other.member, 0, member, 0, MOST_MEMBERS);
        }
    }

    private static final class Rule {
        int kind = BEFORE;
        /** A sample; of ORDER and LASTS a phase. */
        int a = 0;
        int b = NONE;
        /** L, Y or N, as the kind has it. */
        int least = 0;
        int most = NONE;

        void copyFrom(Rule other) {
            kind = other.kind;
            a = other.a;
            b = other.b;
            least = other.least;
            most = other.most;
        }
    }

    /** All that is told; what follows from it stands elsewhere. */
    private static final class Told {
        int sigma = 1;
        int reserve = 0;
        int knots = 0;
        int samples = 0;
        int phases = 0;
        int rules = 0;
        final int[] knotYear = new int[MOST_KNOTS];
        final int[] knotAge = new int[MOST_KNOTS];
        final Sample[] sample = new Sample[MOST_SAMPLES];
        final Phase[] phase = new Phase[MOST_PHASES];
        final Rule[] rule = new Rule[MOST_RULES];

        Told() {
            for (int k = 0; k < MOST_SAMPLES; k++) {
                sample[k] = new Sample();
            }
            for (int k = 0; k < MOST_PHASES; k++) {
                phase[k] = new Phase();
            }
            for (int k = 0; k < MOST_RULES; k++) {
                rule[k] = new Rule();
            }
        }

        void forget() {
            sigma = 1;
            reserve = 0;
            knots = 0;
            samples = 0;
            phases = 0;
            rules = 0;
        }

        void copyFrom(Told other) {
            sigma = other.sigma;
            reserve = other.reserve;
            knots = other.knots;
            samples = other.samples;
            phases = other.phases;
            rules = other.rules;
            System.arraycopy(other.knotYear, 0, knotYear, 0, MOST_KNOTS);
            System.arraycopy(other.knotAge, 0, knotAge, 0, MOST_KNOTS);
            for (int k = 0; k < samples; k++) {
                sample[k].copyFrom(other.sample[k]);
            }
            for (int k = 0; k < phases; k++) {
                phase[k].copyFrom(other.phase[k]);
            }
            for (int k = 0; k < rules; k++) {
                rule[k].copyFrom(other.rule[k]);
            }
        }

        void addRule(int kind, int a, int b, int least, int most) {
            if (rules >= MOST_RULES) {
                return;
            }
            Rule added = rule[rules];
            added.kind = kind;
            added.a = a;
            added.b = b;
            added.least = least;
            added.most = most;
            rules++;
        }

        void dropRule(int dropped) {
            for (int k = dropped + 1; k < rules; k++) {
                rule[k - 1].copyFrom(rule[k]);
            }
            rules--;
        }

        void layAges(int[] ages) {
            for (int year = 0; year < YEARS; year++) {
                ages[year] = NONE;
            }
            for (int k = 0; k + 1 < knots; k++) {
                int span = knotYear[k + 1] - knotYear[k];
                int rise = knotAge[k + 1] - knotAge[k];
                for (int behind = 0; behind <= span && span > 0; behind++) {
                    ages[knotYear[k] + behind] = knotAge[k] + rise * behind / span;
                }
            }
        }
    }

    /** Sets of years, a bit for each; the bits above the last year are never set. */
    private static final class Years {
        static void clear(long[] set) {
            for (int w = 0; w < WORDS; w++) {
                set[w] = 0;
            }
        }

        static boolean has(long[] set, int year) {
            return (set[year >> 6] >>> (year & 63) & 1) != 0;
        }

        static void put(long[] set, int year) {
            set[year >> 6] |= 1L << (year & 63);
        }

        static int count(long[] set) {
            int count = 0;
            for (int w = 0; w < WORDS; w++) {
                count += Long.bitCount(set[w]);
            }
            return count;
        }

        /** Puts those of the years from one to another that there are. */
        static void putAll(long[] set, int from, int to) {
            int start = Math.max(from, 0);
            int end = Math.min(to, LAST_YEAR);
            if (start > end) {
                return;
            }
            int firstWord = start >> 6;
            int lastWord = end >> 6;
            for (int w = firstWord; w <= lastWord; w++) {
                long lower = w == firstWord ? -1L << (start & 63) : -1L;
                long upper = w == lastWord ? -1L >>> (63 - (end & 63)) : -1L;
                set[w] |= lower & upper;
            }
        }

        /** The first year of a set that is not below a year; YEARS if there is none. */
        static int nextIn(long[] set, int from) {
            if (from >= YEARS) {
                return YEARS;
            }
            long rest = set[from >> 6] & -1L << (from & 63);
            for (int w = from >> 6; w < WORDS; w++) {
                rest = w == from >> 6 ? rest : set[w];
                if (rest != 0) {
                    return 64 * w + Long.numberOfTrailingZeros(rest);
                }
            }
            return YEARS;
        }

        /** The first year out of a set that is not below a year; YEARS if there is none. */
        static int nextOut(long[] set, int from) {
            if (from >= YEARS) {
                return YEARS;
            }
            long rest = ~set[from >> 6] & -1L << (from & 63);
            for (int w = from >> 6; w < WORDS; w++) {
                rest = w == from >> 6 ? rest : ~set[w];
                if (rest != 0) {
                    return Math.min(YEARS, 64 * w + Long.numberOfTrailingZeros(rest));
                }
            }
            return YEARS;
        }

        static int intervals(long[] set) {
            int count = 0;
            int start = nextIn(set, 0);
            for (int k = 0; k < YEARS && start < YEARS; k++) {
                count++;
                start = nextIn(set, nextOut(set, start));
            }
            return count;
        }

        /** The first year of the k-th interval; YEARS if there is none. */
        static int intervalStart(long[] set, int k) {
            int start = k < 0 ? YEARS : nextIn(set, 0);
            for (int passed = 0; passed < k && start < YEARS; passed++) {
                start = nextIn(set, nextOut(set, start));
            }
            return start;
        }
    }

    /** First spans, and the spans that the rules leave of them. */
    private static final class Narrowing {
        final Told told;
        final int[] ages;
        final long[][] first = new long[MOST_SAMPLES][WORDS];
        final long[][] span = new long[MOST_SAMPLES][WORDS];
        final int[] size = new int[MOST_SAMPLES];
        /** The earliest and the latest year of each span; NONE of an empty one. */
        final int[] low = new int[MOST_SAMPLES];
        final int[] high = new int[MOST_SAMPLES];
        final int[] gone = new int[MOST_RULES];
        int rounds = 0;
        int clashRule = NO_CLASH;
        int clashSample = NO_CLASH;
        private final int[] misfits = new int[YEARS];
        private final long[] reach = new long[WORDS];
        private int ruleAtWork = NONE;
        private boolean changed = false;

        Narrowing(Told told, int[] ages) {
            this.told = told;
            this.ages = ages;
        }

        int misfitOf(Sample sample, int year, int reserve) {
            if (!sample.isRings) {
                return ages[year] == NONE ? NONE : Math.abs(ages[year] + reserve - sample.ageOrSlack);
            }
            int sum = 0;
            for (int k = 0; k < sample.errorOrRings && k < MOST_RINGS; k++) {
                int ringYear = year + sample.place[k];
                if (ringYear >= YEARS || ages[ringYear] == NONE) {
                    return NONE;
                }
                sum += Math.abs(ages[ringYear] + reserve - sample.ringAge[k]);
            }
            return sum;
        }

        void layFirst(int sigma, int reserve) {
            for (int s = 0; s < told.samples; s++) {
                Sample sample = told.sample[s];
                Years.clear(first[s]);
                if (sample.isRings) {
                    layRings(sample, first[s], sigma * sample.ageOrSlack, reserve);
                } else {
                    int middle = sample.ageOrSlack - reserve;
                    layDated(first[s], middle - sigma * sample.errorOrRings, middle + sigma * sample.errorOrRings);
                }
            }
        }

        void openAll() {
            for (int s = 0; s < told.samples; s++) {
                Years.putAll(first[s], 0, LAST_YEAR);
            }
        }

        void takeFirst(Narrowing other) {
            for (int s = 0; s < told.samples; s++) {
                System.arraycopy(other.first[s], 0, first[s], 0, WORDS);
            }
        }

        void takeSpans(Narrowing other) {
            for (int s = 0; s < told.samples; s++) {
                System.arraycopy(other.span[s], 0, first[s], 0, WORDS);
            }
        }

        void pin(int sample, int year) {
            Years.clear(first[sample]);
            Years.put(first[sample], year);
        }

        /** Narrows without one rule (NONE: by all); where only a clash is asked for, up to the first one. */
        void run(int skipped, boolean untilClash) {
            startFromFirst();
            changed = true;
            for (int round = 1; round <= MOST_ROUNDS && changed; round++) {
                rounds = round;
                changed = false;
                for (int r = 0; r < told.rules; r++) {
                    if (untilClash && hasClash()) {
                        return;
                    }
                    if (r != skipped) {
                        ruleAtWork = r;
                        apply(told.rule[r]);
                    }
                }
            }
        }

        boolean hasClash() {
            return clashSample != NO_CLASH;
        }

        boolean sameSpans(Narrowing other) {
            for (int s = 0; s < told.samples; s++) {
                for (int w = 0; w < WORDS; w++) {
                    if (span[s][w] != other.span[s][w]) {
                        return false;
                    }
                }
            }
            return true;
        }

        int yearsOfAll() {
            int sum = 0;
            for (int s = 0; s < told.samples; s++) {
                sum += size[s];
            }
            return sum;
        }

        int emptySpans() {
            int count = 0;
            for (int s = 0; s < told.samples; s++) {
                count += size[s] == 0 ? 1 : 0;
            }
            return count;
        }

        int goneOfAll() {
            int sum = 0;
            for (int r = 0; r < told.rules; r++) {
                sum += gone[r];
            }
            return sum;
        }

        int bestYear(int s) {
            int best = NONE;
            int least = 0;
            int year = Years.nextIn(span[s], 0);
            for (int k = 0; k < YEARS && year < YEARS; k++) {
                int misfit = misfitOf(told.sample[s], year, told.reserve);
                if (best == NONE || misfit < least) {
                    best = year;
                    least = misfit;
                }
                year = Years.nextIn(span[s], year + 1);
            }
            return best;
        }

        /** What phase() answers to a what of 1 to 4. */
        int ofPhase(Phase phase, int what) {
            int earliest = NONE;
            int latest = NONE;
            int greatestEarliest = 0;
            int leastLatest = LAST_YEAR;
            boolean oneEmpty = false;
            for (int k = 0; k < phase.size; k++) {
                int s = phase.member[k];
                if (size[s] == 0) {
                    oneEmpty = true;
                } else {
                    earliest = earliest == NONE ? low[s] : Math.min(earliest, low[s]);
                    latest = Math.max(latest, high[s]);
                    greatestEarliest = Math.max(greatestEarliest, low[s]);
                    leastLatest = Math.min(leastLatest, high[s]);
                }
            }
            if (what <= 2) {
                return what == 1 ? earliest : latest;
            }
            if (oneEmpty) {
                return NONE;
            }
            return what == 3 ? Math.max(0, greatestEarliest - leastLatest) : latest - earliest;
        }

        // by ages, not by misfits: shifted() has this done a thousand times
        private void layDated(long[] into, int least, int most) {
            for (int year = 0; year < YEARS; year++) {
                int age = ages[year];
                if (age >= least && age <= most && age != NONE) {
                    Years.put(into, year);
                }
            }
        }

        private void layRings(Sample sample, long[] into, int slack, int reserve) {
            int least = Integer.MAX_VALUE - slack;
            for (int year = 0; year < YEARS; year++) {
                misfits[year] = misfitOf(sample, year, reserve);
                if (misfits[year] != NONE && misfits[year] < least) {
                    least = misfits[year];
                }
            }
            for (int year = 0; year < YEARS; year++) {
                if (misfits[year] != NONE && misfits[year] <= least + slack) {
                    Years.put(into, year);
                }
            }
        }

        private void startFromFirst() {
            clashRule = NO_CLASH;
            clashSample = NO_CLASH;
            for (int r = 0; r < told.rules; r++) {
                gone[r] = 0;
            }
            for (int s = 0; s < told.samples; s++) {
                System.arraycopy(first[s], 0, span[s], 0, WORDS);
                // nothing goes yet, but the span is measured so
                keepOnly(s, first[s]);
                if (size[s] == 0 && !hasClash()) {
                    clashRule = NONE;
                    clashSample = s;
                }
            }
        }

        private void apply(Rule rule) {
            switch (rule.kind) {
                case BEFORE:
                    meet(rule.a, rule.b, rule.least, rule.most);
                    break;
                case SAME:
                    meet(rule.a, rule.b, 0, 0);
                    break;
                case AFTER:
                    limit(rule.a, rule.least, LAST_YEAR);
                    break;
                case UNTIL:
                    limit(rule.a, 0, rule.least);
                    break;
                case ORDER:
                    Phase p = told.phase[rule.a];
                    Phase q = told.phase[rule.b];
                    for (int k = 0; k < p.size; k++) {
                        for (int m = 0; m < q.size; m++) {
                            meet(p.member[k], q.member[m], rule.least, LAST_YEAR);
                        }
                    }
                    break;
                default:
                    Phase together = told.phase[rule.a];
                    for (int k = 0; k < together.size; k++) {
                        for (int m = k + 1; m < together.size; m++) {
                            meet(together.member[k], together.member[m], -rule.least, rule.least);
                        }
                    }
                    break;
            }
        }

        private void meet(int a, int b, int least, int most) {
            if (a != b) {
                fit(b, a, least, most);
                fit(a, b, -most, -least);
            } else if (least > 0) {
                // no year is behind itself
                limit(a, YEARS, LAST_YEAR);
            }
        }

        /** Takes out the years of one sample that are not least to most behind any of another. */
        private void fit(int of, int by, int least, int most) {
            int from = low[by] + least;
            int to = high[by] + most;
            // the years that are reached lie together if the span does, or if its gaps are bridged
            int wide = high[by] - low[by];
            boolean together = wide == size[by] - 1 || most - least >= wide - 1;
            if (size[of] == 0 || size[by] > 0 && together && from <= low[of] && to >= high[of]) {
                return;
            }
            Years.clear(reach);
            if (size[by] > 0 && together) {
                Years.putAll(reach, from, to);
            } else if (size[by] > 0) {
                int start = low[by];
                for (int k = 0; k < YEARS && start < YEARS; k++) {
                    int end = Years.nextOut(span[by], start);
                    Years.putAll(reach, start + least, end - 1 + most);
                    start = Years.nextIn(span[by], end);
                }
            }
            int was = size[of];
            keepOnly(of, reach);
            note(of, was);
        }

        private void limit(int of, int from, int to) {
            Years.clear(reach);
            Years.putAll(reach, from, to);
            int was = size[of];
            keepOnly(of, reach);
            note(of, was);
        }

        private void keepOnly(int s, long[] kept) {
            int count = 0;
            int lowest = NONE;
            int highest = NONE;
            for (int w = 0; w < WORDS; w++) {
                long word = span[s][w] & kept[w];
                span[s][w] = word;
                if (word != 0) {
                    count += Long.bitCount(word);
                    lowest = lowest == NONE ? 64 * w + Long.numberOfTrailingZeros(word) : lowest;
                    highest = 64 * w + 63 - Long.numberOfLeadingZeros(word);
                }
            }
            size[s] = count;
            low[s] = lowest;
            high[s] = highest;
        }

        private void note(int s, int was) {
            if (size[s] == was) {
                return;
            }
            changed = true;
            gone[ruleAtWork] += was - size[s];
            if (size[s] == 0 && !hasClash()) {
                clashRule = ruleAtWork;
                clashSample = s;
            }
        }
    }

    /** One way of true years, found by trying. */
    private static final class Trial {
        final int[] year = new int[MOST_SAMPLES];
        boolean sought = false;
        int answer = 0;
        int looks = 0;
        private final Told told;
        private final Narrowing now;
        /** By how much a sample's year may be behind that of one ahead of it, by all rules together. */
        private final int[][] least = new int[MOST_SAMPLES][MOST_SAMPLES];
        private final int[][] most = new int[MOST_SAMPLES][MOST_SAMPLES];

        Trial(Told told, Narrowing now) {
            this.told = told;
            this.now = now;
        }

        void seek() {
            if (sought) {
                return;
            }
            sought = true;
            bindAll();
            looks = 0;
            answer = GIVEN_UP;
            year[0] = NONE;
            int at = 0;
            for (int step = 0; step < MOST_STEPS && at >= 0 && at < told.samples; step++) {
                int next = Years.nextIn(now.span[at], year[at] + 1);
                if (next >= YEARS) {
                    at--;
                    continue;
                }
                if (looks == MOST_LOOKS) {
                    return;
                }
                looks++;
                year[at] = next;
                if (fitsThoseAhead(at)) {
                    at++;
                    if (at < told.samples) {
                        year[at] = NONE;
                    }
                }
            }
            answer = at < 0 ? 0 : 1;
        }

        private boolean fitsThoseAhead(int at) {
            for (int ahead = 0; ahead < at; ahead++) {
                int behind = year[at] - year[ahead];
                if (behind < least[at][ahead] || behind > most[at][ahead]) {
                    return false;
                }
            }
            return true;
        }

        // AFTER and UNTIL need no binding: the spans hold no year that they forbid
        private void bindAll() {
            for (int s = 0; s < told.samples; s++) {
                for (int ahead = 0; ahead < s; ahead++) {
                    least[s][ahead] = -LAST_YEAR;
                    most[s][ahead] = LAST_YEAR;
                }
            }
            for (int r = 0; r < told.rules; r++) {
                Rule rule = told.rule[r];
                switch (rule.kind) {
                    case BEFORE:
                        bind(rule.a, rule.b, rule.least, rule.most);
                        break;
                    case SAME:
                        bind(rule.a, rule.b, 0, 0);
                        break;
                    case ORDER:
                        bindInOrder(told.phase[rule.a], told.phase[rule.b], rule.least);
                        break;
                    case LASTS:
                        bindTogether(told.phase[rule.a], rule.least);
                        break;
                    default:
                        break;
                }
            }
        }

        private void bindInOrder(Phase p, Phase q, int atLeast) {
            for (int k = 0; k < p.size; k++) {
                for (int m = 0; m < q.size; m++) {
                    bind(p.member[k], q.member[m], atLeast, LAST_YEAR);
                }
            }
        }

        private void bindTogether(Phase p, int atMost) {
            for (int k = 0; k < p.size; k++) {
                for (int m = k + 1; m < p.size; m++) {
                    bind(p.member[k], p.member[m], -atMost, atMost);
                }
            }
        }

        // a sample with itself is not bound: where that can't be, its span is empty
        private void bind(int a, int b, int atLeast, int atMost) {
            if (a < b) {
                least[b][a] = Math.max(least[b][a], atLeast);
                most[b][a] = Math.min(most[b][a], atMost);
            } else if (a > b) {
                least[a][b] = Math.max(least[a][b], -atMost);
                most[a][b] = Math.min(most[a][b], -atLeast);
            }
        }
    }

    /** Reads the tape as a text into a draft, up to the first fault; behind a fault nothing is read. */
    private static final class Reader {
        final Told draft = new Told();
        int fault = 0;
        int place = NONE;
        private final int[] bytes;
        private int length = 0;
        private int at = 0;
        private int wordAt = 0;
        private int wordEnd = 0;
        private boolean sigmaTold = false;
        private boolean reserveTold = false;
        private final int[] sampleName = new int[MOST_SAMPLES];
        private final int[] phaseName = new int[MOST_PHASES];

        Reader(int[] tape) {
            bytes = tape;
        }

        void read(int n) {
            draft.forget();
            fault = 0;
            place = NONE;
            length = n;
            at = 0;
            sigmaTold = false;
            reserveTold = false;
            readLine(true);
            for (int k = 0; k < MOST_BYTES && fault == 0 && peek() != TEXT_END; k++) {
                readLine(false);
            }
        }

        private void readLine(boolean firstOfAll) {
            readWord();
            int kind = keyword();
            if (kind == NONE || firstOfAll && kind != CURVE_LINE) {
                fail(OUT_OF_PLACE, wordAt);
                return;
            }
            switch (kind) {
                case CURVE_LINE:
                    readCurve(firstOfAll);
                    break;
                case SAMPLE_LINE:
                    readSample();
                    break;
                case RINGS_LINE:
                    readRings();
                    break;
                case PHASE_LINE:
                    readPhase();
                    break;
                case SIGMA_LINE:
                    readSigma();
                    break;
                case RESERVE_LINE:
                    readReserve();
                    break;
                default:
                    readRule(kind);
                    break;
            }
        }

        private int keyword() {
            if (wordIs("before")) {
                return BEFORE;
            } else if (wordIs("same")) {
                return SAME;
            } else if (wordIs("after")) {
                return AFTER;
            } else if (wordIs("until")) {
                return UNTIL;
            } else if (wordIs("order")) {
                return ORDER;
            } else if (wordIs("lasts")) {
                return LASTS;
            } else if (wordIs("curve")) {
                return CURVE_LINE;
            } else if (wordIs("sample")) {
                return SAMPLE_LINE;
            } else if (wordIs("rings")) {
                return RINGS_LINE;
            } else if (wordIs("phase")) {
                return PHASE_LINE;
            } else if (wordIs("sigma")) {
                return SIGMA_LINE;
            }
            return wordIs("reserve") ? RESERVE_LINE : NONE;
        }

        private void readCurve(boolean firstOfAll) {
            if (!firstOfAll) {
                fail(TOO_MANY, wordAt);
            }
            int year = NONE;
            for (int k = 0; k <= MOST_KNOTS && fault == 0; k++) {
                if (k >= 2 && peek() != ',') {
                    break;
                }
                if (k == MOST_KNOTS) {
                    fail(TOO_MANY, at);
                    break;
                }
                if (k > 0) {
                    readSign(',');
                }
                year = readNumber(year + 1, LAST_YEAR);
                draft.knotYear[k] = year;
                draft.knotAge[k] = readNumber(0, MOST_AGE);
                draft.knots = k + 1;
            }
            readSign(';');
        }

        private void readSample() {
            if (draft.samples >= MOST_SAMPLES) {
                fail(TOO_MANY, wordAt);
                return;
            }
            int name = readNewName();
            int age = readNumber(0, MOST_AGE);
            int error = readNumber(0, MOST_ERROR);
            readSign(';');
            Sample sample = draft.sample[draft.samples];
            sample.isRings = false;
            sample.ageOrSlack = age;
            sample.errorOrRings = error;
            sampleName[draft.samples] = name;
            draft.samples++;
        }

        private void readRings() {
            if (draft.samples >= MOST_SAMPLES) {
                fail(TOO_MANY, wordAt);
                return;
            }
            Sample sample = draft.sample[draft.samples];
            int name = readNewName();
            sample.isRings = true;
            sample.ageOrSlack = readNumber(0, MOST_ERROR);
            int behind = NONE;
            for (int k = 0; k <= MOST_RINGS && fault == 0; k++) {
                if (k >= 1 && peek() != ',') {
                    break;
                }
                if (k == MOST_RINGS) {
                    fail(TOO_MANY, at);
                    break;
                }
                if (k > 0) {
                    readSign(',');
                }
                behind = readNumber(behind + 1, MOST_PLACE);
                sample.place[k] = behind;
                sample.ringAge[k] = readNumber(0, MOST_AGE);
                sample.errorOrRings = k + 1;
            }
            readSign(';');
            sampleName[draft.samples] = name;
            draft.samples++;
        }

        private void readPhase() {
            if (draft.phases >= MOST_PHASES) {
                fail(TOO_MANY, wordAt);
                return;
            }
            Phase phase = draft.phase[draft.phases];
            int name = readNewName();
            phase.size = 0;
            for (int k = 0; k <= MOST_MEMBERS && fault == 0; k++) {
                if (k >= 1 && !isLetter(peek())) {
                    break;
                }
                if (k == MOST_MEMBERS) {
                    fail(TOO_MANY, at);
                    break;
                }
                phase.member[k] = readMember(phase, name);
                phase.size = k + 1;
            }
            readSign(';');
            phaseName[draft.phases] = name;
            draft.phases++;
        }

        private int readMember(Phase phase, int phaseOwnName) {
            int name = readName();
            int sample = numberOf(name, sampleName, draft.samples);
            boolean twice = name == phaseOwnName;
            for (int k = 0; k < phase.size; k++) {
                twice = twice || phase.member[k] == sample;
            }
            if (twice) {
                fail(NAME_TAKEN, wordAt);
            } else if (sample == NONE) {
                fail(NAME_UNKNOWN, wordAt);
            }
            return sample;
        }

        private void readSigma() {
            if (sigmaTold) {
                fail(TOO_MANY, wordAt);
            }
            sigmaTold = true;
            draft.sigma = readNumber(1, MOST_SIGMA);
            readSign(';');
        }

        private void readReserve() {
            if (reserveTold) {
                fail(TOO_MANY, wordAt);
            }
            reserveTold = true;
            boolean below = peek() == '-';
            int start = at;
            if (below) {
                readSign('-');
            }
            int reserve = readNumber(0, Integer.MAX_VALUE);
            if (reserve > MOST_RESERVE) {
                fail(NO_SUCH_NUMBER, start);
            }
            draft.reserve = below ? -reserve : reserve;
            readSign(';');
        }

        private void readRule(int kind) {
            if (draft.rules >= MOST_RULES) {
                fail(TOO_MANY, wordAt);
                return;
            }
            boolean ofPhases = kind == ORDER || kind == LASTS;
            int a = ofPhases ? readPhaseName(NONE) : readSampleName(NONE);
            int b = NONE;
            int least = 0;
            int most = NONE;
            if (kind == BEFORE || kind == SAME) {
                b = readSampleName(a);
            } else if (kind == ORDER) {
                b = readPhaseName(a);
            } else {
                least = readNumber(0, LAST_YEAR);
            }
            if ((kind == BEFORE || kind == ORDER) && isDigit(peek())) {
                least = readNumber(0, LAST_YEAR);
            }
            if (kind == BEFORE) {
                // a number that stands here is the second one, as the first takes all its digits
                most = isDigit(peek()) ? readNumber(least, LAST_YEAR) : LAST_YEAR;
            }
            readSign(';');
            draft.addRule(kind, a, b, least, most);
        }

        private int readSampleName(int twin) {
            return known(numberOf(readName(), sampleName, draft.samples), twin);
        }

        private int readPhaseName(int twin) {
            return known(numberOf(readName(), phaseName, draft.phases), twin);
        }

        private int known(int found, int twin) {
            if (found == NONE) {
                fail(NAME_UNKNOWN, wordAt);
            } else if (found == twin) {
                fail(NAME_TAKEN, wordAt);
            }
            return found;
        }

        private static int numberOf(int name, int[] names, int count) {
            for (int k = 0; k < count; k++) {
                if (names[k] == name) {
                    return k;
                }
            }
            return NONE;
        }

        private int readNewName() {
            int name = readName();
            if (numberOf(name, sampleName, draft.samples) != NONE
                    || numberOf(name, phaseName, draft.phases) != NONE) {
                fail(NAME_TAKEN, wordAt);
            }
            return name;
        }

        /** A name's letters as the digits of one number. */
        private int readName() {
            readWord();
            if (wordEnd - wordAt > NAME_LETTERS) {
                fail(OUT_OF_PLACE, wordAt);
            }
            int name = 0;
            for (int k = 0; k < NAME_LETTERS && wordAt + k < wordEnd; k++) {
                name = 27 * name + bytes[wordAt + k] - 'a' + 1;
            }
            return name;
        }

        private void readWord() {
            if (!isLetter(peek())) {
                fail(OUT_OF_PLACE, at);
            }
            wordAt = at;
            while (fault == 0 && at < length && isLetter(bytes[at])) {
                at++;
            }
            wordEnd = at;
        }

        private boolean wordIs(String word) {
            if (word.length() != wordEnd - wordAt) {
                return false;
            }
            for (int k = 0; k < word.length(); k++) {
                if (bytes[wordAt + k] != word.charAt(k)) {
                    return false;
                }
            }
            return true;
        }

        private int readNumber(int least, int most) {
            if (!isDigit(peek())) {
                fail(OUT_OF_PLACE, at);
            }
            int start = at;
            int number = 0;
            while (fault == 0 && at < length && isDigit(bytes[at])) {
                // beyond this no number is one of the language, whatever follows
                number = number < 100000 ? 10 * number + bytes[at] - '0' : number;
                at++;
            }
            if (number < least || number > most) {
                fail(NO_SUCH_NUMBER, start);
            }
            return number;
        }

        private void readSign(int sign) {
            if (peek() != sign) {
                fail(OUT_OF_PLACE, at);
            } else if (fault == 0) {
                at++;
            }
        }

        /** The byte that stands next behind blanks. */
        private int peek() {
            while (fault == 0 && at < length && bytes[at] == ' ') {
                at++;
            }
            return at < length ? bytes[at] : TEXT_END;
        }

        private void fail(int kind, int where) {
            if (fault == 0) {
                fault = kind;
                place = where;
            }
        }

        private static boolean isLetter(int b) {
            return b >= 'a' && b <= 'z';
        }

        private static boolean isDigit(int b) {
            return b >= '0' && b <= '9';
        }
    }
}
