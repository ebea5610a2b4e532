/** For each sentence on calls that names a boundary case a test of its own: their arguments, empty and full desks, refusals. */
public final class EdgesOfCallsTest {
    private static final int NONE = CarbonDates.NONE;
    private static final int MIN = Integer.MIN_VALUE;
    private static final int MAX = Integer.MAX_VALUE;
    /** What phase() answers of fourPhases(). */
    private static final int[][] OF_FOUR_PHASES = {{6, 0, 999, NONE, NONE}, {2, NONE, NONE, NONE, NONE},
        {2, 999, 999, NONE, NONE}, {1, 490, 510, 0, 20}};
    private static final String NO_SUCH_ONE = "NoSuchElementException: no such SAMPLE, PHASE, RULE, INTERVAL, YEAR (so below, ahead of others).";
    private static final String ANOTHER = "IllegalArgumentException: another argument (so below).";

    public static void main(String[] args) {
        newDesk();
        set();
        redate();
        before();
        bounds();
        drop();
        undo();
        told();
        asMuchAsThereCanBe();
        age();
        years();
        knot();
        sample();
        interval();
        misfit();
        place();
        rule();
        clash();
        blame();
        needless();
        without();
        pinned();
        doomed();
        phase();
        member();
        trial();
        tried();
        loosened();
        shifted();
        print();
        status();
        Edge.end("EdgesOfCallsTest");
    }

    private interface OfWhat {
        long call(CarbonDates desk, int what);
    }

    /** 0 to most are answered, others are refused. */
    private static void whats(String promise, int most, OfWhat asked) {
        Edge.sentence(promise, ANOTHER, () -> {
            for (int what = 0; what <= most; what++) {
                int fine = what;
                Edge.leavesAll("what " + what, x -> asked.call(x, fine));
            }
            for (int what : new int[] {-1, most + 1, MIN, MAX}) {
                Edge.illegal("what " + what, x -> asked.call(x, what));
            }
        });
    }

    /** 0 to most are there, others are not, whatever else is asked for. */
    private static void there(String promise, String of, int most, OfWhat asked) {
        Edge.sentence(promise, NO_SUCH_ONE, () -> {
            for (int number : new int[] {0, most}) {
                Edge.leavesAll(of + " " + number, x -> asked.call(x, number));
            }
            for (int number : new int[] {-1, most + 1, MIN, MAX}) {
                Edge.noSuch(of + " " + number, x -> asked.call(x, number));
            }
        });
    }

    // ---- promise 1

    private static CarbonDates taped() {
        CarbonDates x = new CarbonDates();
        Desks.feed(x, Edge.TAPED);
        return x;
    }

    private static void newDesk() {
        Edge.sentence("promise 1", "A CURVE of KNOTS (0, 1,000) and (999, 1); no SAMPLES, PHASES, RULES; SIGMA 1, RESERVE 0.", () -> {
            CarbonDates x = new CarbonDates();
            int[] told = {2, 0, 0, 0, 1, 0, 1, 0, 0, 0, 0, 0};
            for (int what = 0; what < told.length; what++) {
                Edge.due("told " + what, x.told(what), told[what]);
            }
            Edge.due("first knot", x.knot(0, 0) * 10000 + x.knot(0, 1), 1000);
            Edge.due("last knot", x.knot(1, 0) * 10000 + x.knot(1, 1), 9990001);
            for (int year : new int[] {0, 1, 500, 998, 999}) {
                Edge.due("age of " + year, x.age(year), 1000 - year);
            }
            Edge.due("blame", x.blame(), 0);
            Edge.due("needless", x.needless(), 0);
            Edge.due("loosened", x.loosened(), 1);
            Edge.due("shifted", x.shifted(), 0);
            Edge.due("print", x.print(), 0);
            Edge.due("clash", x.clash(0), -2);
            Edge.due("undo", x.undo(), NONE);
            Edge.due("fault", x.fault(), NONE);
            Edge.due("set", x.set(0, 3), 1);
            Edge.due("set", x.set(1, 5), 0);
            Edge.refused("drop", Desks.NO_SUCH, EdgesOfCallsTest::taped, y -> y.drop(0));
            Edge.refused("redate", Desks.NO_SUCH, EdgesOfCallsTest::taped, y -> y.redate(0, 0, 0));
            Edge.refused("before", Desks.NO_SUCH, EdgesOfCallsTest::taped, y -> y.before(0, 1, 0, 0));
            Edge.refused("bounds", Desks.NO_SUCH, EdgesOfCallsTest::taped, y -> y.bounds(0, 2, 0));
            Edge.refused("sample", Desks.NO_SUCH, EdgesOfCallsTest::taped, y -> y.sample(0, 0));
            Edge.refused("interval", Desks.NO_SUCH, EdgesOfCallsTest::taped, y -> y.interval(0, 0, 0));
            Edge.refused("misfit", Desks.NO_SUCH, EdgesOfCallsTest::taped, y -> y.misfit(0, 0));
            Edge.refused("place", Desks.NO_SUCH, EdgesOfCallsTest::taped, y -> y.place(0, 0));
            Edge.refused("rule", Desks.NO_SUCH, EdgesOfCallsTest::taped, y -> y.rule(0, 0));
            Edge.refused("without", Desks.NO_SUCH, EdgesOfCallsTest::taped, y -> y.without(0, 0));
            Edge.refused("pinned", Desks.NO_SUCH, EdgesOfCallsTest::taped, y -> y.pinned(0, 0, 0));
            Edge.refused("doomed", Desks.NO_SUCH, EdgesOfCallsTest::taped, y -> y.doomed(0));
            Edge.refused("phase", Desks.NO_SUCH, EdgesOfCallsTest::taped, y -> y.phase(0, 0));
            Edge.refused("member", Desks.NO_SUCH, EdgesOfCallsTest::taped, y -> y.member(0, 0));
            Edge.refused("tried", Desks.NO_SUCH, EdgesOfCallsTest::taped, y -> y.tried(0));
        });
    }

    // ---- promise 5

    private static void set() {
        Edge.sentence("promise 5", "0 SIGMA, 1 RESERVE from now on: what it was.", () -> {
            CarbonDates x = Edge.plain("sample a 500 0;sample b 500 1;");
            Edge.due("the greatest sigma", x.set(0, 3), 1);
            Edge.due("told", x.told(4), 3);
            Edge.due("the least sigma", x.set(0, 1), 3);
            Edge.due("told", x.told(4), 1);
            Edge.due("the same sigma", x.set(0, 1), 1);
            Edge.due("the greatest reserve", x.set(1, 500), 0);
            Edge.due("the first year", x.sample(0, 5), 0);
            Edge.due("the least reserve", x.set(1, -500), 500);
            Edge.due("told", x.told(5), -500);
            Edge.due("behind the last year", x.sample(0, 5), NONE);
            Edge.due("the last year, by the error", x.sample(1, 5), 999);
            Edge.due("0", x.set(1, 0), -500);
            Edge.due("told", x.told(5), 0);
            Edge.due("can be taken back", x.told(10), 6);
        });

        Edge.sentence("promise 5", ANOTHER, () -> {
            for (int v : new int[] {0, 4, -1, MIN, MAX}) {
                Edge.illegal("sigma " + v, desk -> desk.set(0, v));
            }
            for (int v : new int[] {-501, 501, MIN, MAX}) {
                Edge.illegal("reserve " + v, desk -> desk.set(1, v));
            }
            for (int what : new int[] {-1, 2, MIN, MAX}) {
                Edge.illegal("what " + what, desk -> desk.set(what, 1));
            }
        });
    }

    // ---- promise 6

    private static void redate() {
        Edge.sentence("promise 6", "A SAMPLE is DATED so (A, E) from now on, RINGS or not: 0 it was DATED, 1 it was RINGS.", () -> {
            CarbonDates x = Edge.plain("sample a 100 10;rings b 5 0 105,10 115;");
            Edge.due("the least", x.redate(0, 0, 0), 0);
            Edge.due("A", x.sample(0, 1), 0);
            Edge.due("E", x.sample(0, 2), 0);
            Edge.due("years", x.sample(0, 4), 1);
            Edge.due("the greatest", x.redate(1, 9999, 999), 1);
            Edge.due("it is no rings", x.sample(1, 0), 0);
            Edge.due("A", x.sample(1, 1), 9999);
            Edge.due("E", x.sample(1, 2), 999);
            Edge.due("misfit of its first year alone", x.misfit(1, 999), 9000);
            Edge.due("it was dated by now", x.redate(1, 9999, 999), 0);
            x.undo();
            x.undo();
            Edge.due("rings again", x.sample(1, 0), 1);
            Edge.due("how many", x.sample(1, 2), 2);
            Edge.due("their misfit", x.misfit(1, 100), 10);
        });

        there("promise 6", "sample", 1, (desk, sample) -> sample >= 0 && sample <= 1 ? 0 : desk.redate(sample, -1, -1));
        Edge.sentence("promise 6", ANOTHER, () -> {
            for (int a : new int[] {-1, 10000, MIN, MAX}) {
                Edge.illegal("A " + a, desk -> desk.redate(0, a, 0));
            }
            for (int e : new int[] {-1, 1000, MIN, MAX}) {
                Edge.illegal("E " + e, desk -> desk.redate(1, 0, e));
            }
        });
    }

    // ---- promises 7 and 8

    private static void before() {
        Edge.sentence("promise 7", "A RULE more, BEFORE: its number.", () -> {
            CarbonDates x = Edge.plain("sample a 100 10;sample b 100 10;");
            int[][] numbers = {{0, 0}, {0, 999}, {999, 999}, {5, 5}, {5, 6}};
            for (int k = 0; k < numbers.length; k++) {
                Edge.due("number", x.before(k % 2, 1 - k % 2, numbers[k][0], numbers[k][1]), k);
                Edge.due("kind", x.rule(k, 0), 0);
                Edge.due("a", x.rule(k, 1), k % 2);
                Edge.due("b", x.rule(k, 2), 1 - k % 2);
                Edge.due("L", x.rule(k, 3), numbers[k][0]);
                Edge.due("M", x.rule(k, 4), numbers[k][1]);
            }
            x = Edge.plain("sample a 100 10;sample b 100 10;");
            x.before(0, 1, 20, 20);
            Edge.due("from now on", x.told(7), 2);
            Edge.due("its GONE", x.rule(0, 5), 40);
        });

        Edge.sentence("promise 7", "IllegalArgumentException: also two that are the same.", () -> {
            Edge.illegal("0 0", desk -> desk.before(0, 0, 0, 0));
            Edge.illegal("1 1", desk -> desk.before(1, 1, 0, 999));
            for (int least : new int[] {-1, 1000, MIN, MAX}) {
                Edge.illegal("L " + least, desk -> desk.before(0, 1, least, Math.max(least, 999)));
            }
            for (int most : new int[] {-1, 4, 1000, MIN, MAX}) {
                Edge.illegal("M " + most, desk -> desk.before(0, 1, 5, most));
            }
            Edge.illegal("M below 999", desk -> desk.before(0, 1, 999, 998));
        });

        Edge.sentence("promise 7", NO_SUCH_ONE, () -> {
            for (int sample : new int[] {-1, 2, MIN, MAX}) {
                Edge.noSuch("a " + sample, desk -> desk.before(sample, 1, 0, 0));
                Edge.noSuch("b " + sample, desk -> desk.before(0, sample, 0, 0));
                Edge.noSuch("both " + sample, desk -> desk.before(sample, sample, 0, 0));
                Edge.noSuch("a " + sample + " and L, M", desk -> desk.before(sample, 1, -1, -2));
                Edge.noSuch("b " + sample + " and L, M", desk -> desk.before(0, sample, -1, -2));
            }
        });

        Edge.sentence("promise 7", "IllegalStateException: there are 24 (behind others).", () -> {
            CarbonDates x = Edge.full();
            Edge.due("24", x.told(3), 24);
            x.drop(23);
            Edge.due("the 24th", x.before(0, 1, 0, 0), 23);
            Edge.refused("a 25th", Desks.STATE, Edge::full, desk -> desk.before(0, 1, 0, 0));
            Edge.refused("two alike ahead", Desks.ILLEGAL, Edge::full, desk -> desk.before(0, 0, 0, 0));
            Edge.refused("L, M ahead", Desks.ILLEGAL, Edge::full, desk -> desk.before(0, 1, 5, 4));
            Edge.refused("a ahead", Desks.NO_SUCH, Edge::full, desk -> desk.before(2, 1, 5, 4));
            Edge.refused("b ahead", Desks.NO_SUCH, Edge::full, desk -> desk.before(0, -1, 5, 4));
            CarbonDates told = Edge.plain("sample a 1 1;sample b 1 1;" + "same a b;".repeat(24));
            Desks.refused("promise 7, 24 of a text", Desks.STATE, () -> told.before(0, 1, 0, 0));
        });
    }

    private static void bounds() {
        Edge.sentence("promise 8", "Likewise AFTER (what 2), UNTIL (3).", () -> {
            CarbonDates x = Edge.plain("sample a 100 10;sample b 100 10;");
            int[][] numbers = {{0, 2, 0}, {1, 2, 999}, {0, 3, 0}, {1, 3, 999}};
            for (int k = 0; k < numbers.length; k++) {
                Edge.due("number", x.bounds(numbers[k][0], numbers[k][1], numbers[k][2]), k);
                Edge.due("kind", x.rule(k, 0), numbers[k][1]);
                Edge.due("a", x.rule(k, 1), numbers[k][0]);
                Edge.due("Y", x.rule(k, 3), numbers[k][2]);
            }
            x = Edge.plain("sample a 100 10;");
            x.bounds(0, 2, 110);
            Edge.due("from now on", x.told(7), 1);
            Edge.due("its GONE", x.rule(0, 5), 20);
            for (int what : new int[] {-1, 0, 1, 4, 5, MIN, MAX}) {
                Edge.illegal("what " + what, desk -> desk.bounds(0, what, 0));
            }
        });

        Edge.sentence("promise 8", "IllegalArgumentException: also a year that is none.", () -> {
            for (int year : new int[] {-1, 1000, MIN, MAX}) {
                Edge.illegal("after " + year, desk -> desk.bounds(0, 2, year));
                Edge.illegal("until " + year, desk -> desk.bounds(1, 3, year));
            }
        });

        Edge.sentence("promise 8", NO_SUCH_ONE, () -> {
            for (int sample : new int[] {-1, 2, MIN, MAX}) {
                Edge.noSuch("sample " + sample, desk -> desk.bounds(sample, 2, 0));
                Edge.noSuch("sample " + sample + " and what", desk -> desk.bounds(sample, 1, 0));
                Edge.noSuch("sample " + sample + " and year", desk -> desk.bounds(sample, 3, 1000));
            }
        });

        Edge.sentence("promise 8, as 7", "IllegalStateException: there are 24 (behind others).", () -> {
            CarbonDates x = Edge.full();
            x.drop(0);
            Edge.due("the 24th", x.bounds(1, 3, 999), 23);
            Edge.refused("a 25th, after", Desks.STATE, Edge::full, desk -> desk.bounds(0, 2, 0));
            Edge.refused("a 25th, until", Desks.STATE, Edge::full, desk -> desk.bounds(1, 3, 999));
            Edge.refused("what ahead", Desks.ILLEGAL, Edge::full, desk -> desk.bounds(0, 1, 0));
            Edge.refused("year ahead", Desks.ILLEGAL, Edge::full, desk -> desk.bounds(0, 2, 1000));
            Edge.refused("sample ahead", Desks.NO_SUCH, Edge::full, desk -> desk.bounds(2, 1, 1000));
        });
    }

    // ---- promise 9

    private static void drop() {
        Edge.sentence("promise 9", "A RULE is no more (those behind it are one less): its GONE.", () -> {
            String text = "sample a 500 10;after a 495;until a 507;after a 500;until a 506;";
            int[] gone = {5, 3, 5, 1};
            for (int dropped = 0; dropped < 4; dropped++) {
                CarbonDates x = Edge.plain(text);
                Edge.due("gone of " + dropped, x.drop(dropped), gone[dropped]);
                Edge.due("how many are left", x.told(3), 3);
                int[] left = {495, 507, 500, 506};
                for (int r = 0; r < 3; r++) {
                    int was = r < dropped ? r : r + 1;
                    Edge.due("kind of " + r + " without " + dropped, x.rule(r, 0), 2 + was % 2);
                    Edge.due("year of " + r + " without " + dropped, x.rule(r, 3), left[was]);
                }
            }
            CarbonDates x = Edge.plain("sample a 500 10;after a 0;");
            Edge.due("gone of one that took out none", x.drop(0), 0);
            Edge.due("none is left", x.told(3), 0);
            Desks.refused("promise 9, of none", Desks.NO_SUCH, () -> x.drop(0));
            CarbonDates full = Edge.full();
            full.drop(0);
            Edge.due("of 24", full.told(3), 23);
            Edge.due("the last of these", full.rule(22, 0), 2);
            Desks.refused("promise 9, the 24th of 23", Desks.NO_SUCH, () -> full.rule(23, 0));
        });

        Edge.sentence("promise 9", NO_SUCH_ONE, () -> {
            for (int rule : new int[] {-1, 2, MIN, MAX}) {
                Edge.noSuch("rule " + rule, desk -> desk.drop(rule));
            }
            Edge.refused("rule 24 of 24", Desks.NO_SUCH, Edge::full, desk -> desk.drop(24));
        });
    }

    // ---- promise 10

    private static void undo() {
        Edge.sentence("promise 10", "All is as ahead of the latest set(), redate(), before(), bounds(), drop()", () -> {
            takenBack("set", x -> x.set(0, 3));
            takenBack("set to what it is", x -> x.set(1, 3));
            takenBack("redate", x -> x.redate(1, 0, 0));
            takenBack("before", x -> x.before(1, 0, 3, 4));
            takenBack("bounds", x -> x.bounds(0, 2, 100));
            takenBack("drop the first", x -> x.drop(0));
            takenBack("drop the last", x -> x.drop(1));
        });

        Edge.sentence("promise 10", "(the latest 12 can be taken back): how many still can", () -> {
            CarbonDates x = Edge.plain("sample a 500 10;");
            for (int k = 1; k <= 13; k++) {
                x.set(1, k);
                Edge.due("told", x.told(10), k < 12 ? k : 12);
            }
            for (int k = 11; k >= 0; k--) {
                Edge.due("still", x.undo(), k);
                Edge.due("reserve", x.told(5), k + 1);
                Edge.due("span", x.sample(0, 5), 490 - k - 1);
            }
            Edge.due("the first of 13 can't", x.undo(), NONE);
            Edge.due("reserve", x.told(5), 1);
            x = new CarbonDates();
            for (int k = 1; k <= 40; k++) {
                x.set(1, k);
                if (k % 3 == 0) {
                    x.undo();
                }
            }
            Edge.due("12 of many, some taken back", x.told(10), 12);
            Edge.due("the latest", x.undo(), 11);
        });

        Edge.sentence("promise 10", "NONE: none could.", () -> {
            CarbonDates x = Edge.busy();
            Edge.due("one", x.undo(), 0);
            String then = Edge.picture(x);
            Edge.due("none", x.undo(), NONE);
            Edge.due("and none", x.undo(), NONE);
            Edge.same("all as it was", Edge.picture(x), then);
            Edge.due("no refusal", x.status(0) + x.status(1) + x.status(2), 0);
            Edge.due("of a new desk", new CarbonDates().undo(), NONE);
        });
    }

    private static void takenBack(String what, Edge.Ask change) {
        CarbonDates x = Edge.busy();
        String before = Edge.picture(x);
        int fault = x.fault();
        change.of(x);
        Edge.due(what + ": one more", x.told(10), 2);
        Edge.due(what + ": how many still can", x.undo(), 1);
        Edge.same(what + " taken back", Edge.picture(x), before);
        Edge.due(what + ": fault", x.fault(), fault);
    }

    // ---- promise 11

    private static void told() {
        Edge.sentence("promise 11", "10 how many can be taken back, 11 bytes of the TAPE.", () -> {
            CarbonDates x = Edge.full();
            int[] dues = {2, 2, 1, 24, 1, 3};
            for (int what = 0; what < dues.length; what++) {
                Edge.due("full: told " + what, x.told(what), dues[what]);
            }
            Edge.due("full: can be taken back", x.told(10), 12);
            Edge.due("full: tape", x.told(11), 20);
            StringBuilder lines = new StringBuilder();
            for (char name = 'a'; name < 'a' + 12; name++) {
                lines.append("sample ").append(name).append(" 500 999;");
            }
            x = Edge.plain(lines + "phase p a;phase q a;phase r a;phase s a;");
            Edge.due("12 samples", x.told(1), 12);
            Edge.due("4 phases", x.told(2), 4);
            Edge.due("all years of all", x.told(7), 12000);
            Edge.due("none is empty", x.told(8), 0);
            x.set(1, 500);
            for (int s = 0; s < 12; s++) {
                x.redate(s, 9999, 0);
            }
            Edge.due("no year of any", x.told(7), 0);
            Edge.due("all are empty", x.told(8), 12);
        });

        whats("promise 11", 11, CarbonDates::told);
    }

    /** 12 samples of all years, 4 phases of 6 of them each, 24 rules that take out none. */
    private static CarbonDates all() {
        StringBuilder lines = new StringBuilder();
        for (char name = 'a'; name < 'a' + 12; name++) {
            lines.append("sample ").append(name).append(" 500 999;");
        }
        CarbonDates x = Edge.plain(lines + "phase p a b c d e f;phase q g h i j k l;phase r f e d c b a;phase s l k j i h g;"
                + "order p q;lasts p 999;lasts s 999;");
        for (int rule = 3; rule < 24; rule++) {
            x.bounds(11, 2, 0);
        }
        return x;
    }

    private static void asMuchAsThereCanBe() {
        Edge.sentence("promises 11 to 32, Terms 1", "RULES, numbered from 0 on (24 at most)", () -> {
            CarbonDates x = all();
            Edge.due("rules", x.told(3), 24);
            Edge.due("years", x.told(7), 12000);
            Edge.due("gone", x.told(9), 0);
            Edge.due("blame", x.blame(), 0);
            Edge.due("needless", x.needless(), (1 << 24) - 1);
            Edge.due("without the first", x.without(0, 0), 12000);
            Edge.due("without the last", x.without(23, 0), 12000);
        });

        Edge.sentence("promises 11 to 32, Terms 1", "SAMPLES, numbered from 0 on (12 at most), have a NAME.", () -> {
            CarbonDates x = all();
            Edge.due("the first pinned at the last year", x.pinned(0, 999, 0), 1 + 5 * 1000 + 6);
            Edge.due("the last pinned at the last year", x.pinned(11, 999, 0), 11000 + 1);
            Edge.due("the last pinned at the first year", x.pinned(11, 0, 0), 6 + 5 * 1000 + 1);
            Edge.due("doomed of the first", x.doomed(0), 0);
            Edge.due("doomed of the last", x.doomed(11), 0);
            Edge.due("trial", x.trial(0), 1);
            Edge.due("looks", x.trial(1), 12);
            Edge.due("tried", x.tried(11), 0);
            Edge.due("loosened", x.loosened(), 1);
            Edge.due("shifted", x.shifted(), 0);
            x.redate(11, 9999, 0);
            Edge.due("the last empty: all are", x.told(8), 12);
            Edge.due("the last empty: clash", x.clash(1), 11);
            Edge.due("the last empty: blame", x.blame(), 0);
            Edge.due("the last empty: needless", x.needless(), (1 << 24) - 2);
            Edge.due("the last empty, without the order", x.without(0, 0), 6000);
            Edge.due("the last empty: trial", x.trial(0), 0);
            Edge.due("the last empty: shifted", x.shifted(), -9999);
            Edge.due("the last empty: loosened", x.loosened(), NONE);
        });

        Edge.sentence("promises 26 and 27, Terms 1", "PHASES, numbered likewise (4 at most), have a NAME and 1 to 6 SAMPLES, none twice.", () -> {
            CarbonDates x = all();
            int[] dues = {6, 0, 999, 0, 999};
            for (int what = 0; what < dues.length; what++) {
                Edge.due("the first, " + what, x.phase(0, what), dues[what]);
                Edge.due("the last, " + what, x.phase(3, what), dues[what]);
            }
            Edge.due("the last of the last", x.member(3, 5), 6);
            // six of one year each, in order or not, and no more than so many years apart
            String six = "sample a 500 0;sample b 501 0;sample c 502 0;sample d 503 0;sample e 504 0;sample f 505 0;sample g 505 0;"
                    + "phase p a b c d e f;phase q g;phase r f e d c b a;phase s a;";
            Edge.due("lasts", Edge.plain(six + "lasts p 5;lasts r 5;").told(8), 0);
            Edge.due("lasts less", Edge.plain(six + "lasts p 4;").clash(1), 5);
            Edge.due("lasts less, the other way round", Edge.plain(six + "lasts r 4;").clash(1), 0);
            Edge.due("order of six and one", Edge.plain(six + "order p q;").told(8), 0);
            Edge.due("order of six and one, too far", Edge.plain(six + "order p q 1;").clash(1), 6);
            Edge.due("order of one and six", Edge.plain(six + "order s p;").told(8), 0);
            Edge.due("order of one and six, too far", Edge.plain(six + "order q r;").clash(1), 4);
        });
    }

    // ---- promises 12 to 14

    private static void age() {
        Edge.sentence("promise 12", "AGE of a YEAR; NONE: it has none.", () -> {
            CarbonDates x = Edge.desk("curve 1 5,998 5;");
            Edge.due("0", x.age(0), NONE);
            Edge.due("1", x.age(1), 5);
            Edge.due("998", x.age(998), 5);
            Edge.due("999", x.age(999), NONE);
        });

        there("promise 12", "year", 999, CarbonDates::age);

        Edge.sentence("promise 12", "NoSuchElementException: year is not 0 to 999.", () -> {
            Edge.noSuch("-1", desk -> desk.age(-1));
            Edge.noSuch("1000", desk -> desk.age(1000));
        });
    }

    private static void years() {
        Edge.sentence("promise 13", "YEARS of an AGE (0 to 9,999): 0 how many, 1 the first, 2 the last (NONE).", () -> {
            CarbonDates x = Edge.desk("curve 0 0,1 9999,998 9999,999 0;");
            int[][] dues = {{0, 2, 0, 999}, {9999, 998, 1, 998}, {1, 0, NONE, NONE}, {9998, 0, NONE, NONE}};
            for (int[] due : dues) {
                for (int what = 0; what <= 2; what++) {
                    Edge.due("age " + due[0] + " " + what, x.years(due[0], what), due[what + 1]);
                }
            }
        });

        whats("promise 13", 2, (desk, what) -> desk.years(0, what));
        Edge.sentence("promise 13", ANOTHER, () -> {
            for (int age : new int[] {-1, 10000, MIN, MAX}) {
                Edge.illegal("age " + age, desk -> desk.years(age, 0));
            }
        });
    }

    private static void knot() {
        Edge.sentence("promise 14", "Of a KNOT (NoSuchElementException: no such one): 0 YEAR, 1 AGE.", () -> {
            CarbonDates x = Edge.desk("curve 0 9999,999 0;");
            Edge.due("the first", x.knot(0, 0) * 10000 + x.knot(0, 1), 9999);
            Edge.due("the last", x.knot(1, 0) * 10000 + x.knot(1, 1), 9990000);
            for (int knot : new int[] {-1, 2, 15, 16, MIN, MAX}) {
                Edge.noSuch("knot " + knot, desk -> desk.knot(knot, 0));
                Edge.noSuch("knot " + knot + " ahead of what", desk -> desk.knot(knot, 2));
            }
        });

        whats("promise 14", 1, (desk, what) -> desk.knot(0, what));
    }

    // ---- promises 15 to 18

    private static void sample() {
        Edge.sentence("promise 15", "5 the earliest, 6 the latest of these (NONE)", () -> {
            CarbonDates x = Edge.plain("sample a 500 999;sample b 9999 0;sample c 0 0;sample d 999 0;");
            Edge.due("earliest of all years", x.sample(0, 5), 0);
            Edge.due("latest of all years", x.sample(0, 6), 999);
            Edge.due("earliest of none", x.sample(1, 5), NONE);
            Edge.due("latest of none", x.sample(1, 6), NONE);
            Edge.due("earliest of the first", x.sample(2, 5), 0);
            Edge.due("latest of the first", x.sample(2, 6), 0);
            Edge.due("earliest of the last", x.sample(3, 5), 999);
            Edge.due("latest of the last", x.sample(3, 6), 999);
        });

        Edge.sentence("promise 15", "3 YEARS of its FIRST SPAN, 4 of its SPAN", () -> {
            CarbonDates x = Edge.plain("sample a 500 999;sample b 9999 0;sample c 0 0;sample d 999 0;");
            Edge.due("all", x.sample(0, 3) + x.sample(0, 4), 2000);
            Edge.due("none", x.sample(1, 3) + x.sample(1, 4), 0);
            x.bounds(0, 2, 999);
            Edge.due("of the first span still all", x.sample(0, 3), 1000);
            Edge.due("of the span one", x.sample(0, 4), 1);
            x.bounds(0, 3, 998);
            Edge.due("of the first span still all", x.sample(0, 3), 1000);
            Edge.due("of the span none", x.sample(0, 4), 0);
            Edge.due("no interval is left", x.sample(0, 7), 0);
        });

        Edge.sentence("promise 15", "8 the YEAR of its SPAN with the least MISFIT, of alike ones the first (NONE), 9 that MISFIT (NONE).", () -> {
            CarbonDates x = Edge.plain("sample a 500 999;sample b 9999 0;sample c 0 0;sample d 999 0;");
            Edge.due("of an empty one", x.sample(1, 8), NONE);
            Edge.due("misfit of an empty one", x.sample(1, 9), NONE);
            Edge.due("the first year", x.sample(2, 8), 0);
            Edge.due("its misfit", x.sample(2, 9), 0);
            Edge.due("the last year", x.sample(3, 8), 999);
            x = Edge.desk("curve 100 10,200 10;sample a 13 3;rings b 0 0 13,50 13;");
            Edge.due("the first of all alike", x.sample(0, 8), 100);
            Edge.due("misfit as much as may be", x.sample(0, 9), 3);
            Edge.due("the first of all alike rings", x.sample(1, 8), 100);
            Edge.due("misfit of these", x.sample(1, 9), 6);
            x.bounds(0, 2, 200);
            Edge.due("the last that is left", x.sample(0, 8), 200);
            x = Edge.plain("sample a 500 10;rings b 9 0 500,10 520;");
            Edge.due("in the midst", x.sample(0, 8), 500);
            Edge.due("the first of those alike in the midst", x.sample(1, 8), 500);
            x.bounds(0, 2, 501);
            Edge.due("the first year that is left", x.sample(0, 8), 501);
            x.bounds(1, 2, 507);
            Edge.due("the first that is left of those alike", x.sample(1, 8), 507);
            Edge.due("its misfit", x.sample(1, 9), 10);
            x.undo();
            x.undo();
            x.bounds(0, 3, 499);
            Edge.due("the last year that is left", x.sample(0, 8), 499);
        });

        whats("promise 15", 9, (desk, what) -> desk.sample(1, what));
        there("promise 15", "sample", 1, (desk, sample) -> desk.sample(sample, sample >= 0 && sample <= 1 ? 0 : 10));
        Edge.sentence("promise 15", NO_SUCH_ONE, () -> {
            Edge.noSuch("the 13th", desk -> desk.sample(12, 0));
        });
    }

    private static void interval() {
        Edge.sentence("promise 16", "Of the k-th INTERVAL of a SAMPLE's SPAN: 0 its first YEAR, 1 its last one.", () -> {
            CarbonDates x = Edge.desk("curve 0 100,100 0,200 100;sample a 50 0;sample b 9999 0;sample c 100 0;");
            Edge.due("of one year", x.interval(0, 0, 0), 50);
            Edge.due("of one year", x.interval(0, 0, 1), 50);
            Edge.due("the second", x.interval(0, 1, 0), 150);
            Edge.due("at the first year", x.interval(2, 0, 0) + x.interval(2, 0, 1), 0);
            Edge.due("at the curve's last year", x.interval(2, 1, 0) + x.interval(2, 1, 1), 400);
            CarbonDates y = x;
            Desks.refused("promise 16, the third of two", Desks.NO_SUCH, () -> y.interval(0, 2, 0));
            Desks.refused("promise 16, the first of none", Desks.NO_SUCH, () -> y.interval(1, 0, 0));
            x.bounds(0, 2, 51);
            Edge.due("of the span, not of the first span", x.interval(0, 0, 0), 150);
            Desks.refused("promise 16, the second of one", Desks.NO_SUCH, () -> y.interval(0, 1, 0));
        });

        Edge.sentence("promise 16", NO_SUCH_ONE, () -> {
            for (int k : new int[] {-1, 1, 500, 1000, MIN, MAX}) {
                Edge.noSuch("interval " + k, desk -> desk.interval(0, k, 0));
                Edge.noSuch("interval " + k + " ahead of what", desk -> desk.interval(0, k, 2));
            }
            for (int sample : new int[] {-1, 2, 12, MIN, MAX}) {
                Edge.noSuch("sample " + sample, desk -> desk.interval(sample, 0, 0));
                Edge.noSuch("sample " + sample + " ahead of what", desk -> desk.interval(sample, 0, -1));
            }
        });

        whats("promise 16", 1, (desk, what) -> desk.interval(1, 0, what));
    }

    private static void misfit() {
        Edge.sentence("promise 17", "MISFIT of a YEAR for a SAMPLE; NONE: there is none.", () -> {
            CarbonDates x = Edge.desk("curve 1 5,998 5;sample a 5 0;");
            Edge.due("0", x.misfit(0, 0), NONE);
            Edge.due("1", x.misfit(0, 1), 0);
            Edge.due("998", x.misfit(0, 998), 0);
            Edge.due("999", x.misfit(0, 999), NONE);
        });

        there("promise 17", "year", 999, (desk, year) -> desk.misfit(1, year));
        there("promise 17", "sample", 1, (desk, sample) -> desk.misfit(sample, 0));
    }

    private static void place() {
        Edge.sentence("promise 18", "3 a YEAR is of the SPAN of a SAMPLE, 1 only of its FIRST SPAN, 0 of neither.", () -> {
            CarbonDates x = Edge.plain("sample a 500 10;after a 495;until a 505;sample b 0 0;sample c 999 0;");
            int[][] dues = {{489, 0}, {490, 1}, {494, 1}, {495, 3}, {505, 3}, {506, 1}, {510, 1}, {511, 0}, {0, 0}, {999, 0}};
            for (int[] due : dues) {
                Edge.due("" + due[0], x.place(0, due[0]), due[1]);
            }
            Edge.due("the first year", x.place(1, 0), 3);
            Edge.due("the last year", x.place(2, 999), 3);
        });

        there("promise 18", "year", 999, (desk, year) -> desk.place(1, year));
        there("promise 18", "sample", 1, (desk, sample) -> desk.place(sample, 0));
    }

    // ---- promises 19 and 20

    private static void rule() {
        Edge.sentence("promise 19", "0 its kind (0 to 5), 1 a or p, 2 b or q (NONE: there is none), 3 L, Y or N (0 of SAME), 4 M (NONE but of BEFORE), 5 GONE.", () -> {
            CarbonDates x = Edge.plain("sample a 500 0;sample b 500 0;phase p a;phase q b;"
                    + "before b a;same b a;after b 7;until b 999;order q p;lasts q 0;");
            int[][] dues = {{0, 1, 0, 0, 999, 0}, {1, 1, 0, 0, -1, 0}, {2, 1, -1, 7, -1, 0}, {3, 1, -1, 999, -1, 0},
                {4, 1, 0, 0, -1, 0}, {5, 1, -1, 0, -1, 0}};
            for (int r = 0; r < dues.length; r++) {
                for (int what = 0; what <= 5; what++) {
                    Edge.due("rule " + r + " " + what, x.rule(r, what), dues[r][what]);
                }
            }
        });

        whats("promise 19", 5, (desk, what) -> desk.rule(1, what));
        there("promise 19", "rule", 1, (desk, rule) -> desk.rule(rule, rule >= 0 && rule <= 1 ? 0 : 6));
        Edge.sentence("promise 19", NO_SUCH_ONE, () -> {
            Edge.due("rule 23 of 24", Edge.full().rule(23, 0), 2);
            Edge.refused("rule 24 of 24", Desks.NO_SUCH, Edge::full, desk -> desk.rule(24, 0));
        });
    }

    private static void clash() {
        Edge.sentence("promise 20", "0 the RULE (NONE: a FIRST SPAN), 1 the SAMPLE; -2 each: there is none.", () -> {
            CarbonDates x = Edge.plain("sample a 500 10;sample b 500 10;");
            Edge.due("none: rule", x.clash(0), -2);
            Edge.due("none: sample", x.clash(1), -2);
            x.redate(0, 9999, 0);
            Edge.due("first span: rule", x.clash(0), NONE);
            Edge.due("first span: sample", x.clash(1), 0);
            x.undo();
            x.bounds(1, 2, 511);
            Edge.due("the first rule: rule", x.clash(0), 0);
            Edge.due("the first rule: sample", x.clash(1), 1);
            CarbonDates last = Edge.plain("sample a 500 10;" + "after a 0;".repeat(23) + "until a 0;");
            Edge.due("the last rule: rule", last.clash(0), 23);
        });

        whats("promise 20", 1, CarbonDates::clash);
    }

    // ---- promises 21 and 22

    private static void blame() {
        Edge.sentence("promise 21", "0: there is none as it is.", () -> {
            Edge.due("no rules", Edge.plain("sample a 500 10;").blame(), 0);
            Edge.due("rules without a clash", Edge.plain("sample a 500 10;after a 500;until a 500;").blame(), 0);
        });

        Edge.sentence("promise 21", "RULES (bits) without each of which, alone, there would be no CLASH", () -> {
            Edge.due("the first", Edge.plain("sample a 500 10;after a 511;after a 0;").blame(), 1);
            Edge.due("the 24th", Edge.plain("sample a 500 10;" + "after a 0;".repeat(23) + "after a 511;").blame(), 1 << 23);
            Edge.due("each of two", Edge.plain("sample a 500 10;after a 501;until a 500;").blame(), 3);
            Edge.due("none alone", Edge.plain("sample a 500 10;after a 511;after a 512;").blame(), 0);
            Edge.due("a first span without rules", Edge.plain("sample a 9999 10;").blame(), 0);
            Edge.due("a first span with a rule", Edge.plain("sample a 9999 10;after a 5;").blame(), 0);
            Edge.due("a first span of another sample", Edge.plain("sample a 9999 10;sample b 500 1;after b 999;").blame(), 0);
        });
    }

    private static void needless() {
        Edge.sentence("promise 22", "RULES (bits) without each of which, alone, all SPANS would be as they are.", () -> {
            Edge.due("no rules", Edge.plain("sample a 500 10;").needless(), 0);
            Edge.due("all 24", Edge.plain("sample a 500 10;" + "after a 500;".repeat(24)).needless(), (1 << 24) - 1);
            Edge.due("the 24th alone", Edge.plain("sample a 500 10;" + "after a 500;until a 509;" + "until a 999;").needless(), 4);
            Edge.due("none", Edge.plain("sample a 500 10;after a 491;until a 509;").needless(), 0);
            Edge.due("one for the first year alone", Edge.plain("sample a 0 10;after a 0;after a 1;").needless(), 1);
            Edge.due("one for the last year alone", Edge.plain("sample a 999 10;until a 999;until a 998;").needless(), 1);
            Edge.due("one for the last sample alone", Edge.plain("sample a 500 10;sample b 500 10;until a 999;until b 509;").needless(), 1);
            Edge.due("of an empty first span", Edge.plain("sample a 9999 10;after a 600;").needless(), 1);
            Edge.due("of a clash", Edge.plain("sample a 500 10;after a 600;").needless(), 0);
            Edge.due("of a clash that spreads",
                    Edge.plain("sample a 500 10;sample b 500 10;after a 600;same a b;after b 0;").needless(), 4);
        });
    }

    // ---- promises 23 to 25

    private static void without() {
        Edge.sentence("promise 23", "Without a RULE: 0 YEARS of all SPANS together, 1 SAMPLES with empty SPANS, 2 ROUNDS.", () -> {
            CarbonDates x = Edge.plain("sample a 500 10;after a 600;");
            Edge.due("years without the only one", x.without(0, 0), 21);
            Edge.due("empty ones without the only one", x.without(0, 1), 0);
            Edge.due("rounds without the only one", x.without(0, 2), 1);
            x = Edge.plain("sample a 500 10;" + "after a 0;".repeat(23) + "after a 500;");
            Edge.due("years without the 24th", x.without(23, 0), 21);
            Edge.due("years without the first", x.without(0, 0), 11);
            Edge.due("rounds without the 24th", x.without(23, 2), 1);
            Edge.due("rounds without the first", x.without(0, 2), 2);
            x = Edge.plain("sample a 500 10;sample b 500 10;sample c 500 10;after a 600;same a b;after c 0;");
            Edge.due("years of a clash that spreads", x.without(2, 0), 21);
            Edge.due("empty ones of a clash that spreads", x.without(2, 1), 2);
            Edge.due("rounds of a clash that spreads", x.without(2, 2), 2);
            Edge.due("empty ones of a clash that does not spread", x.without(1, 1), 1);
        });

        whats("promise 23", 2, (desk, what) -> desk.without(1, what));
        there("promise 23", "rule", 1, (desk, rule) -> desk.without(rule, rule >= 0 && rule <= 1 ? 0 : 3));
    }

    private static void pinned() {
        Edge.sentence("promise 24", "Were the FIRST SPAN of a SAMPLE a YEAR alone (0 to 999): what as without().", () -> {
            CarbonDates x = Edge.plain("sample a 500 10;sample b 500 999;before a b 0 999;");
            int[][] dues = {{0, 0, 1 + 1000, 1}, {0, 999, 1 + 1, 2}, {0, 500, 1 + 500, 2}, {0, 489, 1 + 511, 2},
                {1, 500, 11 + 1, 2}, {1, 999, 21 + 1, 1}, {1, 490, 1 + 1, 2}, {1, 489, 0, 2}, {1, 0, 0, 2}};
            for (int[] due : dues) {
                String what = "sample " + due[0] + " by " + due[1];
                Edge.due(what + ": years", x.pinned(due[0], due[1], 0), due[2]);
                Edge.due(what + ": empty ones", x.pinned(due[0], due[1], 1), due[2] == 0 ? 2 : 0);
                Edge.due(what + ": rounds", x.pinned(due[0], due[1], 2), due[3]);
            }
            x = Edge.plain("sample a 9999 0;");
            Edge.due("an empty first span", x.pinned(0, 0, 0), 1);
            Edge.due("an empty first span: empty ones", x.pinned(0, 0, 1), 0);
            Edge.due("years without an age", Edge.desk("curve 5 5,6 6;sample a 5 0;").pinned(0, 999, 0), 1);
        });

        whats("promise 24", 2, (desk, what) -> desk.pinned(1, 0, what));
        there("promise 24", "sample", 1, (desk, sample) -> desk.pinned(sample, 0, sample >= 0 && sample <= 1 ? 0 : 3));
        there("promise 24", "year", 999, (desk, year) -> desk.pinned(0, year, year >= 0 && year <= 999 ? 0 : 3));
    }

    private static void doomed() {
        Edge.sentence("promise 25", "YEARS of a SAMPLE's SPAN with which, pinned() so, there would be a CLASH.", () -> {
            Edge.due("none, alone", Edge.plain("sample a 500 999;").doomed(0), 0);
            CarbonDates x = Edge.plain("sample a 500 999;sample b 9999 0;");
            Edge.due("all by another that is empty", x.doomed(0), 1000);
            Edge.due("none of an empty one", x.doomed(1), 0);
            // with 15 of a, b can be of 15 alone, and c of 35 alone; other years of a fit both
            x = Edge.desk("curve 4 0,5 50,6 0,14 0,15 60,16 0,24 0,25 50,26 0,34 0,35 70,36 0;"
                    + "sample a 55 5;sample b 65 5;sample c 65 5;before a b 0 15;before a c 5 25;same b c;");
            Edge.due("one that narrowing leaves", x.doomed(0), 1);
            Edge.due("none of b", x.doomed(1), 0);
            Edge.due("pinned at it: empty ones", x.pinned(0, 15, 1), 3);
            Edge.due("pinned ahead of it: empty ones", x.pinned(0, 5, 1), 0);
            Edge.due("pinned behind it: empty ones", x.pinned(0, 25, 1), 0);
        });

        there("promise 25", "sample", 1, CarbonDates::doomed);
    }

    // ---- promises 26 and 27

    /** With all years that there are, with none, with one empty, of one sample alone. */
    private static CarbonDates fourPhases() {
        return Edge.plain("sample a 0 0;sample b 999 0;sample c 9999 0;sample d 9999 0;sample e 500 10;sample f 505 5;"
                + "phase p a b c d e f;phase q c d;phase r b c;phase s e;");
    }

    private static void phase() {
        Edge.sentence("promise 26", "0 how many SAMPLES, 1 the earliest YEAR of all their SPANS, 2 the latest (NONE: all are empty)", () -> {
            CarbonDates x = fourPhases();
            for (int p = 0; p < OF_FOUR_PHASES.length; p++) {
                for (int what = 0; what <= 2; what++) {
                    Edge.due("phase " + p + " " + what, x.phase(p, what), OF_FOUR_PHASES[p][what]);
                }
            }
        });

        Edge.sentence("promise 26", "3 the least it can last by these (0 at least): the greatest earliest less the least latest", () -> {
            Edge.due("one sample alone", fourPhases().phase(3, 3), 0);
            Edge.due("the first year alone", Edge.plain("sample a 0 0;sample b 0 0;phase p b a;").phase(0, 3), 0);
            Edge.due("the last year alone", Edge.plain("sample a 999 0;sample b 999 0;phase p b a;").phase(0, 3), 0);
            Edge.due("all years", Edge.plain("sample a 500 999;sample b 500 999;phase p b a;").phase(0, 3), 0);
            Edge.due("the first year and the last", Edge.plain("sample a 0 0;sample b 999 0;phase p b a;").phase(0, 3), 999);
            Edge.due("that meet in one year", Edge.plain("sample a 500 5;sample b 510 5;phase p a b;").phase(0, 3), 0);
            Edge.due("that lie next to one another", Edge.plain("sample a 500 5;sample b 511 5;phase p a b;").phase(0, 3), 1);
            Edge.due("that have two years alike", Edge.plain("sample a 500 5;sample b 509 5;phase p a b;").phase(0, 3), 0);
        });

        Edge.sentence("promise 26", "4 the most: the latest less the earliest (NONE each of 3, 4: one is empty).", () -> {
            CarbonDates x = fourPhases();
            for (int p = 0; p < OF_FOUR_PHASES.length; p++) {
                for (int what = 3; what <= 4; what++) {
                    Edge.due("phase " + p + " " + what, x.phase(p, what), OF_FOUR_PHASES[p][what]);
                }
            }
            Edge.due("the first year and the last", Edge.plain("sample a 0 0;sample b 999 0;phase p b a;").phase(0, 4), 999);
            Edge.due("one year", Edge.plain("sample a 0 0;phase p a;").phase(0, 4), 0);
            Edge.due("all years", Edge.plain("sample a 500 999;phase p a;").phase(0, 4), 999);
        });

        whats("promise 26", 4, (desk, what) -> desk.phase(0, what));
        there("promise 26", "phase", 0, (desk, phase) -> desk.phase(phase, phase == 0 ? 0 : 5));
        Edge.sentence("promise 26", NO_SUCH_ONE, () -> {
            CarbonDates four = fourPhases();
            Desks.refused("promise 26, the fifth phase of four", Desks.NO_SUCH, () -> four.phase(4, 0));
        });
    }

    private static void member() {
        Edge.sentence("promise 27", "The k-th SAMPLE of a PHASE; NONE: there are not so many, or k is below 0.", () -> {
            CarbonDates x = Edge.plain("sample a 1 1;sample b 1 1;sample c 1 1;sample d 1 1;sample e 1 1;sample f 1 1;"
                    + "phase p f e d c b a;phase q c;");
            for (int k = 0; k < 6; k++) {
                Edge.due("of six: " + k, x.member(0, k), 5 - k);
            }
            for (int k : new int[] {-1, 6, 7, MIN, MAX}) {
                Edge.due("of six: " + k, x.member(0, k), NONE);
            }
            Edge.due("of one: 0", x.member(1, 0), 2);
            Edge.due("of one: 1", x.member(1, 1), NONE);
            Edge.due("of one: 5", x.member(1, 5), NONE);
        });

        there("promise 27", "phase", 0, (desk, phase) -> desk.member(phase, -1));
    }

    // ---- promises 28 to 31

    private static void trial() {
        Edge.sentence("promise 28", "0 1 it has YEARS for all, 0 none, -2 it is GIVEN UP; 1 LOOKS. (Without SAMPLES 1, 0.)", () -> {
            CarbonDates x = new CarbonDates();
            Edge.due("without samples", x.trial(0), 1);
            Edge.due("looks without samples", x.trial(1), 0);
            x = Edge.plain("sample a 9999 0;");
            Edge.due("none", x.trial(0), 0);
            Edge.due("looks of none", x.trial(1), 0);
            Desks.tell(x, Edge.PLAIN);
            Edge.due("without samples by now", x.trial(0), 1);
            x = Edge.plain("sample a 500 999;sample b 500 999;sample c 9999 0;");
            Edge.due("given up", x.trial(0), -2);
            Edge.due("looks", x.trial(1), 20000);
        });

        whats("promise 28", 1, CarbonDates::trial);
    }

    private static void tried() {
        Edge.sentence("promise 29", "The YEAR of a SAMPLE by the TRIAL; NONE: it has none.", () -> {
            CarbonDates x = Edge.plain("sample a 0 0;sample b 999 0;");
            Edge.due("the first year", x.tried(0), 0);
            Edge.due("the last year", x.tried(1), 999);
            x.redate(1, 9999, 0);
            Edge.due("none, as another has none", x.tried(0), NONE);
            Edge.due("none", x.tried(1), NONE);
            x.undo();
            Edge.due("the last year again", x.tried(1), 999);
            x.set(1, 1);
            Edge.due("none by another reserve", x.tried(1), NONE);
        });

        there("promise 29", "sample", 1, CarbonDates::tried);
    }

    private static void loosened() {
        Edge.sentence("promise 30", "The least SIGMA (1 to 3) by which there is no CLASH; NONE: by none.", () -> {
            int[][] dues = {{110, 1}, {111, 2}, {120, 2}, {121, 3}, {130, 3}, {131, NONE}};
            for (int[] due : dues) {
                CarbonDates x = Edge.plain("sample a 100 10;after a " + due[0] + ";");
                Edge.due("after " + due[0], x.loosened(), due[1]);
                x.set(0, 3);
                Edge.due("after " + due[0] + " by sigma 3", x.loosened(), due[1]);
                Edge.due("sigma is as it was", x.told(4), 3);
            }
            Edge.due("without rules", Edge.plain("sample a 1009 10;").loosened(), 1);
            Edge.due("without rules, by 2", Edge.plain("sample a 1010 10;").loosened(), 2);
            Edge.due("by the reserve as it is", Edge.plain("sample a 1010 10;reserve 1;").loosened(), 1);
        });
    }

    private static void shifted() {
        Edge.sentence("promise 31", "The RESERVE (-500 to 500) by which there is no CLASH that is nearest to 0, "
                + "of two alike ones the one below 0; -9999: by none.", () -> {
            Edge.due("as it is", Edge.plain("sample a 500 0;after a 500;").shifted(), 0);
            Edge.due("-1", Edge.plain("sample a 500 0;after a 501;").shifted(), -1);
            Edge.due("1", Edge.plain("sample a 500 0;until a 499;").shifted(), 1);
            Edge.due("-500", Edge.plain("sample a 400 0;after a 900;").shifted(), -500);
            Edge.due("-501", Edge.plain("sample a 400 0;after a 901;").shifted(), -9999);
            Edge.due("500", Edge.plain("sample a 600 0;until a 100;").shifted(), 500);
            Edge.due("501", Edge.plain("sample a 600 0;until a 99;").shifted(), -9999);
            Edge.due("500, in the first year", Edge.plain("sample a 500 0;until a 0;").shifted(), 500);
            Edge.due("-500, in the last year", Edge.plain("sample a 499 0;after a 999;").shifted(), -500);
            Edge.due("-1 and 1", Edge.desk("curve 0 101,1 99;sample a 100 0;").shifted(), -1);
            Edge.due("-500 and 500", Edge.desk("curve 0 1000,1 0;sample a 500 0;").shifted(), -500);
            Edge.due("-2 and 1", Edge.desk("curve 0 102,1 99;sample a 100 0;").shifted(), 1);
            Edge.due("no rule that could hold", Edge.plain("sample a 500 9;sample b 500 9;before a b 1;before b a;").shifted(), -9999);
            CarbonDates x = Edge.plain("sample a 100 1;after a 103;reserve 500;");
            Edge.due("whatever it is", x.shifted(), -2);
            Edge.due("it is as it was", x.told(5), 500);
            x.set(0, 3);
            Edge.due("by the sigma as it is", x.shifted(), 0);
        });
    }

    // ---- promises 32 and 33

    private static void print() {
        Edge.sentence("promise 32", "From 0 on, of all SPANS in order, of all their INTERVALS: 31 times what there is, and the first YEAR, "
                + "then likewise the last one; behind each SPAN 31 times that.", () -> {
            Edge.due("no span", new CarbonDates().print(), 0);
            Edge.due("an empty one", Edge.plain("sample a 9999 0;").print(), 0);
            Edge.due("the first year", Edge.plain("sample a 0 0;").print(), 0);
            Edge.due("the last year", Edge.plain("sample a 999 0;").print(), (999L * 31 + 999) * 31);
            Edge.due("all years", Edge.plain("sample a 500 999;").print(), 999L * 31);
            Edge.due("an empty one behind", Edge.plain("sample a 1 0;sample b 9999 0;").print(), 32L * 31 * 31);
            Edge.due("an empty one ahead", Edge.plain("sample b 9999 0;sample a 1 0;").print(), 32L * 31);
            Edge.due("two intervals", Edge.desk("curve 0 0,1 9,2 0;sample a 0 0;").print(), (2L * 31 + 2) * 31);
            // five spans of the last year are more than 64 bits hold
            String lines = "";
            long wrapped = 0;
            for (char name = 'a'; name < 'a' + 12; name++) {
                lines += "sample " + name + " 999 0;";
                wrapped = ((wrapped * 31 + 999) * 31 + 999) * 31;
            }
            java.math.BigInteger whole = java.math.BigInteger.ZERO;
            for (int k = 0; k < 12; k++) {
                java.math.BigInteger by = java.math.BigInteger.valueOf(31);
                java.math.BigInteger last = java.math.BigInteger.valueOf(999);
                whole = whole.multiply(by).add(last).multiply(by).add(last).multiply(by);
            }
            Edge.due("it is more than 64 bits hold", whole.bitLength() > 64 ? 1 : 0, 1);
            Edge.due("a wrap-around", Edge.plain(lines).print(), whole.longValue());
            Edge.due("a wrap-around, step by step", Edge.plain(lines).print(), wrapped);
        });
    }

    private static void status() {
        Edge.sentence("promise 33", "How many calls were refused: 0 NoSuchElementException, 1 IllegalArgumentException, 2 IllegalStateException; NONE for others.", () -> {
            CarbonDates x = new CarbonDates();
            for (int what : new int[] {-1, 3, 4, MIN, MAX}) {
                Edge.due("what " + what, x.status(what), NONE);
            }
            for (int what = 0; what <= 2; what++) {
                Edge.due("none yet, what " + what, x.status(what), 0);
            }
            // with those above and the last one these are the 512 calls that an object is used for
            for (int k = 0; k < 503; k++) {
                Desks.refused("promise 33, age(1000)", Desks.NO_SUCH, () -> x.age(1000));
            }
            Edge.due("the 512th call", x.status(0), 503);

            CarbonDates full = Edge.full();
            for (int k = 0; k < 3; k++) {
                Desks.refused("promise 33, drop(24)", Desks.NO_SUCH, () -> full.drop(24));
                Desks.refused("promise 33, bounds(0, 2, 0)", Desks.STATE, () -> full.bounds(0, 2, 0));
            }
            Desks.refused("promise 33, set(0, 4)", Desks.ILLEGAL, () -> full.set(0, 4));
            full.undo();
            full.text(20);
            full.text(0);
            for (int what = 0; what <= 2; what++) {
                Edge.due("behind undo() and text(), what " + what, full.status(what), what == 1 ? 1 : 3);
            }
        });
    }
}
