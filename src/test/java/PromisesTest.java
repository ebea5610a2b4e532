/** For each promise of the document: ordinary inputs, its edges, wrong inputs; the answers are reckoned by hand. */
public final class PromisesTest {
    /** By this curve each year's age is the year itself. */
    private static final String PLAIN = "curve 0 0,999 999;";

    private static void due(String what, long got, long want) {
        Desks.due(what, got, want);
    }

    private static void noSuch(String what, Desks.Call call) {
        Desks.refused(what, Desks.NO_SUCH, call);
    }

    private static void illegal(String what, Desks.Call call) {
        Desks.refused(what, Desks.ILLEGAL, call);
    }

    public static void main(String[] args) {
        newDesk();
        feed();
        textTells();
        textNames();
        textNumbers();
        textTooMany();
        textPlacesOfRefusal();
        set();
        redate();
        before();
        bounds();
        drop();
        undo();
        told();
        age();
        years();
        knot();
        sample();
        rings();
        interval();
        misfit();
        place();
        rule();
        narrowing();
        clash();
        blame();
        needless();
        without();
        pinned();
        doomed();
        phase();
        trial();
        givenUp();
        loosened();
        shifted();
        print();
        status();
        Desks.end("PromisesTest");
    }

    // promise 1
    private static void newDesk() {
        CarbonDates x = new CarbonDates();
        due("1 knots", x.told(0), 2);
        due("1 first knot's year", x.knot(0, 0), 0);
        due("1 first knot's age", x.knot(0, 1), 1000);
        due("1 last knot's year", x.knot(1, 0), 999);
        due("1 last knot's age", x.knot(1, 1), 1);
        for (int what = 1; what <= 11; what++) {
            due("1 told " + what, x.told(what), what == 4 || what == 6 ? 1 : 0);
        }
        // of each 500 years a new one, as an object is used for 512 calls at most
        for (int year = 0; year <= 999; year++) {
            x = year % 500 == 0 ? new CarbonDates() : x;
            due("1 age of " + year, x.age(year), 1000 - year);
        }
        due("1 NONE", CarbonDates.NONE, -1);
    }

    // promise 2
    private static void feed() {
        CarbonDates x = new CarbonDates();
        for (int k = 1; k <= 25; k++) {
            due("2 feed", x.feed(k, 0, 0, 0, 0), 20 * k);
        }
        due("2 the tape is full", x.feed(0, 0, 0, 0, 0), -1);
        due("2 nothing is done then", x.told(11), 500);
        due("2 a full tape is no refusal", x.status(1) + x.status(0) + x.status(2), 0);

        x = new CarbonDates();
        x.feed('c' << 24 | 'u' << 16 | 'r' << 8 | 'v', 'e' << 24 | ' ' << 16 | '3' << 8 | ' ',
                '7' << 24 | ',' << 16 | '5' << 8 | ' ', '9' << 24 | ';' << 16 | 255 << 8, -1);
        due("2 of each number the highest first", x.text(14), 0);
        due("2 the curve that was fed", x.age(3) + 100 * x.age(5), 907);
        x.feed(-1, -1, -1, -1, -1);
        due("2 bytes above 127 stand nowhere", x.text(3), 1 - 10);
        due("2 at the first", x.fault(), 0);

        x = new CarbonDates();
        String text = "curve 0 0,999 999" + " ".repeat(482) + ";";
        due("2 a text of 500 bytes", Desks.tell(x, text), 0);
        due("2 it tells", x.age(77), 77);
    }

    // promises 3 and 4
    private static void textTells() {
        CarbonDates x = new CarbonDates();
        due("4 no text yet", x.fault(), -1);
        due("3 samples", Desks.tell(x, PLAIN + "sample a 5 1;rings b 7 0 5,300 9999;sigma 3;reserve -500;"), 2);
        due("4 no fault", x.fault(), -1);
        due("3 sigma", x.told(4), 3);
        due("3 reserve", x.told(5), -500);
        due("3 slack", x.sample(1, 1), 7);
        due("3 rings", x.sample(1, 2), 2);

        x.set(0, 1);
        due("3 a fault", Desks.tell(x, PLAIN + "sample a 5 1"), 1 - 10);
        due("4 at the length", x.fault(), 30);
        due("3 the tape is empty then", x.told(11), 0);
        due("3 all stays: samples", x.told(1), 2);
        due("3 all stays: reserve", x.told(5), -500);
        due("3 all stays: what can be taken back", x.told(10), 1);
        due("3 undo behind a fault", x.undo(), 0);
        due("3 undone", x.told(4), 3);

        x.set(0, 1);
        Desks.feed(x, PLAIN);
        illegal("3 n above the tape", () -> x.text(21));
        illegal("3 n below 0", () -> x.text(-1));
        due("3 the tape stays", x.told(11), 20);
        due("4 the fault of the latest text stays", x.fault(), 30);
        due("3 fewer bytes than the tape has", x.text(18), 0);
        due("3 told anew: samples", x.told(1), 0);
        due("3 told anew: sigma", x.told(4), 1);
        due("3 told anew: reserve", x.told(5), 0);
        due("3 the tape is empty", x.told(11), 0);
        due("3 nothing can be taken back", x.told(10), 0);
        due("3 nothing is taken back", x.undo(), -1);
        due("4 the fault is gone", x.fault(), -1);
        due("3 told anew: samples, phases, rules", Desks.tell(x,
                PLAIN + "sample a 1 1;sample b 1 1;phase p a b;phase q a;before a b;lasts p 5;"), 2);
        due("3 told anew: samples, phases, rules", Desks.tell(x, PLAIN + "rings b 1 0 1;phase q b;after b 1;"), 1);
        due("3 phases", x.told(2) * 10 + x.told(3), 11);
        due("3 a phase of fewer", x.phase(0, 0), 1);
        due("3 rings, where a date was", x.sample(0, 0), 1);
        due("3 a date, where rings were", Desks.tell(x, PLAIN + "sample b 1 1;"), 1);
        due("3 a date, where rings were", x.sample(0, 0), 0);
        due("3 phases", x.told(2) * 10 + x.told(3), 0);
        due("3 sigma once in each text", Desks.tell(x, PLAIN + "sigma 2;reserve 1;"), 0);
        due("3 sigma once in each text", Desks.tell(x, PLAIN + "sigma 3;reserve 2;"), 0);
        due("3 sigma of the latest", x.told(4) * 10 + x.told(5), 32);
        due("3 sigma once in each text", Desks.tell(x, PLAIN + "sigma 3;reserve 2;!"), 1 - 10);
        due("3 sigma once in each text", Desks.tell(x, PLAIN + "reserve 3;sigma 1;"), 0);
        endsEarly("curve 0 1,2 34;", 13);
        endsEarly("curve 0 1,2 3   ;", 13);
        endsEarly("curves 0 1,2 3;", 5);
        endsEarly("curve 0 1,2 3;", 13);
        illegal("3 a byte of an empty tape", () -> x.text(1));
        due("3 no byte", x.text(0), 1 - 10);
        due("4 no byte", x.fault(), 0);
    }

    /** What stands on the tape behind the first n bytes is not of the text. */
    private static void endsEarly(String onTape, int n) {
        CarbonDates x = new CarbonDates();
        Desks.feed(x, onTape);
        due("3 " + n + " bytes of " + onTape, x.text(n), 1 - 10);
        due("4 " + n + " bytes of " + onTape, x.fault(), n);
    }

    private static void text(String text, int fault, int place) {
        CarbonDates x = new CarbonDates();
        int answer = Desks.tell(x, text);
        due("3 fault of " + text, answer, fault - 10);
        due("4 place of " + text, x.fault(), place);
    }

    private static void fine(String text, int samples) {
        CarbonDates x = new CarbonDates();
        due("3 samples of " + text, Desks.tell(x, text), samples);
        due("4 no fault of " + text, x.fault(), -1);
    }

    /** A text by which faults are told: the part behind PLAIN, and where in it the fault is. */
    private static void more(String part, int fault, int place) {
        text(PLAIN + part, fault, place + PLAIN.length());
    }

    private static void moreIsFine(String part, int samples) {
        fine(PLAIN + part, samples);
    }

    private static void textNames() {
        moreIsFine("sample curve 1 1;sample sigma 1 1;phase phase sigma curve;", 2);
        moreIsFine("sample abcdef 1 1;", 1);
        moreIsFine("sample a 1 1;sample aa 1 1;sample ab 1 1;sample ba 1 1;sample az 1 1;sample b 1 1;sample za 1 1;"
                + "sample abcdef 1 1;sample abcdeg 1 1;sample bbcdef 1 1;sample abcde 1 1;sample zzzzzz 1 1;"
                + "before abcdeg zzzzzz;phase p aa ab ba a az za;", 12);
        more("sample abcdefg 1 1;", 1, 7);
        more("sample 7 1 1;", 1, 7);
        more("sample A 1 1;", 1, 7);
        more("sample a 1 1;sample a 1 1;", 4, 20);
        more("sample a 1 1;rings a 1 0 1;", 4, 19);
        more("sample a 1 1;phase a a;", 4, 19);
        more("sample a 1 1;phase p a;phase p a;", 4, 29);
        more("sample a 1 1;phase p a;sample p 1 1;", 4, 30);
        more("sample a 1 1;phase p p;", 4, 21);
        more("sample a 1 1;phase p a a;", 4, 23);
        more("sample a 1 1;phase p b a;", 5, 21);
        more("sample a 1 1;phase p a;phase q p;", 5, 31);
        more("before a a;", 5, 7);
        more("sample a 1 1;before a a;", 4, 22);
        more("sample a 1 1;before a b;", 5, 22);
        more("sample a 1 1;before b a;", 5, 20);
        more("sample a 1 1;same a a;", 4, 20);
        more("sample a 1 1;phase p a;after p 5;", 5, 29);
        more("sample a 1 1;phase p a;lasts a 5;", 5, 29);
        more("sample a 1 1;phase p a;order p p;", 4, 31);
        more("sample a 1 1;phase p a;order p a;", 5, 31);
        more("sample a 1 1;phase p a;order a p;", 5, 29);
        more("until a 5;", 5, 6);
    }

    private static void textNumbers() {
        text("curve 0 1,0 1;", 2, 10);
        text("curve 5 1,4 1;", 2, 10);
        text("curve 0 1,1000 1;", 2, 10);
        text("curve 0 10000,5 1;", 2, 8);
        text("curve 0 99999999999999999999,5 1;", 2, 8);
        text("curve 999 1,1000 1;", 2, 12);
        fine("curve 000000000000000000000000998 9999,999 0;", 0);
        moreIsFine("sample a 9999 999;", 1);
    }

    private static void textTooMany() {
        StringBuilder knots = new StringBuilder("curve 0 1");
        for (int k = 1; k < 16; k++) {
            knots.append(',').append(k).append(" 1");
        }
        fine(knots + ";", 0);
        text(knots + ",", 3, knots.length());
        text(knots + " ,x", 3, knots.length() + 1);

        moreIsFine("rings r 0 0 1,1 1,2 1,3 1,4 1,300 1;", 1);
        more("rings r 0 0 1,1 1,2 1,3 1,4 1,5 1,6 1;", 3, 33);

        StringBuilder samples = new StringBuilder();
        for (char c = 'a'; c < 'a' + 12; c++) {
            samples.append(c % 2 == 0 ? "sample " : "rings ").append(c).append(c % 2 == 0 ? " 1 1;" : " 1 0 1;");
        }
        moreIsFine(samples.toString(), 12);
        more(samples + "sample m 1 1;", 3, samples.length());
        more(samples + " rings x", 3, samples.length() + 1);

        moreIsFine(samples + "phase p a b c d e f;", 12);
        more(samples + "phase p a b c d e f g;", 3, samples.length() + 20);
        more(samples + "phase p a b c d e f a;", 3, samples.length() + 20);
        more(samples + "phase p a b c d e f zzz;", 3, samples.length() + 20);

        String phases = "sample a 1 1;phase p a;phase q a;phase r a;phase s a;";
        moreIsFine(phases, 1);
        more(phases + "phase t a;", 3, phases.length());

        String rules = "sample a 1 1;" + "after a 5;".repeat(24);
        moreIsFine(rules, 1);
        more(rules + "until a 5;", 3, rules.length());

        more("curve 0 0,1 1;", 3, 0);
        more("sigma 1;sigma 1;", 3, 8);
        more("reserve 1;reserve 1;", 3, 10);
    }

    private static void textPlacesOfRefusal() {
        text("", 1, 0);
        text("   ", 1, 3);
        text(";", 1, 0);
        text("  sample a 1 1;", 1, 2);
        text("sigma 1;" + PLAIN, 1, 0);
        text("curve 0 1;", 1, 9);
        text("curve 0 1", 1, 9);
        text("curve 0", 1, 7);
        text("curve", 1, 5);
        text("curve 0 1,2 3", 1, 13);
        text("curve 0 1,2 3,", 1, 14);
        text("curve 0 1,2 3,;", 1, 14);
        text("curve 0 1 2 3;", 1, 10);
        fine("  curve0 1 , 2 3 ;   ", 0);
        text("curve 0 1,2 3;sample a1 1;before", 1, 32);
        more("nothing 1;", 1, 0);
        more("curves 1;", 1, 0);
        more("zample a 1 1;", 1, 0);
        more("sampla a 1 1;", 1, 0);
        moreIsFine("rings r 0 0 0;reserve 0;sample a 0 0;", 2);
        moreIsFine("reserve -0;", 0);
        more(";", 1, 0);
        more("sample a 1;", 1, 10);
        more("sample a 1 1 1;", 1, 13);
        more("sample a -1 1;", 1, 9);
        more("rings r 1;", 1, 9);
        more("phase p;", 1, 7);
        moreIsFine("sample a 1 1 ; sample b 1 1;before a b;before a b5;before a b 5 6;", 2);
        more("sample a 1 1;sample b 1 1;before a b 5 4;", 2, 39);
        more("sample a 1 1;sample b 1 1;before a b 5 1000;", 2, 39);
        more("sample a 1 1;sample b 1 1;before a b 1000;", 2, 37);
        more("sample a 1 1;sample b 1 1;before a b 1 2 3;", 1, 41);
        more("sample a 1 1;sample b 1 1;same a b 0;", 1, 35);
        more("sample a 1 1;after a;", 1, 20);
        more("sample a 1 1;until a 1000;", 2, 21);
        more("sample a 1 1;after a 1 1;", 1, 23);
        more("sample a 10000 1;", 2, 9);
        more("sample a 1 1000;", 2, 11);
        more("rings r 1000 0 1;", 2, 8);
        more("rings r 1 301 1;", 2, 10);
        more("rings r 1 5 1,5 1;", 2, 14);
        more("rings r 1 5 10000;", 2, 12);
        more("sigma 0;", 2, 6);
        more("sigma 4;", 2, 6);
        more("sigma;", 1, 5);
        moreIsFine("reserve 500;", 0);
        moreIsFine("reserve - 0500;", 0);
        more("reserve 501;", 2, 8);
        more("reserve  -  501;", 2, 9);
        more("reserve -;", 1, 9);
        more("reserve --5;", 1, 9);
        more("sample a 1 1;phase p a;lasts p 1000;", 2, 31);
        more("sample a 1 1;phase p a;lasts p;", 1, 30);
        more("sample a 1 1;phase p a;phase q a;order p q 1000;", 2, 43);
        more("sample a 1 1;phase p a;phase q a;order p q 1 2;", 1, 45);
        moreIsFine("sample a 1 1;phase p a;phase q a;order p q;order q p 999;lasts q 999;", 1);
    }

    // promise 5
    private static void set() {
        CarbonDates x = Desks.desk(PLAIN + "sample a 500 10;");
        due("5 sigma was", x.set(0, 3), 1);
        due("5 the span is wider", x.sample(0, 4), 61);
        due("5 sigma was", x.set(0, 2), 3);
        due("5 reserve was", x.set(1, 500), 0);
        due("5 the span lies lower", x.sample(0, 5), 0);
        due("5 reserve was", x.set(1, -500), 500);
        due("5 the span lies higher", x.sample(0, 6), 999);
        due("5 told", x.told(4) * 1000 + x.told(5), 1500);
        int[][] wrong = {{0, 0}, {0, 4}, {0, -1}, {1, 501}, {1, -501}, {2, 1}, {-1, 1}};
        for (int[] pair : wrong) {
            illegal("5 set " + pair[0] + " " + pair[1], () -> x.set(pair[0], pair[1]));
        }
        due("5 refused, nothing can be taken back more", x.told(10), 4);
    }

    // promise 6
    private static void redate() {
        CarbonDates x = Desks.desk(PLAIN + "sample a 500 10;rings r 2 0 100,1 101;");
        due("6 it was dated", x.redate(0, 0, 999), 0);
        due("6 its age", x.sample(0, 1), 0);
        due("6 its error", x.sample(0, 2), 999);
        due("6 its span", x.sample(0, 4), 1000);
        due("6 it was rings", x.redate(1, 9999, 0), 1);
        due("6 it is dated", x.sample(1, 0), 0);
        due("6 no year is so old", x.sample(1, 4), 0);
        due("6 it was dated by now", x.redate(1, 7, 0), 0);
        due("6 its span", x.sample(1, 5), 7);
        x.undo();
        x.undo();
        due("6 rings again", x.sample(1, 0), 1);
        due("6 their slack", x.sample(1, 1), 2);
        due("6 their misfit", x.misfit(1, 101), 2);
        noSuch("6 no such sample", () -> x.redate(2, 0, 0));
        noSuch("6 no such sample goes ahead", () -> x.redate(-1, -1, 0));
        illegal("6 age", () -> x.redate(0, -1, 0));
        illegal("6 age", () -> x.redate(0, 10000, 0));
        illegal("6 error", () -> x.redate(0, 0, -1));
        illegal("6 error", () -> x.redate(0, 0, 1000));
    }

    // promise 7
    private static void before() {
        CarbonDates x = Desks.desk(PLAIN + "sample a 500 10;sample b 505 10;");
        due("7 its number", x.before(0, 1, 0, 0), 0);
        due("10 before is taken back", x.undo(), 0);
        due("10 no rule is left", x.told(3), 0);
        due("10 spans are as they were", x.told(7), 42);
        due("7 its number again", x.before(0, 1, 0, 0), 0);
        due("7 its number", x.before(1, 0, 0, 999), 1);
        due("7 spans", x.told(7), 32);
        noSuch("7 no such sample", () -> x.before(2, 0, 0, 0));
        noSuch("7 no such sample ahead of all", () -> x.before(0, -1, 5, 4));
        illegal("7 the same", () -> x.before(1, 1, 0, 0));
        illegal("7 most below least", () -> x.before(0, 1, 5, 4));
        illegal("7 least", () -> x.before(0, 1, -1, 4));
        illegal("7 most", () -> x.before(0, 1, 0, 1000));
        for (int k = 2; k < 24; k++) {
            due("7 its number", x.before(0, 1, 0, 999), k);
        }
        Desks.refused("7 there are 24", Desks.STATE, () -> x.before(0, 1, 0, 0));
        illegal("7 behind others", () -> x.before(0, 0, 0, 0));
        noSuch("7 behind others", () -> x.before(0, 5, 0, 0));
        due("7 status", x.status(2), 1);
        x.drop(3);
        due("7 there is room again", x.before(0, 1, 7, 8), 23);
        due("7 least", x.rule(23, 3), 7);
        due("7 most", x.rule(23, 4), 8);
    }

    // promise 8
    private static void bounds() {
        CarbonDates x = Desks.desk(PLAIN + "sample a 500 10;sample b 505 10;");
        due("8 after", x.bounds(0, 2, 495), 0);
        due("8 earliest", x.sample(0, 5), 495);
        due("8 until", x.bounds(0, 3, 507), 1);
        due("8 latest", x.sample(0, 6), 507);
        due("8 the other's span stays", x.sample(1, 4), 21);
        due("8 gone", x.rule(0, 5) * 10 + x.rule(1, 5), 53);
        due("8 no end", x.bounds(1, 2, 0), 2);
        due("8 no end", x.bounds(1, 3, 999), 3);
        due("8 nothing is gone", x.rule(2, 5) + x.rule(3, 5), 0);
        noSuch("8 no such sample", () -> x.bounds(2, 2, 0));
        noSuch("8 no such sample ahead", () -> x.bounds(-1, 9, 0));
        illegal("8 what", () -> x.bounds(0, 1, 0));
        illegal("8 what", () -> x.bounds(0, 4, 0));
        illegal("8 a year that is none", () -> x.bounds(0, 2, -1));
        illegal("8 a year that is none", () -> x.bounds(0, 3, 1000));
        for (int k = 4; k < 24; k++) {
            due("8 its number", x.bounds(0, 2, 0), k);
        }
        Desks.refused("8 there are 24", Desks.STATE, () -> x.bounds(0, 2, 0));
        illegal("8 behind others", () -> x.bounds(0, 2, 1000));
    }

    // promise 9
    private static void drop() {
        CarbonDates x = Desks.desk(PLAIN + "sample a 500 10;after a 495;until a 507;after a 500;");
        due("9 gone of it", x.drop(1), 3);
        due("9 one less", x.told(3), 2);
        due("9 the one behind it", x.rule(1, 3), 500);
        due("9 span", x.sample(0, 4), 11);
        due("9 gone of the last", x.drop(1), 5);
        due("9 gone of the first", x.drop(0), 5);
        due("9 all", x.sample(0, 4), 21);
        noSuch("9 none", () -> x.drop(0));
        noSuch("9 below 0", () -> x.drop(-1));
        due("9 back", x.undo(), 2);
        due("9 it is there again", x.rule(0, 3), 495);
    }

    // promise 10
    private static void undo() {
        CarbonDates x = Desks.desk(PLAIN + "sample a 500 10;after a 495;");
        x.set(0, 1);
        x.redate(0, 600, 5);
        x.bounds(0, 3, 600);
        x.drop(0);
        due("10 how many", x.told(10), 4);
        due("10 drop", x.undo(), 3);
        due("10 the rule is there", x.rule(0, 0) * 10 + x.rule(1, 0), 23);
        due("10 bounds", x.undo(), 2);
        due("10 rules", x.told(3), 1);
        due("10 redate", x.undo(), 1);
        due("10 age", x.sample(0, 1), 500);
        due("10 set, though nothing changed", x.undo(), 0);
        due("10 none", x.undo(), -1);
        for (int k = 1; k <= 15; k++) {
            x.set(1, k);
            due("10 the latest 12", x.told(10), Math.min(12, k));
        }
        for (int k = 1; k <= 12; k++) {
            due("10 still", x.undo(), 12 - k);
            due("10 reserve", x.told(5), 15 - k);
        }
        due("10 no more", x.undo(), -1);
        due("10 reserve", x.told(5), 3);
        x.feed(0, 0, 0, 0, 0);
        x.set(1, 77);
        x.feed(0, 0, 0, 0, 0);
        x.undo();
        due("10 the tape is not told, and stays", x.told(11), 40);
        illegal("10 a refusal", () -> x.set(1, 501));
        due("10 is nothing to take back", x.undo(), -1);
    }

    // promise 11
    private static void told() {
        CarbonDates x = Desks.desk("curve 0 0,500 500,999 999;sample a 500 10;sample b 700 5;"
                + "phase p a b;phase q a;order p q 1;after b 700;sigma 2;reserve 3;");
        x.set(0, 1);
        x.feed(0, 0, 0, 0, 0);
        int[] dues = {3, 2, 2, 2, 1, 3, 2, 0, 2, 32, 1, 20};
        for (int what = 0; what < dues.length; what++) {
            due("11 told " + what, x.told(what), dues[what]);
        }
        illegal("11 what", () -> x.told(12));
        illegal("11 what", () -> x.told(-1));
    }

    // promise 12
    private static void age() {
        CarbonDates x = Desks.desk("curve 10 100,13 110,20 95;");
        int[] ages = {-1, 100, 103, 106, 110, 108, 106, 104, 102, 100, 98, 95, -1};
        int[] cutTowards0 = {-1, 100, 103, 106, 110, 110 - 15 / 7, 110 - 30 / 7, 110 - 45 / 7, 110 - 60 / 7,
            110 - 75 / 7, 110 - 90 / 7, 95, -1};
        for (int k = 0; k < ages.length; k++) {
            due("12 age of " + (9 + k), x.age(9 + k), cutTowards0[k]);
        }
        due("12 no age", x.age(0), -1);
        due("12 no age", x.age(999), -1);
        noSuch("12 no year", () -> x.age(-1));
        noSuch("12 no year", () -> x.age(1000));
    }

    // promise 13
    private static void years() {
        CarbonDates x = Desks.desk("curve 10 0,20 5,30 0;");
        due("13 how many", x.years(5, 0), 2);
        due("13 first", x.years(4, 1), 18);
        due("13 last", x.years(4, 2), 23);
        due("13 how many of 0", x.years(0, 0), 3);
        due("13 none", x.years(9999, 0), 0);
        due("13 none", x.years(6, 1), -1);
        due("13 none", x.years(6, 2), -1);
        CarbonDates ends = Desks.desk("curve 0 7,5 3,994 3,999 7;");
        due("13 at the first year", ends.years(7, 1), 0);
        due("13 at the last year", ends.years(7, 2), 999);
        due("13 with the second, as quotients are cut", ends.years(7, 0), 3);
        illegal("13 age", () -> x.years(-1, 0));
        illegal("13 age", () -> x.years(10000, 0));
        illegal("13 what", () -> x.years(0, 3));
        illegal("13 what", () -> x.years(0, -1));
    }

    // promise 14
    private static void knot() {
        CarbonDates x = Desks.desk("curve 10 100,13 110,20 95;");
        due("14 year", x.knot(1, 0), 13);
        due("14 age", x.knot(1, 1), 110);
        due("14 last", x.knot(2, 1), 95);
        noSuch("14 knot", () -> x.knot(3, 0));
        noSuch("14 knot ahead", () -> x.knot(-1, 5));
        illegal("14 what", () -> x.knot(0, 2));
        illegal("14 what", () -> x.knot(0, -1));
    }

    // promise 15
    private static void sample() {
        CarbonDates x = Desks.desk("curve 0 100,100 0,200 100;sample a 53 5;until a 160;sample b 9999 1;");
        int[] dues = {0, 53, 5, 22, 22, 42, 158, 2, 47, 0};
        for (int what = 0; what < dues.length; what++) {
            due("15 sample " + what, x.sample(0, what), dues[what]);
        }
        x.bounds(0, 2, 48);
        due("15 its span, not its first one", x.sample(0, 3) * 100 + x.sample(0, 4), 2216);
        due("15 the best of what is left", x.sample(0, 8), 153);
        x.bounds(0, 3, 152);
        due("15 of alike ones the first", x.sample(0, 8), 48);
        due("15 its misfit", x.sample(0, 9), 1);
        int[] none = {0, 9999, 1, 0, 0, -1, -1, 0, -1, -1};
        for (int what = 0; what < none.length; what++) {
            due("15 empty " + what, x.sample(1, what), none[what]);
        }
        noSuch("15 sample", () -> x.sample(2, 0));
        noSuch("15 sample ahead", () -> x.sample(-1, 10));
        illegal("15 what", () -> x.sample(0, 10));
        illegal("15 what", () -> x.sample(0, -1));
    }

    // promises 15 and 17, of rings
    private static void rings() {
        CarbonDates x = Desks.desk("curve 100 100,200 200;rings r 2 10 125,40 155;rings s 3 150 110,300 260;");
        due("15 rings", x.sample(0, 0), 1);
        due("15 slack", x.sample(0, 1), 2);
        due("15 how many", x.sample(0, 2), 2);
        due("15 the least misfit and the slack", x.sample(0, 4), 3);
        due("15 earliest", x.sample(0, 5), 114);
        due("15 best", x.sample(0, 8), 115);
        due("17 misfit", x.misfit(0, 120), 10);
        due("17 a year ahead of the curve", x.misfit(0, 90), 50);
        due("17 none ahead of that", x.misfit(0, 89), -1);
        due("17 the last ring on the curve's last year", x.misfit(0, 160), 90);
        due("17 none behind that", x.misfit(0, 161), -1);
        due("15 rings longer than the curve", x.sample(1, 3), 0);
        due("17 they fit nowhere", x.misfit(1, 0), -1);
        x.set(0, 3);
        due("15 sigma times slack", x.sample(0, 4), 7);
        x.set(1, 5);
        due("15 reserve", x.sample(0, 8), 110);
        due("15 rings at the first year", Desks.desk(PLAIN + "rings r 0 0 0,5 5;").sample(0, 4), 1);
        due("15 the best year is the first", Desks.desk(PLAIN + "sample a 0 5;").sample(0, 8), 0);
        due("15 a least misfit above 0", Desks.desk(PLAIN + "rings r 0 0 5,1 5;").sample(0, 9), 1);
        CarbonDates late = Desks.desk(PLAIN + "rings r 0 0 900,300 900;");
        due("17 a ring behind the last year", late.misfit(0, 700), -1);
        due("17 a ring at the last year", late.misfit(0, 699), 300);
        due("15 the rings stay within the years", late.sample(0, 6), 699);
    }

    // promise 16
    private static void interval() {
        CarbonDates x = Desks.desk("curve 0 100,100 0,200 100;sample a 53 5;sample b 0 0;sample c 100 0;");
        due("16 first", x.interval(0, 0, 0), 42);
        due("16 its last", x.interval(0, 0, 1), 52);
        due("16 second", x.interval(0, 1, 0), 148);
        due("16 its last", x.interval(0, 1, 1), 158);
        due("16 one year", x.interval(1, 0, 0) + x.interval(1, 0, 1), 200);
        due("16 at the first year", x.interval(2, 0, 1), 0);
        due("15 at the first year", x.sample(2, 7), 2);
        noSuch("16 third", () -> x.interval(0, 2, 0));
        noSuch("16 below 0", () -> x.interval(0, -1, 0));
        noSuch("16 far off", () -> x.interval(0, Integer.MAX_VALUE, 0));
        noSuch("16 sample", () -> x.interval(3, 0, 0));
        noSuch("16 sample", () -> x.interval(-1, 0, 0));
        noSuch("16 ahead", () -> x.interval(0, 2, 2));
        illegal("16 what", () -> x.interval(0, 1, 2));
        illegal("16 what", () -> x.interval(0, 1, -1));
        CarbonDates all = Desks.desk(PLAIN + "sample a 500 999;");
        due("16 all years", all.interval(0, 0, 0), 0);
        due("16 all years", all.interval(0, 0, 1), 999);
        due("15 all years are one", all.sample(0, 7), 1);
    }

    // promise 17
    private static void misfit() {
        CarbonDates x = Desks.desk("curve 100 50,200 150;sample a 60 5;reserve -7;");
        due("17 above", x.misfit(0, 130), 13);
        due("17 below", x.misfit(0, 100), 17);
        due("17 none", x.misfit(0, 99), -1);
        due("17 none", x.misfit(0, 201), -1);
        noSuch("17 sample", () -> x.misfit(1, 0));
        noSuch("17 year", () -> x.misfit(0, -1));
        noSuch("17 year", () -> x.misfit(0, 1000));
    }

    // promise 18
    private static void place() {
        CarbonDates x = Desks.desk(PLAIN + "sample a 500 10;after a 500;");
        due("18 span", x.place(0, 500), 3);
        due("18 first span", x.place(0, 499), 1);
        due("18 neither", x.place(0, 489), 0);
        due("18 neither", x.place(0, 999), 0);
        noSuch("18 sample", () -> x.place(1, 0));
        noSuch("18 year", () -> x.place(0, -1));
        noSuch("18 year", () -> x.place(0, 1000));
    }

    // promise 19
    private static void rule() {
        CarbonDates x = Desks.desk(PLAIN + "sample a 500 10;sample b 500 10;sample c 500 9;phase p a b;phase q c;"
                + "before b a 1 15;before b a 7;before c a;same c b;after c 5;until b 999;order q p 0;order p q;lasts p 30;");
        int[][] dues = {{0, 1, 0, 1, 15, 2}, {0, 1, 0, 7, 999, 12}, {0, 2, 0, 0, 999, 0}, {1, 2, 1, 0, -1, 0},
            {2, 2, -1, 5, -1, 0}, {3, 1, -1, 999, -1, 0}, {4, 1, 0, 0, -1, 0}, {4, 0, 1, 0, -1, 0}, {5, 0, -1, 30, -1, 0}};
        for (int r = 0; r < dues.length; r++) {
            for (int what = 0; what < 5; what++) {
                due("19 rule " + r + " " + what, x.rule(r, what), dues[r][what]);
            }
        }
        due("19 gone", x.rule(0, 5) > 0 ? 1 : 0, 1);
        noSuch("19 rule", () -> x.rule(9, 0));
        noSuch("19 rule ahead", () -> x.rule(-1, 9));
        illegal("19 what", () -> x.rule(0, 6));
        illegal("19 what", () -> x.rule(0, -1));
    }

    private static void span(CarbonDates x, int sample, int earliest, int latest) {
        due("narrowing: earliest of " + sample, x.sample(sample, 5), earliest);
        due("narrowing: latest of " + sample, x.sample(sample, 6), latest);
    }

    // Terms 2, by promises 11, 15, 19
    private static void narrowing() {
        CarbonDates x = Desks.desk(PLAIN + "sample a 100 10;sample b 105 10;sample c 120 20;before b c 10 12;same a b;");
        span(x, 0, 95, 110);
        span(x, 1, 95, 110);
        span(x, 2, 105, 122);
        due("narrowing: of the first rule", x.rule(0, 5), 41 - 23 + 5);
        due("narrowing: of the second rule", x.rule(1, 5), 5 + 5);
        due("narrowing: rounds", x.told(6), 3);

        // a year that fits none goes out of the midst: the spans have gaps
        x = Desks.desk("curve 0 100,100 0,200 100;sample a 50 2;sample b 0 50;before a b 30 31;");
        due("narrowing: of both stretches of a one is left", x.sample(0, 7), 1);
        span(x, 0, 48, 52);
        span(x, 1, 78, 83);
        x = Desks.desk("curve 0 100,100 0,200 100;sample a 50 2;sample b 0 70;before a b 3 5;");
        due("narrowing: b by both stretches of a", x.sample(1, 7), 2);
        due("narrowing: first", x.interval(1, 0, 0) * 1000 + x.interval(1, 0, 1), 51057);
        due("narrowing: second", x.interval(1, 1, 0) * 1000 + x.interval(1, 1, 1), 151157);

        gaps();
        x = Desks.desk(PLAIN + "sample a 100 10;sample b 100 20;sample c 95 10;phase p a b;phase q c;order p q 3;");
        span(x, 0, 90, 102);
        span(x, 1, 80, 102);
        span(x, 2, 93, 105);
        x = Desks.desk(PLAIN + "sample a 100 10;sample b 130 20;sample c 140 5;phase p c a b;lasts p 30;");
        span(x, 0, 105, 110);
        span(x, 1, 110, 140);
        span(x, 2, 135, 140);

        x = Desks.desk(PLAIN + "sample a 100 10;sample b 100 10;phase p a;phase q a;order p q;");
        due("narrowing: with itself, 0 at least", x.told(9), 0);
        x = Desks.desk(PLAIN + "sample a 100 10;sample b 100 10;phase p a;phase q a b;order p q 1;");
        due("narrowing: with itself, 1 at least", x.rule(0, 5), 42);
        due("narrowing: clash", x.clash(0) * 10 + x.clash(1), 0);
        due("narrowing: rounds go on", x.told(8), 2);
    }

    private static void gap(String part, int yearsOfA, int yearsOfB) {
        CarbonDates x = Desks.desk("curve 0 100,100 0,200 100;sample a 50 0;sample b 0 100;" + part);
        due("narrowing: a by " + part, x.sample(0, 4), yearsOfA);
        due("narrowing: b by " + part, x.sample(1, 4), yearsOfB);
    }

    // a is of the years 50 and 150, b of 0 to 200
    private static void gaps() {
        gap("before a b 0 98;", 2, 99 + 51);
        gap("before a b 0 99;", 2, 100 + 51);
        gap("before a b 3 101;", 2, 99 + 48);
        gap("before a b 50 50;", 2, 2);
        gap("before a b 51 51;", 1, 1);
        gap("before a b 50;", 2, 101);
        gap("before a b 60;", 1, 91);
        gap("before b a 0 98;", 2, 51 + 99);
        gap("before b a 0 99;", 2, 51 + 100);
        gap("before b a 50 50;", 2, 2);
        gap("same b a;", 2, 2);
        gap("phase p a b;lasts p 49;", 2, 99 + 99);
        gap("phase p b a;lasts p 50;", 2, 201);
        gap("phase p b;phase q a;order p q 100;", 1, 51);

        CarbonDates x = Desks.desk("curve 0 0,10 10,11 500,12 12,40 40;sample a 15 10;sample b 20 20;before a b 5 5;");
        due("narrowing: a gap of one year", x.sample(0, 4) * 100 + x.sample(1, 4), 1919);
        x = Desks.desk("curve 0 0,10 10,11 500,12 500,13 13,40 40;sample a 15 10;sample b 20 20;before a b 5 5;");
        due("narrowing: a gap of two years", x.sample(0, 4) * 100 + x.sample(1, 4), 1717);
    }

    // promise 20
    private static void clash() {
        CarbonDates x = Desks.desk(PLAIN + "sample a 100 1;sample b 200 1;sample c 300 1;before a b;before b a;same b c;");
        due("20 rule", x.clash(0), 1);
        due("20 sample: of b of the rule, so a, first", x.clash(1), 0);
        due("20 later ones are told, too", x.told(8), 3);
        x.redate(2, 9999, 0);
        x.redate(1, 9999, 0);
        due("20 by no rule", x.clash(0), -1);
        due("20 the least number", x.clash(1), 1);
        x = Desks.desk(PLAIN + "sample a 100 1;sample b 100 1;before a b;");
        due("20 none", x.clash(0), -2);
        due("20 none", x.clash(1), -2);
        CarbonDates y = x;
        illegal("20 what", () -> y.clash(2));
        illegal("20 what", () -> y.clash(-1));
        x.bounds(0, 3, 0);
        due("20 until the first year", x.clash(0), 1);
        x.undo();
        due("20 none again", x.clash(0), -2);
        due("20 none again", x.clash(1), -2);
        x.bounds(0, 3, 50);
        due("20 rule", x.clash(0), 1);
        due("20 sample", x.clash(1), 0);
    }

    // promise 21
    private static void blame() {
        CarbonDates x = Desks.desk(PLAIN + "sample a 100 5;sample b 110 5;sample c 120 5;"
                + "before a b;before b c;same a c;until b 999;");
        due("21 blame", x.blame(), 4);
        x.drop(2);
        due("21 no clash", x.blame(), 0);
        x.before(2, 0, 0, 999);
        due("21 again, by its number", x.blame(), 8);
        x.before(2, 1, 50, 999);
        due("21 none alone", x.blame(), 0);
        x = Desks.desk(PLAIN + "sample a 100 5;after a 103;until a 101;after a 0;");
        due("21 either of two", x.blame(), 3);
        x = Desks.desk(PLAIN + "sample a 9999 5;after a 103;");
        due("21 no rule is", x.blame(), 0);
        x = Desks.desk(PLAIN + "sample a 100 5;" + "after a 0;".repeat(23) + "after a 200;");
        due("21 the last of 24", x.blame(), 1 << 23);
    }

    // promise 22
    private static void needless() {
        CarbonDates x = Desks.desk(PLAIN + "sample a 100 5;after a 98;after a 97;until a 200;after a 98;until a 101;");
        due("22 needless", x.needless(), 1 | 2 | 4 | 8);
        due("22 nothing stays changed", x.sample(0, 4), 4);
        due("22 early years", Desks.desk(PLAIN + "sample a 30 5;after a 28;until a 40;").needless(), 2);
        due("22 late years", Desks.desk(PLAIN + "sample a 990 9;after a 996;until a 999;").needless(), 2);
        x = Desks.desk(PLAIN + "sample a 100 5;until a 98;after a 99;after a 120;");
        due("22 alike ones that are empty", x.needless(), 7);
        x = Desks.desk(PLAIN + "sample a 100 5;sample b 100 5;same a b;after a 98;after b 99;");
        due("22 the same by others", x.needless(), 2);
    }

    // promise 23
    private static void without() {
        CarbonDates x = Desks.desk(PLAIN + "sample a 100 5;sample b 120 5;before b a;until a 102;");
        due("23 as it is", x.told(8), 2);
        due("23 years", x.without(0, 0), 8 + 11);
        due("23 empty", x.without(0, 1), 0);
        due("23 rounds", x.without(0, 2), 2);
        due("23 years", x.without(1, 0), 0);
        due("23 empty", x.without(1, 1), 2);
        due("23 rounds", x.without(1, 2), 2);
        due("23 nothing stays changed", x.told(7) + x.told(3), 2);
        noSuch("23 rule", () -> x.without(2, 0));
        noSuch("23 rule ahead", () -> x.without(-1, 3));
        illegal("23 what", () -> x.without(0, 3));
        illegal("23 what", () -> x.without(0, -1));
    }

    // promise 24
    private static void pinned() {
        CarbonDates x = Desks.desk(PLAIN + "sample a 100 5;sample b 105 5;sample c 500 0;before a b 5 6;");
        due("24 years", x.pinned(0, 100, 0), 1 + 2 + 1);
        due("24 empty", x.pinned(0, 100, 1), 0);
        due("24 rounds", x.pinned(0, 100, 2), 2);
        due("24 a year out of the first span", x.pinned(0, 106, 1), 2);
        due("24 that fits all the same", x.pinned(0, 94, 0), 1 + 1 + 1);
        due("24 a sample without rules", x.pinned(2, 0, 0), 1 + x.sample(0, 4) + x.sample(1, 4));
        due("24 the last year", x.pinned(2, 999, 1), 0);
        due("24 nothing stays changed", x.sample(2, 5), 500);
        noSuch("24 sample", () -> x.pinned(3, 0, 0));
        noSuch("24 year", () -> x.pinned(0, -1, 0));
        noSuch("24 year ahead", () -> x.pinned(0, 1000, 3));
        illegal("24 what", () -> x.pinned(0, 0, 3));
        illegal("24 what", () -> x.pinned(0, 0, -1));
    }

    // promise 25
    private static void doomed() {
        // spans of single years: a 5, 15, 25; b and c 15, 35. With 15 of a, b alone leaves 15 and c alone 35
        CarbonDates x = Desks.desk("curve 4 0,5 50,6 0,14 0,15 60,16 0,24 0,25 50,26 0,34 0,35 70,36 0;"
                + "sample a 55 5;sample b 65 5;sample c 65 5;before a b 0 15;before a c 5 25;same b c;");
        due("25 nothing is narrowed", x.told(7), 3 + 2 + 2);
        due("25 one of a", x.doomed(0), 1);
        due("25 which one", x.pinned(0, 15, 1), 3);
        due("25 none of b", x.doomed(1), 0);
        due("25 none of c", x.doomed(2), 0);
        due("25 nothing stays changed", x.told(7), 7);
        x.drop(2);
        due("25 none without the rule", x.doomed(0), 0);
        due("25 the first and the last year",
                Desks.desk("curve 0 5,1 6,998 6,999 5;sample a 5 0;sample b 9999 0;").doomed(0), 2);
        CarbonDates y = Desks.desk(PLAIN + "sample a 100 1;sample b 9999 0;");
        due("25 another is empty", y.doomed(0), 3);
        due("25 it is empty itself", y.doomed(1), 0);
        y.redate(1, 120, 5);
        due("25 no rule", y.doomed(0) + y.doomed(1), 0);
        y.before(0, 1, 17, 18);
        due("25 years that went are not of the span", y.doomed(1), 0);
        noSuch("25 sample", () -> y.doomed(2));
        noSuch("25 sample", () -> y.doomed(-1));
    }

    // promises 26 and 27
    private static void phase() {
        CarbonDates x = Desks.desk(PLAIN + "sample a 100 5;sample b 200 5;sample c 150 100;sample d 9999 0;sample e 9999 0;"
                + "phase p b a c;phase q c;phase r d a;phase s e d;");
        int[][] dues = {{3, 50, 250, 90, 200}, {1, 50, 250, 0, 200}, {2, 95, 105, -1, -1}, {2, -1, -1, -1, -1}};
        for (int p = 0; p < dues.length; p++) {
            for (int what = 0; what < 5; what++) {
                due("26 phase " + p + " " + what, x.phase(p, what), dues[p][what]);
            }
        }
        noSuch("26 phase", () -> x.phase(4, 0));
        noSuch("26 phase ahead", () -> x.phase(-1, 5));
        illegal("26 what", () -> x.phase(0, 5));
        illegal("26 what", () -> x.phase(0, -1));

        due("26 at the first year", Desks.desk(PLAIN + "sample a 0 0;sample b 0 5;phase p a b;").phase(0, 3), 0);

        due("27 as told", x.member(0, 0) * 100 + x.member(0, 1) * 10 + x.member(0, 2), 102);
        due("27 not so many", x.member(0, 3), -1);
        due("27 not so many", x.member(0, 6), -1);
        due("27 below 0", x.member(0, -1), -1);
        due("27 far off", x.member(0, Integer.MAX_VALUE), -1);
        noSuch("27 phase", () -> x.member(4, 0));
        noSuch("27 phase", () -> x.member(-1, -1));
    }

    // promises 28 and 29
    private static void trial() {
        CarbonDates x = Desks.desk(PLAIN + "sample a 100 1;sample b 101 2;sample c 102 0;before a b 1 2;same b c;");
        due("28 it has years", x.trial(0), 1);
        due("29 a", x.tried(0), 100);
        due("29 b", x.tried(1), 102);
        due("29 c", x.tried(2), 102);
        due("28 looks", x.trial(1), 3);
        x = Desks.desk(PLAIN + "sample a 100 3;sample b 100 3;sample c 9999 0;");
        due("28 none", x.trial(0), 0);
        due("28 all were tried", x.trial(1), 7 + 7 * 7);
        due("29 none", x.tried(0), -1);
        CarbonDates y = x;
        due("29 asked ahead of trial()", Desks.desk(PLAIN + "sample a 100 3;").tried(0), 97);
        illegal("28 what", () -> y.trial(2));
        illegal("28 what", () -> y.trial(-1));
        noSuch("29 sample", () -> y.tried(3));
        noSuch("29 sample", () -> y.tried(-1));
        y.redate(2, 103, 2);
        due("28 tried anew", y.trial(0), 1);
        due("29 the least ones", y.tried(0) * 1000000 + y.tried(1) * 1000 + y.tried(2), 97097101);
        due("28 looks", y.trial(1), 3);
        y.undo();
        due("28 tried anew behind undo", y.trial(0), 0);
        due("28 without samples", new CarbonDates().trial(0), 1);
        due("28 without samples", new CarbonDates().trial(1), 0);
        triedWhereNoneIs();
    }

    // the last sample is empty, so all that fits ahead of it is tried; each two of a and b that fit open the 3 years of d
    private static void triedWhereNoneIs() {
        String samples = PLAIN + "sample a 100 2;sample b 101 1;sample d 500 1;sample e 9999 0;phase p a b;phase q b;phase r a;";
        due("28 looks by before", Desks.desk(samples + "before a b 2 3;").trial(1), 3 + 3 * 3 + (2 + 2 + 1) * 3);
        due("28 looks by before, told the other way", Desks.desk(samples + "before b a 0 1;").trial(1),
                3 + 3 * 3 + (1 + 2 + 2) * 3);
        due("28 looks by same", Desks.desk(samples + "same b a;").trial(1), 3 + 3 * 3 + 3 * 3);
        due("28 looks by order", Desks.desk(samples + "order q r 1;").trial(1), 2 + 2 * 2 + (1 + 2) * 3);
        due("28 looks by order, told the other way", Desks.desk(samples + "order r q 1;").trial(1),
                4 + 4 * 3 + (3 + 3 + 2 + 1) * 3);
        due("28 looks by lasts", Desks.desk(samples + "lasts p 1;").trial(1), 4 + 4 * 3 + (1 + 2 + 3 + 2) * 3);
        due("28 looks by after", Desks.desk(samples + "after a 101;").trial(1), 2 + 2 * 3 + 6 * 3);
        CarbonDates x = Desks.desk(samples + "before a b 2 3;same a b;");
        due("28 by an empty first sample no looks", x.trial(1), 0);
        due("28 none", x.trial(0), 0);
        due("29 none", x.tried(2), -1);
    }

    private static void givenUp() {
        // 200 years of a, each tried with all 99 of b: 200 + 200 * 99 = 20,000 looks, all of them needed
        String samples = PLAIN + "sample a 500 100;until a 599;sample b 700 49;sample c 9999 0;";
        CarbonDates x = Desks.desk(samples);
        due("28 none by the last look", x.trial(0), 0);
        due("28 looks", x.trial(1), 20000);
        x = Desks.desk(PLAIN + "sample a 500 100;sample b 700 49;sample c 9999 0;");
        due("28 given up", x.trial(0), -2);
        due("28 looks", x.trial(1), 20000);
        due("29 given up", x.tried(0), -1);
        due("29 given up", x.tried(2), -1);
    }

    // promise 30
    private static void loosened() {
        CarbonDates x = Desks.desk(PLAIN + "sample a 100 5;sample b 80 5;before a b;");
        due("30 two", x.loosened(), 2);
        due("30 nothing stays changed", x.told(4), 1);
        x.set(0, 3);
        due("30 the least all the same", x.loosened(), 2);
        x.redate(1, 75, 3);
        due("30 none", x.loosened(), -1);
        x.redate(1, 75, 4);
        due("30 three", x.loosened(), 3);
        x.redate(1, 100, 3);
        due("30 one", x.loosened(), 1);
        x.redate(1, 9999, 0);
        x.set(1, 0);
        due("30 an empty first span", x.loosened(), -1);
    }

    // promise 31
    private static void shifted() {
        due("31 by a reserve below 0", Desks.desk(PLAIN + "sample a 100 5;after a 200;").shifted(), -95);
        due("31 by one above 0", Desks.desk(PLAIN + "sample a 300 5;until a 200;").shifted(), 95);
        due("31 by one", Desks.desk(PLAIN + "sample a 300 5;until a 294;").shifted(), 1);
        due("31 by one below 0", Desks.desk(PLAIN + "sample a 300 5;after a 306;").shifted(), -1);
        due("31 by no reserve, by the rules alone",
                Desks.desk(PLAIN + "sample a 300 5;sample b 300 5;before a b 1;before b a;").shifted(), -9999);
        due("31 the rules leave the first year alone",
                Desks.desk(PLAIN + "sample a 500 0;until a 0;").shifted(), 500);
        due("31 as it is", Desks.desk(PLAIN + "sample a 200 5;after a 200;").shifted(), 0);
        due("31 nearest to 0, not to what it is",
                Desks.desk(PLAIN + "sample a 100 5;after a 200;reserve -200;").shifted(), -95);
        due("31 500", Desks.desk(PLAIN + "sample a 600 0;until a 100;").shifted(), 500);
        due("31 -500", Desks.desk(PLAIN + "sample a 100 0;after a 600;").shifted(), -500);
        due("31 501 is none", Desks.desk(PLAIN + "sample a 601 0;until a 100;").shifted(), -9999);
        due("31 -501 is none", Desks.desk(PLAIN + "sample a 100 0;after a 601;").shifted(), -9999);
        CarbonDates alike = Desks.desk("curve 0 90,10 110,20 100;sample a 100 0;after a 20;until a 20;");
        due("31 none is needed", alike.shifted(), 0);
        alike = Desks.desk("curve 0 107,1 93;sample a 100 0;");
        due("31 of two alike ones the one below 0", alike.shifted(), -7);
    }

    // promise 32
    private static void print() {
        CarbonDates x = Desks.desk("curve 0 100,100 0,200 100;sample a 53 5;sample b 9999 0;sample c 0 0;");
        long sum = 0;
        int[] parts = {42, 52, 148, 158, 0, 0, 100, 100, 0};
        for (int part : parts) {
            sum = 31 * sum + part;
        }
        due("32 print", x.print(), sum);
        due("32 the first year", Desks.desk(PLAIN + "sample a 0 1;").print(), 31);
        due("32 nothing", new CarbonDates().print(), 0);
        x = Desks.desk(PLAIN + "sample a 999 0;" + "sample b 999 0;sample c 999 0;sample d 999 0;sample e 999 0;");
        sum = 0;
        for (int k = 0; k < 5; k++) {
            sum = 31 * (31 * (31 * sum + 999) + 999);
        }
        due("32 it wraps", x.print(), sum);
    }

    // promise 33
    private static void status() {
        CarbonDates x = Desks.desk(PLAIN + "sample a 100 5;");
        due("33 none yet", x.status(0) + x.status(1) + x.status(2), 0);
        noSuch("33", () -> x.tried(7));
        noSuch("33", () -> x.age(1000));
        illegal("33", () -> x.told(12));
        for (int k = 0; k < 24; k++) {
            x.bounds(0, 2, 0);
        }
        Desks.refused("33", Desks.STATE, () -> x.bounds(0, 2, 0));
        Desks.refused("33", Desks.STATE, () -> x.bounds(0, 2, 0));
        Desks.refused("33", Desks.STATE, () -> x.bounds(0, 2, 0));
        due("33 no such", x.status(0), 2);
        due("33 illegal", x.status(1), 1);
        due("33 state", x.status(2), 3);
        due("33 others", x.status(3), -1);
        due("33 others", x.status(-1), -1);
        x.undo();
        due("33 not taken back", x.status(2), 3);
        Desks.tell(x, PLAIN);
        due("33 not told anew", x.status(2), 3);
    }
}
