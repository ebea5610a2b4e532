/** For each sentence on the tape and on texts that names a boundary case a test of its own (Terms 1, promises 2 to 4). */
public final class EdgesOfTextTest {
    private static final String TERMS = "promise 3, Terms 1";
    /** Four samples and two phases that lines may be of. */
    private static final String SOME = "sample a 1 1;sample b 2 1;sample c 3 1;sample d 4 1;phase p a b;phase q c d;";

    public static void main(String[] args) {
        curve();
        samplesPhasesRules();
        numbersOfLines();
        numbersThatMayBeLeftOut();
        theText();
        wordsNumbersBlanks();
        faultsInGeneral();
        whatCantStandThere();
        numbersThatAreNoneSuch();
        oneTooMany();
        namesTaken();
        namesUnknown();
        tape();
        text();
        fault();
        Edge.end("EdgesOfTextTest");
    }

    // ---- the makings of texts

    private static String knots(int count) {
        StringBuilder text = new StringBuilder("curve 0 0");
        for (int k = 1; k < count; k++) {
            text.append(',').append(k == count - 1 ? 999 : k).append(' ').append(k);
        }
        return text.toString();
    }

    private static String rings(int count) {
        StringBuilder line = new StringBuilder("rings r 0 0 0");
        for (int k = 1; k < count; k++) {
            line.append(',').append(k).append(" 0");
        }
        return line.toString();
    }

    /** Samples a, b, c and so on, by turns dated and rings. */
    private static String samples(int count) {
        StringBuilder lines = new StringBuilder();
        for (int k = 0; k < count; k++) {
            char name = (char) ('a' + k);
            lines.append(k % 2 == 0 ? "sample " + name + " 1 1;" : "rings " + name + " 1 0 1;");
        }
        return lines.toString();
    }

    private static String members(int count) {
        StringBuilder names = new StringBuilder();
        for (int k = 0; k < count; k++) {
            names.append(' ').append((char) ('a' + k));
        }
        return names.toString();
    }

    /** Phases z, y, x and so on of the sample a. */
    private static String phases(int count) {
        StringBuilder lines = new StringBuilder();
        for (int k = 0; k < count; k++) {
            lines.append("phase ").append((char) ('z' - k)).append(" a;");
        }
        return lines.toString();
    }

    private static String rules(int count) {
        return "after a 5;".repeat(count);
    }

    // ---- Terms 1: the curve

    private static void curve() {
        Edge.sentence(TERMS, "The CURVE has KNOTS (2 to 16)", () -> {
            Edge.faulty(1, "curve ^;");
            Edge.faulty(1, "curve 0 0^;");
            Edge.due("2 knots", Edge.tells(0, knots(2) + ";").told(0), 2);
            Edge.due("3 knots", Edge.tells(0, knots(3) + ";").told(0), 3);
            Edge.due("15 knots", Edge.tells(0, knots(15) + ";").told(0), 15);
            CarbonDates x = Edge.tells(0, knots(16) + ";");
            Edge.due("16 knots", x.told(0), 16);
            Edge.due("the year of the 16th", x.knot(15, 0), 999);
            Edge.due("the age of the 16th", x.knot(15, 1), 15);
            Edge.faulty(3, knots(16).replace("999", "500") + "^,999 1;");
        });

        Edge.sentence(TERMS, "YEARS are 0 to 999.", () -> {
            CarbonDates x = Edge.tells(0, "curve 0 1,999 2;");
            Edge.due("the least", x.knot(0, 0), 0);
            Edge.due("the greatest", x.knot(1, 0), 999);
            Edge.due("the greatest alone ahead of the last", Edge.tells(0, "curve 998 1,999 2;").knot(0, 0), 998);
            Edge.faulty(2, "curve 0 1,^1000 2;");
            Edge.faulty(2, "curve ^1000 1,1001 2;");
            Edge.faulty(1, "curve ^-1 1,5 2;");
        });

        Edge.sentence(TERMS, "each a YEAR and an AGE (0 to 9,999)", () -> {
            CarbonDates x = Edge.tells(0, "curve 0 0,1 9999;");
            Edge.due("the least", x.knot(0, 1), 0);
            Edge.due("the greatest", x.knot(1, 1), 9999);
            Edge.faulty(2, "curve 0 ^10000,1 1;");
            Edge.faulty(2, "curve 0 1,1 ^10000;");
            Edge.faulty(1, "curve 0 ^-1,1 1;");
            Edge.faulty(1, "curve 0^,1 1;");
        });

        Edge.sentence(TERMS, "YEARS rising", () -> {
            Edge.tells(0, "curve 4 1,5 1;");
            Edge.faulty(2, "curve 5 1,^5 1;");
            Edge.faulty(2, "curve 5 1,^4 1;");
            Edge.faulty(2, "curve 0 1,^0 1;");
            Edge.faulty(2, "curve 5 1,6 1,^6 1;");
            Edge.faulty(2, "curve 5 1,8 1,^6 1;");
            Edge.faulty(2, "curve 998 1,999 1,^999 1;");
        });
    }

    // ---- Terms 1: how many there are of what

    private static void samplesPhasesRules() {
        Edge.sentence(TERMS, "SAMPLES, numbered from 0 on (12 at most), have a NAME.", () -> {
            CarbonDates x = Edge.tellsLines(12, samples(12));
            Edge.due("12", x.told(1), 12);
            Edge.due("the first is 0", x.sample(0, 0), 0);
            Edge.due("the last is 11", x.sample(11, 0), 1);
            Edge.tellsLines(11, samples(11));
            Edge.faultyLines(3, samples(12) + "^sample m 1 1;");
            Edge.faultyLines(3, samples(12) + "^rings m 1 0 1;");
        });

        Edge.sentence(TERMS, "RINGS: a SLACK, and 1 to 6 RINGS", () -> {
            Edge.faultyLines(1, "rings r 0^;");
            Edge.due("1", Edge.tellsLines(1, rings(1) + ";").sample(0, 2), 1);
            Edge.due("5", Edge.tellsLines(1, rings(5) + ";").sample(0, 2), 5);
            Edge.due("6", Edge.tellsLines(1, rings(6) + ";").sample(0, 2), 6);
            Edge.faultyLines(3, rings(6) + "^,6 0;");
        });

        Edge.sentence(TERMS, "each a PLACE (0 to 300, rising) and an AGE", () -> {
            Edge.tellsLines(1, "rings r 0 0 0,1 9999;");
            Edge.tellsLines(1, "rings r 0 300 9999;");
            Edge.tellsLines(1, "rings r 0 299 0,300 0;");
            Edge.faultyLines(2, "rings r 0 ^301 0;");
            Edge.faultyLines(2, "rings r 0 0 0,^301 0;");
            Edge.faultyLines(2, "rings r 0 0 0,^0 0;");
            Edge.faultyLines(2, "rings r 0 7 0,^7 0;");
            Edge.faultyLines(2, "rings r 0 7 0,^6 0;");
            Edge.faultyLines(2, "rings r 0 7 0,9 0,^8 0;");
            Edge.faultyLines(2, "rings r 0 300 0,^300 0;");
            Edge.faultyLines(2, "rings r 0 0 ^10000;");
            Edge.faultyLines(1, "rings r 0 ^-1 0;");
            Edge.faultyLines(1, "rings r 0 0^;");
        });

        Edge.sentence(TERMS, "PHASES, numbered likewise (4 at most), have a NAME and 1 to 6 SAMPLES, none twice.", () -> {
            Edge.due("1", Edge.tellsLines(1, samples(1) + phases(1)).told(2), 1);
            CarbonDates x = Edge.tellsLines(6, samples(6) + phases(3) + "phase last" + members(6) + ";");
            Edge.due("4", x.told(2), 4);
            Edge.due("of 1", x.phase(0, 0), 1);
            Edge.due("of 6", x.phase(3, 0), 6);
            Edge.due("of 5", Edge.tellsLines(6, samples(6) + "phase p" + members(5) + ";").phase(0, 0), 5);
            Edge.faultyLines(3, samples(6) + phases(4) + "^phase last a;");
            Edge.faultyLines(1, samples(6) + "phase p^;");
            Edge.faultyLines(3, samples(7) + "phase p" + members(6) + " ^g;");
            Edge.faultyLines(4, samples(7) + "phase p a ^a;");
        });

        Edge.sentence(TERMS, "RULES, numbered from 0 on (24 at most)", () -> {
            CarbonDates x = Edge.tellsLines(1, samples(1) + rules(23) + "until a 77;");
            Edge.due("24", x.told(3), 24);
            Edge.due("the first is 0", x.rule(0, 0), 2);
            Edge.due("the last is 23", x.rule(23, 3), 77);
            Edge.due("none", Edge.tellsLines(1, samples(1)).told(3), 0);
            for (String word : new String[] {"before", "same", "after", "until", "order", "lasts"}) {
                Edge.faultyLines(3, SOME + rules(24) + "^" + word + ";");
            }
        });
    }

    // ---- Terms 1: the numbers of the lines

    private static void numbersOfLines() {
        Edge.sentence(TERMS, "A 0 to 9,999; E, SLACK 0 to 999.", () -> {
            CarbonDates x = Edge.tellsLines(3, "sample a 0 0;sample b 9999 999;rings c 999 0 0;");
            Edge.due("the least A", x.sample(0, 1), 0);
            Edge.due("the least E", x.sample(0, 2), 0);
            Edge.due("the greatest A", x.sample(1, 1), 9999);
            Edge.due("the greatest E", x.sample(1, 2), 999);
            Edge.due("the greatest SLACK", x.sample(2, 1), 999);
            Edge.due("the least SLACK", Edge.tellsLines(1, "rings c 0 0 0;").sample(0, 1), 0);
            Edge.faultyLines(2, "sample a ^10000 0;");
            Edge.faultyLines(2, "sample a 0 ^1000;");
            Edge.faultyLines(2, "rings a ^1000 0 0;");
            Edge.faultyLines(1, "sample a ^-1 0;");
            Edge.faultyLines(1, "sample a 0 ^-1;");
            Edge.faultyLines(1, "rings a ^-1 0 0;");
        });

        Edge.sentence(TERMS, "0 BEFORE a b L M: YEAR of b less YEAR of a is L (0 to 999) to M (L to 999)", () -> {
            CarbonDates x = Edge.tellsLines(4, SOME + "before a b 0 0;before a b 999 999;before a b 0 999;before a b 5 6;");
            long[] numbers = {0, 0, 999, 999, 0, 999, 5, 6};
            for (int r = 0; r < 4; r++) {
                Edge.due("L of rule " + r, x.rule(r, 3), numbers[2 * r]);
                Edge.due("M of rule " + r, x.rule(r, 4), numbers[2 * r + 1]);
            }
            Edge.faultyLines(2, SOME + "before a b ^1000;");
            Edge.faultyLines(2, SOME + "before a b ^1000 1000;");
            Edge.faultyLines(2, SOME + "before a b 0 ^1000;");
            Edge.faultyLines(2, SOME + "before a b 5 ^4;");
            Edge.faultyLines(2, SOME + "before a b 999 ^998;");
            Edge.faultyLines(1, SOME + "before a b ^-1;");
            Edge.faultyLines(1, SOME + "before a b 5 6 ^7;");
        });

        Edge.sentence(TERMS, "2 AFTER a Y: Y at least; 3 UNTIL a Y: Y at most", () -> {
            CarbonDates x = Edge.tellsLines(4, SOME + "after a 0;after a 999;until a 0;until a 999;");
            for (int r = 0; r < 4; r++) {
                Edge.due("kind of rule " + r, x.rule(r, 0), r < 2 ? 2 : 3);
                Edge.due("Y of rule " + r, x.rule(r, 3), r % 2 == 0 ? 0 : 999);
            }
            Edge.faultyLines(2, SOME + "after a ^1000;");
            Edge.faultyLines(2, SOME + "until a ^1000;");
            Edge.faultyLines(1, SOME + "after a ^-1;");
            Edge.faultyLines(1, SOME + "until a^;");
        });

        Edge.sentence(TERMS, "4 ORDER p q L (PHASES): YEAR of each SAMPLE of q less that of each of p is L (0 to 999) at least", () -> {
            CarbonDates x = Edge.tellsLines(4, SOME + "order p q 0;order p q 999;");
            Edge.due("the least L", x.rule(0, 3), 0);
            Edge.due("the greatest L", x.rule(1, 3), 999);
            Edge.faultyLines(2, SOME + "order p q ^1000;");
            Edge.faultyLines(1, SOME + "order p q ^-1;");
            Edge.faultyLines(1, SOME + "order p q 1 ^2;");
        });

        Edge.sentence(TERMS, "5 LASTS p N: YEARS of no two SAMPLES of p are more than N (0 to 999) apart.", () -> {
            CarbonDates x = Edge.tellsLines(4, SOME + "lasts p 0;lasts q 999;");
            Edge.due("the least N", x.rule(0, 3), 0);
            Edge.due("the greatest N", x.rule(1, 3), 999);
            Edge.faultyLines(2, SOME + "lasts p ^1000;");
            Edge.faultyLines(1, SOME + "lasts p ^-1;");
            Edge.faultyLines(1, SOME + "lasts p^;");
        });

        Edge.sentence(TERMS, "SIGMA (1 to 3; 1 at first)", () -> {
            Edge.due("without", Edge.tellsLines(0, "").told(4), 1);
            Edge.due("the least", Edge.tellsLines(0, "sigma 1;").told(4), 1);
            Edge.due("the greatest", Edge.tellsLines(0, "sigma 3;").told(4), 3);
            Edge.faultyLines(2, "sigma ^0;");
            Edge.faultyLines(2, "sigma ^4;");
            Edge.faultyLines(1, "sigma ^-1;");
        });

        Edge.sentence(TERMS, "RESERVE (-500 to 500; 0 at first)", () -> {
            Edge.due("without", Edge.tellsLines(0, "").told(5), 0);
            Edge.due("the least", Edge.tellsLines(0, "reserve -500;").told(5), -500);
            Edge.due("the greatest", Edge.tellsLines(0, "reserve 500;").told(5), 500);
            Edge.due("0", Edge.tellsLines(0, "reserve 0;").told(5), 0);
            Edge.due("0 behind a -", Edge.tellsLines(0, "reserve -0;").told(5), 0);
            Edge.faultyLines(2, "reserve ^501;");
            Edge.faultyLines(2, "reserve ^-501;");
        });
    }

    private static void numbersThatMayBeLeftOut() {
        Edge.sentence(TERMS, "(L 0, M 999 without)", () -> {
            CarbonDates x = Edge.tellsLines(4, SOME + "before a b;before a b 7;before a b 999;order p q;");
            Edge.due("L of before without both", x.rule(0, 3), 0);
            Edge.due("M of before without both", x.rule(0, 4), 999);
            Edge.due("L of before without M", x.rule(1, 3), 7);
            Edge.due("M of before without M", x.rule(1, 4), 999);
            Edge.due("the greatest L of before without M", x.rule(2, 3), 999);
            Edge.due("L of order without", x.rule(3, 3), 0);
        });

        Edge.sentence(TERMS, "\"sigma\" N | \"reserve\" [\"-\"] N", () -> {
            Edge.faultyLines(1, "sigma^;");
            Edge.faultyLines(1, "reserve^;");
            Edge.faultyLines(1, "reserve -^;");
            Edge.faultyLines(1, "reserve -^-5;");
            Edge.faultyLines(1, "reserve ^+5;");
            Edge.due("with", Edge.tellsLines(0, "reserve -5;").told(5), -5);
            Edge.due("without", Edge.tellsLines(0, "reserve 5;").told(5), 5);
        });
    }

    // ---- Terms 1: the text

    private static void theText() {
        Edge.sentence(TERMS, "A TEXT has up to 500 bytes", () -> {
            String long500 = Edge.PLAIN + " ".repeat(500 - Edge.PLAIN.length() - 13) + "sample z 9 9;";
            Edge.due("bytes of it", long500.length(), 500);
            Edge.due("what its last bytes tell", Edge.tells(1, long500).sample(0, 1), 9);
            Edge.faulty(1, long500.substring(0, 499) + "^x");
        });

        Edge.sentence(TERMS, "\"curve\" Y A { \",\" Y A } (once, first of all)", () -> {
            Edge.tells(0, "curve 0 0,1 1;");
            Edge.faulty(3, "curve 0 0,1 1;^curve 0 0,1 1;");
            Edge.faulty(1, "^sample a 1 1;curve 0 0,1 1;");
        });

        Edge.sentence(TERMS, "W: a NAME, 1 to 6 small letters (a word of the language may be one, too).", () -> {
            Edge.tellsLines(2, "sample x 1 1;sample abcdef 1 1;");
            Edge.faultyLines(1, "sample ^abcdefg 1 1;");
            Edge.faultyLines(1, "sample ^1 1;");
            CarbonDates x = Edge.tellsLines(11, "sample before 1 1;rings same 1 0 1;sample after 1 1;sample until 1 1;"
                    + "sample order 1 1;sample lasts 1 1;sample curve 1 1;sample sample 1 1;sample rings 1 1;"
                    + "sample sigma 1 1;sample text 1 1;phase phase same before;before before same;lasts phase 5;");
            Edge.due("rule of words of the language", x.rule(0, 1) * 10 + x.rule(0, 2), 1);
            Edge.faultyLines(1, "sample ^reserve 1 1;");
        });
    }

    private static void wordsNumbersBlanks() {
        Edge.sentence(TERMS, "Words: small letters, as many as stand there", () -> {
            Edge.tellsLines(2, "sample a1 1;sample z1 1;after a1;");
            Edge.faulty(1, "^curvea 0 0,1 1;");
            Edge.faulty(1, "^curv 0 0,1 1;");
            Edge.faulty(1, "^cur ve 0 0,1 1;");
            Edge.faulty(1, "^zurve 0 0,1 1;");
            Edge.faulty(1, "^curvd 0 0,1 1;");
            Edge.faultyLines(1, "^samplea 1 1;");
            Edge.faultyLines(1, "sample ^` 1 1;");
            Edge.faultyLines(1, "sample ^{ 1 1;");
            Edge.faultyLines(1, "sample a^` 1 1;");
            Edge.faultyLines(1, "sample z^{ 1 1;");
            Edge.faultyLines(1, "sample ^A 1 1;");
            Edge.faultyLines(1, "sample ^Z 1 1;");
            Edge.faultyLines(1, "^Sample a 1 1;");
            Edge.faultyLines(1, "sample ^\u00e4 1 1;");
        });

        Edge.sentence(TERMS, "numbers: digits, as many as stand there", () -> {
            CarbonDates x = Edge.tells(1, "curve 000 00000,0000999 009999;sample a 0000000000000000000000012 007;");
            Edge.due("a year", x.knot(1, 0), 999);
            Edge.due("an age", x.knot(1, 1), 9999);
            Edge.due("A", x.sample(0, 1), 12);
            Edge.due("E", x.sample(0, 2), 7);
            Edge.due("0 and 9", Edge.tellsLines(1, "sample a 90 09;").sample(0, 1), 90);
            Edge.faultyLines(1, "sample a ^/ 1;");
            Edge.faultyLines(1, "sample a ^: 1;");
            Edge.faultyLines(1, "sample a 1^/ 1;");
            Edge.faultyLines(1, "sample a 1^: 1;");
            Edge.faultyLines(1, "sample a 1^.5 1;");
            Edge.faultyLines(1, "sample a 1 2 ^3;");
        });

        Edge.sentence(TERMS, "blanks (32) may stand ahead of all these and of signs, and at the end.", () -> {
            CarbonDates x = Edge.tells(1, "  curve  0  0  ,  999  999  ;  sample  a  5  6  ;  reserve  -  7  ;  ");
            Edge.due("E", x.sample(0, 2), 6);
            Edge.due("RESERVE", x.told(5), -7);
            x = Edge.tells(2, "curve0 0,999 999;sample a5 6;sample b5 6;before a b7 8;reserve-7;sigma2;");
            Edge.due("L without one ahead", x.rule(0, 3), 7);
            Edge.due("RESERVE without one ahead", x.told(5), -7);
            Edge.tells(0, Edge.PLAIN + " ");
            for (char other : new char[] {0, 9, 10, 13, 31, 33, 127, 160, 255}) {
                Edge.faulty(1, "^" + other + Edge.PLAIN);
                Edge.faulty(1, "curve^" + other + "0 0,1 1;");
                Edge.faulty(1, "curve 0^" + other + "0,1 1;");
                Edge.faulty(1, "curve 0 0^" + other + ",1 1;");
                Edge.faulty(1, Edge.PLAIN + "^" + other);
            }
        });
    }

    // ---- Terms 1: faults

    private static void faultsInGeneral() {
        Edge.sentence(TERMS, "FAULTS, the first from the left, at its first byte", () -> {
            Edge.faulty(1, "curve 0 0,1 1;^nothing 1;sigma 4;");
            Edge.faulty(2, "curve 0 0,1 1;sigma ^4;nothing 1;");
            Edge.faulty(3, "curve 0 0,1 1;sigma 1;^sigma 4;");
            Edge.faulty(2, "curve 0 0,1 1;sample a ^10000 1000;");
            Edge.faulty(4, "curve 0 0,1 1;sample a 1 1;sample ^a 10000 1;");
            Edge.faulty(5, "curve 0 0,1 1;before ^a a;");
            Edge.faulty(5, "curve 0 0,1 1;after   ^abc   1000;");
            Edge.faulty(2, "curve 0 0,1 1;sample a   ^0012345 1;");
            Edge.faulty(1, "curve 0 0,1 1;sample   ^abcdefghi 1 1;");
            Edge.faulty(1, "curve 0 0,1 1;sample a 1 1   ^,");
        });
    }

    private static void whatCantStandThere() {
        Edge.sentence(TERMS, "1 what can't stand there (at the length, if the text ends too early", () -> {
            Edge.faulty(1, "^");
            Edge.faulty(1, "   ^");
            String[] early = {"curve", "curve 5", "curve 5 5", "curve 5 5,", "curve 5 5,6", "curve 5 5,6 6", "curve 5 5,6 6 ",
                "curve 5 5,6 6,", "curve 5 5,6 6,7"};
            for (String text : early) {
                Edge.faulty(1, text + "^");
            }
            String[] lines = {"sample", "sample e", "sample e 5", "sample e 5 6", "rings", "rings e", "rings e 5", "rings e 5 6",
                "rings e 5 6 7", "rings e 5 6 7,", "rings e 5 6 7,8", "rings e 5 6 7,8 9", "before", "before a", "before a b",
                "before a b 5", "before a b 5 6", "same", "same a", "same a b", "after", "after a", "after a 5", "until",
                "until a", "until a 5", "phase", "phase r", "phase r a", "phase r a ", "order", "order p", "order p q",
                "order p q 5", "lasts", "lasts p", "lasts p 5", "sigma", "sigma 2", "reserve", "reserve -", "reserve -5",
                "reserve 5  "};
            for (String line : lines) {
                Edge.faultyLines(1, SOME + line + "^");
            }
            Edge.faulty(1, "^;");
            Edge.faultyLines(1, "^;");
            Edge.faultyLines(1, "^,");
            Edge.faultyLines(1, "^5;");
            Edge.faultyLines(1, "^lines 5;");
            Edge.faultyLines(1, SOME + "same a b ^0;");
            Edge.faultyLines(1, SOME + "after a 5 ^6;");
            Edge.faultyLines(1, SOME + "lasts p 5 ^6;");
            Edge.faultyLines(1, SOME + "before a b 5 6^,7;");
            Edge.faultyLines(1, SOME + "phase r a^,b;");
            Edge.faultyLines(1, SOME + "phase r a ^5;");
        });

        Edge.sentence(TERMS, "a NAME of more than 6 letters", () -> {
            Edge.faultyLines(1, "rings ^abcdefg 1 0 1;");
            Edge.faultyLines(1, SOME + "phase ^abcdefg a;");
            Edge.faultyLines(1, SOME + "phase r a ^abcdefg;");
            Edge.faultyLines(1, SOME + "before ^abcdefg a;");
            Edge.faultyLines(1, SOME + "before a ^abcdefg;");
            Edge.faultyLines(1, SOME + "same a ^abcdefg;");
            Edge.faultyLines(1, SOME + "until ^abcdefg 5;");
            Edge.faultyLines(1, SOME + "order p ^abcdefg;");
            Edge.faultyLines(1, SOME + "lasts ^abcdefg 5;");
            Edge.faultyLines(1, SOME + "lasts ^" + "z".repeat(200) + " 5;");
        });

        Edge.sentence(TERMS, "no curve first of all)", () -> {
            for (String word : new String[] {"sample", "rings", "before", "same", "after", "until", "phase", "order", "lasts",
                "sigma", "reserve", "nothing"}) {
                Edge.faulty(1, "  ^" + word + " 1;" + Edge.PLAIN);
            }
        });
    }

    private static void numbersThatAreNoneSuch() {
        Edge.sentence(TERMS, "2 a number that is none such (also one that does not rise", () -> {
            // one more than 32 and than 64 bits hold, and what is 1 where the bits beyond are lost
            for (String wide : new String[] {"2147483648", "4294967296", "4294967297", "18446744073709551617", "1" + "0".repeat(60)}) {
                Edge.faulty(2, "curve ^" + wide + " 1,5 5;");
                Edge.faulty(2, "curve 0 ^" + wide + ",5 5;");
                Edge.faultyLines(2, "sample a 1 ^" + wide + ";");
                Edge.faultyLines(2, "reserve ^" + wide + ";");
            }
            Edge.faultyLines(2, "sample a ^100000 1;");
            Edge.faultyLines(2, "sample a ^999999 1;");
            Edge.faulty(2, "curve 7 1,^7 1;");
            Edge.faultyLines(2, "rings r 1 7 1,^7 1;");
        });

        Edge.sentence(TERMS, "of reserve at its \"-\", if it has one)", () -> {
            Edge.faultyLines(2, "reserve ^-501;");
            Edge.faultyLines(2, "reserve  ^-  501;");
            Edge.faultyLines(2, "reserve  ^501;");
            Edge.faultyLines(2, "reserve ^-99999999999;");
            Edge.faultyLines(1, "reserve -^;");
        });
    }

    private static void oneTooMany() {
        Edge.sentence(TERMS, "3 one too many (a 17th KNOT, 7th RING: at the \",\" ahead of it", () -> {
            String sixteen = knots(16).replace("999", "500");
            Edge.faulty(3, sixteen + "^,999 1;");
            Edge.faulty(3, sixteen + "  ^,  5 1;");
            Edge.faulty(3, sixteen + "^,");
            Edge.faultyLines(3, rings(6) + "^,300 1;");
            Edge.faultyLines(3, rings(6) + "  ^,  0 1;");
            Edge.faultyLines(3, rings(6) + "^,");
        });

        Edge.sentence(TERMS, "a 13th SAMPLE, fifth PHASE, 25th RULE, second curve, sigma, reserve: at the word of its LINE", () -> {
            Edge.faultyLines(3, samples(12) + "  ^sample a 10000 1;");
            Edge.faultyLines(3, samples(12) + "^sample");
            Edge.faultyLines(3, samples(12) + "^rings ;");
            Edge.faultyLines(3, samples(1) + phases(4) + "  ^phase a a;");
            Edge.faultyLines(3, samples(1) + phases(4) + "^phase");
            Edge.faultyLines(3, samples(1) + rules(24) + "  ^until b 1000;");
            Edge.faultyLines(3, samples(1) + rules(24) + "^same");
            Edge.faultyLines(3, "  ^curve;");
            Edge.faultyLines(3, samples(1) + "^curve 0 0,1 1;");
            Edge.faultyLines(3, "sigma 1;  ^sigma 4;");
            Edge.faultyLines(3, "sigma 2;reserve 1;^sigma 2;");
            Edge.faultyLines(3, "reserve 1;  ^reserve 501;");
            Edge.faultyLines(3, "reserve 0;sigma 1;^reserve 0;");
            Edge.tellsLines(0, "sigma 1;reserve 1;");
        });

        Edge.sentence(TERMS, "a 7th SAMPLE of a PHASE: at it)", () -> {
            Edge.faultyLines(3, samples(12) + "phase p" + members(6) + "  ^g;");
            Edge.faultyLines(3, samples(12) + "phase p" + members(6) + " ^g h;");
            Edge.faultyLines(1, samples(12) + "phase p" + members(6) + " ^7;");
        });
    }

    private static void namesTaken() {
        Edge.sentence(TERMS, "4 a NAME that a SAMPLE or PHASE has already, where one is told anew", () -> {
            for (String line : new String[] {"sample ^% 1 1;", "rings ^% 1 0 1;", "phase ^% c;"}) {
                Edge.faultyLines(4, SOME + line.replace("%", "a"));
                Edge.faultyLines(4, SOME + line.replace("%", "d"));
                Edge.faultyLines(4, SOME + line.replace("%", "p"));
                Edge.faultyLines(4, SOME + line.replace("%", "q"));
            }
            Edge.faultyLines(4, samples(11) + "sample m 1 1;phase ^m a;");
            Edge.faultyLines(4, "rings r 1 0 1;rings ^r 1 0 1;");
            Edge.faultyLines(4, "sample abcdef 1 1;sample ^abcdef 1 1;");
            Edge.tellsLines(4, "sample abcdef 1 1;sample abcdeg 1 1;sample abcde 1 1;sample bcdef 1 1;");
        });

        Edge.sentence(TERMS, "or one that is told twice in one LINE (a PHASE's own NAME among its SAMPLES, too)", () -> {
            Edge.faultyLines(4, SOME + "before a ^a;");
            Edge.faultyLines(4, SOME + "before d ^d 5 6;");
            Edge.faultyLines(4, SOME + "same b ^b;");
            Edge.faultyLines(4, SOME + "order p ^p;");
            Edge.faultyLines(4, SOME + "order q ^q 5;");
            Edge.faultyLines(4, SOME + "phase r a ^a;");
            Edge.faultyLines(4, SOME + "phase r a b c d ^a;");
            Edge.faultyLines(4, SOME + "phase r a b c d ^d;");
            Edge.faultyLines(4, SOME + "phase r ^r;");
            Edge.faultyLines(4, SOME + "phase r a b ^r;");
            Edge.tellsLines(4, SOME + "same a b;same a b;phase r a;phase s a;");
        });

        Edge.sentence(TERMS, "(Of one NAME 4 ahead of 5.)", () -> {
            Edge.faultyLines(4, "phase p ^p;");
            Edge.faultyLines(4, SOME + "phase none ^none a;");
            Edge.faultyLines(5, SOME + "phase r ^none none;");
            Edge.faultyLines(5, SOME + "before ^none none;");
            Edge.faultyLines(5, SOME + "order ^none none;");
        });
    }

    private static void namesUnknown() {
        Edge.sentence(TERMS, "5 a NAME that no SAMPLE (of order, lasts: no PHASE) told ahead has.", () -> {
            for (String line : new String[] {"before ^% a;", "before a ^%;", "same ^% a;", "same a ^%;", "after ^% 5;",
                "until ^% 5;", "phase r ^%;", "phase r a ^%;"}) {
                Edge.faultyLines(5, SOME + line.replace("%", "e"));
                Edge.faultyLines(5, SOME + line.replace("%", "p"));
                Edge.faultyLines(5, SOME + line.replace("%", "aa"));
                Edge.faultyLines(5, SOME + line.replace("%", "e") + "sample e 1 1;");
            }
            for (String line : new String[] {"order ^% p;", "order p ^%;", "lasts ^% 5;"}) {
                Edge.faultyLines(5, SOME + line.replace("%", "r"));
                Edge.faultyLines(5, SOME + line.replace("%", "a"));
                Edge.faultyLines(5, SOME + line.replace("%", "r") + "phase r a;");
            }
            Edge.faultyLines(5, "after ^a 5;");
            Edge.faultyLines(5, "lasts ^p 5;");
            Edge.tellsLines(4, SOME + "before d a;order q p;");
        });
    }

    // ---- promise 2

    private static void tape() {
        Edge.sentence("promise 2", "Twenty bytes come on the TAPE, of each number the highest first: how many there are", () -> {
            String[] names = {"first", "second", "third", "fourth", "fifth"};
            for (int k = 0; k < 5; k++) {
                // a single byte that is no blank, in the highest and in the lowest of each number
                int blanks = ' ' * 0x01010101;
                int[] high = {blanks, blanks, blanks, blanks, blanks};
                int[] low = high.clone();
                high[k] = 0xFF << 24 | blanks >>> 8;
                low[k] = blanks & ~0xFF | 0xFF;
                CarbonDates x = new CarbonDates();
                Edge.due("feed()", x.feed(high[0], high[1], high[2], high[3], high[4]), 20);
                x.text(20);
                Edge.due("the highest of the " + names[k], x.fault(), 4 * k);
                Edge.due("feed()", x.feed(low[0], low[1], low[2], low[3], low[4]), 20);
                x.text(20);
                Edge.due("the lowest of the " + names[k], x.fault(), 4 * k + 3);
            }
            CarbonDates x = new CarbonDates();
            Edge.due("the least numbers there are", x.feed(Integer.MIN_VALUE, -1, 0, 1, Integer.MAX_VALUE), 20);
            Edge.due("the next", x.feed(0, 0, 0, 0, 0), 40);
            Edge.due("told", x.told(11), 40);
        });

        Edge.sentence("promise 2", "NONE, doing nothing, if there would be more than 500.", () -> {
            CarbonDates x = new CarbonDates();
            String text = Edge.PLAIN + " ".repeat(469) + "sample a 5 6;";
            Desks.feed(x, text);
            Edge.due("500 are there", x.told(11), 500);
            Edge.due("20 more", x.feed(-1, -1, -1, -1, -1), CarbonDates.NONE);
            Edge.due("and again", x.feed(-1, -1, -1, -1, -1), CarbonDates.NONE);
            Edge.due("500 are there still", x.told(11), 500);
            Edge.due("refusals", x.status(0) + x.status(1) + x.status(2), 0);
            Edge.due("they tell what they told", x.text(500), 1);
            Edge.due("E", x.sample(0, 2), 6);
            Edge.due("there is room again", x.feed(0, 0, 0, 0, 0), 20);
            x = new CarbonDates();
            for (int k = 1; k <= 25; k++) {
                Edge.due("the " + k + "th", x.feed(k, k, k, k, k), 20 * k);
            }
        });
    }

    // ---- promise 3

    private static void text() {
        Edge.sentence("promise 3", "The first n bytes of the TAPE (empty then) tell all anew", () -> {
            CarbonDates x = Edge.busy();
            Edge.due("none of 20", x.text(0), 1 - 10);
            Edge.due("place", x.fault(), 0);
            Edge.due("the tape then", x.told(11), 0);
            Edge.due("none of none", x.text(0), 1 - 10);
            x = Edge.busy();
            Edge.due("all of 20", x.text(20), 0);
            Edge.due("the tape then", x.told(11), 0);
            x = Edge.busy();
            Edge.due("16 of 20", x.text(16), 0);
            Edge.due("the tape then", x.told(11), 0);
            Edge.same("told anew", Edge.picture(x), Edge.picture(Edge.desk(Edge.TAPED)));
            x = Edge.busy();
            Edge.due("15 of 20", x.text(15), 1 - 10);
            Edge.due("place", x.fault(), 15);
            x = Edge.desk(Edge.PLAIN + samples(12) + phases(4) + "after a 5;".repeat(3) + "sigma 3;reserve -500;");
            Edge.due("one that tells more of all: samples", Desks.tell(x, "curve 3 5,999 9;rings z 1 0 1;sample y 7 7;"), 2);
            Edge.same("is all there is", Edge.picture(x), Edge.picture(Edge.desk("curve 3 5,999 9;rings z 1 0 1;sample y 7 7;")));
            Edge.due("SIGMA of a text behind one that told it", Desks.tell(x, Edge.PLAIN + "sigma 2;reserve 1;"), 0);
            Edge.due("SIGMA of one more", Desks.tell(x, Edge.PLAIN + "reserve 2;sigma 3;"), 0);
            Edge.due("SIGMA, RESERVE", x.told(4) * 10 + x.told(5), 32);
            Edge.due("names that the one ahead told", Desks.tell(x, Edge.PLAIN + "sample z 1 1;phase y z;"), 1);
            Edge.due("names that the one ahead told", Desks.tell(x, Edge.PLAIN + "sample y 1 1;phase z y;"), 1);
            Edge.due("names that the one ahead alone told", Desks.tell(x, Edge.PLAIN + "sample x 1 1;after y 5;"), 5 - 10);
            x = new CarbonDates();
            Desks.feed(x, Edge.PLAIN + "sigma 23;");
            Edge.due("a number that goes on behind them", x.text(25), 1 - 10);
            Edge.due("place", x.fault(), 25);
        });

        Edge.sentence("promise 3", "(nothing can be taken back)", () -> {
            CarbonDates x = Edge.busy();
            x.text(20);
            Edge.due("told(10)", x.told(10), 0);
            Edge.due("undo()", x.undo(), CarbonDates.NONE);
            Edge.due("the knots of the text", x.told(0) * 1000 + x.knot(1, 0), 2999);
        });

        Edge.sentence("promise 3", "how many SAMPLES", () -> {
            Edge.tellsLines(0, "");
            Edge.tellsLines(1, samples(1));
            Edge.tellsLines(12, samples(12));
        });

        Edge.sentence("promise 3", "or the FAULT less 10 (all but the TAPE stays).", () -> {
            String[] faults = {"nothing", "sigma 4;", "sigma 1;sigma 1;", "sample a 1 1;sample a 1 1;", "after a 1;"};
            for (int k = 0; k < faults.length; k++) {
                CarbonDates x = Edge.busy();
                x.text(0);
                CarbonDates twin = Edge.busy();
                twin.text(0);
                String lines = "sample z 7 7;phase y z;until z 7;" + faults[k];
                Edge.due("fault " + (k + 1), Desks.tell(x, "curve 3 3,7 7;" + lines), k + 1 - 10);
                Edge.due("the tape", x.told(11), 0);
                Edge.same("behind fault " + (k + 1), Edge.picture(x), Edge.picture(twin));
                Edge.due("undo() behind fault " + (k + 1), x.undo(), twin.undo());
                Edge.same("undone behind fault " + (k + 1), Edge.picture(x), Edge.picture(twin));
                Edge.due("refusals", x.status(0) + x.status(1) + x.status(2), 0);
            }
        });

        Edge.sentence("promise 3", "IllegalArgumentException: n is not 0 to the TAPE's bytes (it stays).", () -> {
            for (int n : new int[] {-1, 21, 500, 501, Integer.MIN_VALUE, Integer.MAX_VALUE}) {
                Edge.illegal("text(" + n + ") of 20", desk -> desk.text(n));
            }
            CarbonDates none = new CarbonDates();
            Desks.refused("promise 3, text(1) of none", Desks.ILLEGAL, () -> none.text(1));
            CarbonDates all = new CarbonDates();
            Desks.feed(all, Edge.PLAIN + " ".repeat(482));
            Desks.refused("promise 3, text(501) of 500", Desks.ILLEGAL, () -> all.text(501));
            Edge.due("500 of 500", all.text(500), 0);
        });
    }

    // ---- promise 4

    private static void fault() {
        Edge.sentence("promise 4", "The place of the FAULT of the latest text(); NONE without.", () -> {
            CarbonDates x = new CarbonDates();
            Edge.due("no text yet", x.fault(), CarbonDates.NONE);
            Desks.tell(x, Edge.PLAIN + "!");
            Edge.due("a fault", x.fault(), 18);
            Edge.due("asked again", x.fault(), 18);
            Desks.tell(x, "!");
            Edge.due("the latest of two", x.fault(), 0);
            Desks.tell(x, Edge.PLAIN);
            Edge.due("no fault", x.fault(), CarbonDates.NONE);
            Desks.tell(x, Edge.PLAIN + " ".repeat(481) + "a");
            Edge.due("at the 500th byte", x.fault(), 499);
            Desks.tell(x, Edge.PLAIN + " ".repeat(477) + "sigma");
            Edge.due("at the length of 500", x.fault(), 500);
            x.set(0, 2);
            x.undo();
            Edge.due("undo() takes none back", x.fault(), 500);
        });
    }
}
