/** For each sentence on years, spans, rules, narrowing and trials that names a boundary case a test of its own (Terms 1 to 3). */
public final class EdgesOfTermsTest {
    /** Years 5 to 25 but 11, which is by itself in no span that 10 and 12 are in. */
    private static final String GAP = "curve 0 0,10 10,11 500,12 12,40 40;";

    public static void main(String[] args) {
        curve();
        misfit();
        firstSpanOfDated();
        firstSpanOfRings();
        intervals();
        beforeAndSame();
        afterAndUntil();
        orderAndLasts();
        rounds();
        yearsTakenOut();
        orderWithItself();
        gone();
        clash();
        trial();
        givenUp();
        askedNothingChanges();
        Edge.end("EdgesOfTermsTest");
    }

    // ---- Terms 1

    private static void curve() {
        Edge.sentence("promise 12, Terms 1", "AGE of a YEAR, from that of the first KNOT to that of the last", () -> {
            CarbonDates x = Edge.desk("curve 100 500,150 600,200 700;");
            Edge.due("of one ahead of the first", x.age(99), CarbonDates.NONE);
            Edge.due("of the first", x.age(100), 500);
            Edge.due("of the one behind it", x.age(101), 502);
            Edge.due("of the one ahead of a knot", x.age(149), 598);
            Edge.due("of a knot", x.age(150), 600);
            Edge.due("of the one behind a knot", x.age(151), 602);
            Edge.due("of the one ahead of the last", x.age(199), 698);
            Edge.due("of the last", x.age(200), 700);
            Edge.due("of one behind it", x.age(201), CarbonDates.NONE);
            x = Edge.desk("curve 0 9999,999 0;");
            Edge.due("of the year 0", x.age(0), 9999);
            Edge.due("of the year 1", x.age(1), 9989);
            Edge.due("of the year 998", x.age(998), 11);
            Edge.due("of the year 999", x.age(999), 0);
            x = Edge.desk("curve 998 9999,999 0;");
            Edge.due("of years that rise by 1: first", x.age(998), 9999);
            Edge.due("of years that rise by 1: last", x.age(999), 0);
        });

        Edge.sentence("promise 12, Terms 1", "(that quotient cut towards 0)", () -> {
            CarbonDates x = Edge.desk("curve 0 2,3 0,6 2;");
            int[] ages = {2, 2, 1, 0, 0, 1, 2};
            for (int year = 0; year <= 6; year++) {
                Edge.due("of " + year, x.age(year), ages[year]);
            }
        });

        Edge.sentence("promise 12, Terms 1", "Other YEARS have none.", () -> {
            CarbonDates x = Edge.desk("curve 1 0,998 0;");
            Edge.due("of 0", x.age(0), CarbonDates.NONE);
            Edge.due("of 1", x.age(1), 0);
            Edge.due("of 998", x.age(998), 0);
            Edge.due("of 999", x.age(999), CarbonDates.NONE);
            Edge.due("they are of no age", x.years(0, 0), 998);
        });
    }

    private static void misfit() {
        Edge.sentence("promise 17, Terms 1", "AGE of the YEAR and RESERVE (-500 to 500; 0 at first) together, less A, without its sign", () -> {
            CarbonDates x = Edge.plain("sample a 500 0;");
            Edge.due("at first", x.misfit(0, 500), 0);
            Edge.due("one above", x.misfit(0, 501), 1);
            Edge.due("one below", x.misfit(0, 499), 1);
            x.set(1, 500);
            Edge.due("by the greatest reserve", x.misfit(0, 0), 0);
            Edge.due("by the greatest reserve, above", x.misfit(0, 999), 999);
            x.set(1, -500);
            Edge.due("by the least reserve", x.misfit(0, 0), 1000);
            Edge.due("by the least reserve, below 0 together", x.misfit(0, 499), 501);
            x = Edge.desk("curve 0 9999,999 0;sample a 9999 0;sample b 0 0;reserve 500;");
            Edge.due("the greatest of a", x.misfit(0, 999), 9499);
            Edge.due("the greatest of b", x.misfit(1, 0), 10499);
        });

        Edge.sentence("promise 17, Terms 1", "for RINGS, of all RINGS together, AGE of the YEAR that is PLACE behind it and RESERVE, "
                + "less the RING's AGE, without signs.", () -> {
            CarbonDates x = Edge.plain("rings r 0 0 100,300 390;rings s 0 1 1,2 2,3 3,4 4,5 5,6 6;");
            Edge.due("a ring below, one above", x.misfit(0, 95), 5 + 5);
            Edge.due("the same above and below", x.misfit(0, 105), 5 + 15);
            Edge.due("six that fit", x.misfit(1, 0), 0);
            Edge.due("six that are one off each", x.misfit(1, 1), 6);
            x.set(1, -1);
            Edge.due("six that fit by the reserve", x.misfit(1, 1), 0);
        });

        Edge.sentence("promise 17, Terms 1", "(There is none, if any of these YEARS has no AGE.)", () -> {
            CarbonDates x = Edge.desk("curve 100 0,200 100;sample a 50 0;rings r 0 10 10,20 20;rings s 0 0 0;rings t 0 300 0;");
            int[][] dues = {{0, 99, -1}, {0, 100, 50}, {0, 200, 50}, {0, 201, -1}, {1, 89, -1}, {1, 90, 20}, {1, 180, 160},
                {1, 181, -1}, {2, 99, -1}, {2, 100, 0}, {2, 200, 100}, {2, 201, -1}, {3, 0, -1}, {3, 999, -1}};
            for (int[] due : dues) {
                Edge.due("of sample " + due[0] + " by " + due[1], x.misfit(due[0], due[1]), due[2]);
            }
            x = Edge.plain("rings r 0 0 0,300 300;");
            Edge.due("a ring in the last year", x.misfit(0, 699), 1398);
            Edge.due("a ring behind the last year", x.misfit(0, 700), -1);
            Edge.due("all rings but the first behind the last year", x.misfit(0, 999), -1);
        });
    }

    /** Which years are of a sample's first span: these, and not the ones next to them. */
    private static void firstSpan(String what, CarbonDates x, int sample, int from, int to) {
        Edge.due(what + ": years", x.sample(sample, 3), to - from + 1);
        Edge.due(what + ": " + from, x.place(sample, from), 3);
        Edge.due(what + ": " + to, x.place(sample, to), 3);
        Edge.due(what + ": one ahead", from == 0 ? 0 : x.place(sample, from - 1), 0);
        Edge.due(what + ": one behind", to == 999 ? 0 : x.place(sample, to + 1), 0);
    }

    private static void firstSpanOfDated() {
        Edge.sentence("promise 15, Terms 1", "for DATED all YEARS with a MISFIT of SIGMA (1 to 3; 1 at first) times E at most", () -> {
            CarbonDates x = Edge.plain("sample a 500 10;sample b 500 0;sample c 500 999;sample d 9999 999;sample e 0 1;sample f 999 1;");
            firstSpan("an error of 10", x, 0, 490, 510);
            firstSpan("an error of 0", x, 1, 500, 500);
            firstSpan("the greatest error", x, 2, 0, 999);
            Edge.due("an age far off", x.sample(3, 3), 0);
            firstSpan("at the first year", x, 4, 0, 1);
            firstSpan("at the last year", x, 5, 998, 999);
            x.set(0, 2);
            firstSpan("by sigma 2", x, 0, 480, 520);
            firstSpan("an error of 0 by sigma 2", x, 1, 500, 500);
            x.set(0, 3);
            firstSpan("by sigma 3", x, 0, 470, 530);
            firstSpan("at the first year by sigma 3", x, 4, 0, 3);
            firstSpan("by sigma 3 of a text", Edge.plain("sigma 3;sample a 500 10;"), 0, 470, 530);
            firstSpan("an age beyond the curve by its error", Edge.plain("sample a 1998 999;"), 0, 999, 999);
            Edge.due("an age beyond its error", Edge.plain("sample a 1999 999;").sample(0, 3), 0);
            x = Edge.desk("curve 100 0,200 0;sample a 5 5;sample b 6 5;");
            firstSpan("years with an age alone", x, 0, 100, 200);
            Edge.due("one off", x.sample(1, 3), 0);
        });
    }

    private static void firstSpanOfRings() {
        Edge.sentence("promise 15, Terms 1", "for RINGS of the least MISFIT of any YEAR, and SIGMA times SLACK, at most.", () -> {
            // the misfit of s is 10 from 100 to 110, and 2 more for each year off
            CarbonDates x = Edge.plain("rings r 5 0 100;rings s 6 0 100,10 120;rings t 0 0 100,10 120;rings u 999 0 100,300 400;");
            firstSpan("a least misfit of 0", x, 0, 95, 105);
            firstSpan("a least misfit above 0", x, 1, 97, 113);
            firstSpan("a slack of 0", x, 2, 100, 110);
            firstSpan("the greatest slack", x, 3, 0, 599);
            x.set(0, 3);
            firstSpan("by sigma 3", x, 0, 85, 115);
            firstSpan("a least misfit above 0 by sigma 3", x, 1, 91, 119);
            firstSpan("a slack of 0 by sigma 3", x, 2, 100, 110);
            x = Edge.plain("rings r 1 0 9999;rings s 7 0 100,10 120;");
            firstSpan("an age far off all the same", x, 0, 998, 999);
            firstSpan("one more of slack than fits a year", x, 1, 99 - 2, 111 + 2);
            x = Edge.desk("curve 100 0,200 0;rings r 999 0 0,101 0;rings s 0 0 0,100 0;rings t 0 100 5;rings u 0 300 5;");
            Edge.due("rings one longer than the curve", x.sample(0, 3), 0);
            firstSpan("rings as long as the curve", x, 1, 100, 100);
            firstSpan("years ahead of the curve", x, 2, 0, 100);
            Edge.due("all rings behind the curve", x.sample(3, 3), 0);
        });
    }

    private static void intervals() {
        Edge.sentence("promise 16, Terms 1", "INTERVALS of a SPAN: its YEARS one next to the other, as long as there is none lacking.", () -> {
            CarbonDates x = Edge.desk(GAP + "sample a 15 10;sample b 500 0;sample c 9999 0;sample d 5 5;");
            Edge.due("how many of one year lacking", x.sample(0, 7), 2);
            Edge.due("from", x.interval(0, 0, 0), 5);
            Edge.due("to", x.interval(0, 0, 1), 10);
            Edge.due("from", x.interval(0, 1, 0), 12);
            Edge.due("to", x.interval(0, 1, 1), 25);
            Edge.due("how many of one year", x.sample(1, 7), 1);
            Edge.due("from", x.interval(1, 0, 0), 11);
            Edge.due("to", x.interval(1, 0, 1), 11);
            Edge.due("how many of none", x.sample(2, 7), 0);
            Edge.due("how many of none lacking", x.sample(3, 7), 1);
            Edge.due("from the first year", x.interval(3, 0, 0), 0);
            x = Edge.plain("sample a 500 999;");
            Edge.due("how many of all", x.sample(0, 7), 1);
            Edge.due("to the last year", x.interval(0, 0, 1), 999);
            for (int[] ends : new int[][] {{63, 64}, {60, 130}, {511, 512}, {490, 513}, {0, 63}, {64, 127}, {959, 960}}) {
                CarbonDates one = Edge.plain("sample a 500 999;after a " + ends[0] + ";until a " + ends[1] + ";");
                Edge.due("how many of " + ends[0] + " to " + ends[1], one.sample(0, 7), 1);
                Edge.due("from " + ends[0], one.interval(0, 0, 0), ends[0]);
                Edge.due("to " + ends[1], one.interval(0, 0, 1), ends[1]);
            }
            // years 0, 2, 4 and so on to 14 lack none of them next to them
            x = Edge.desk("curve 0 0,1 9,2 0,3 9,4 0,5 9,6 0,7 9,8 0,9 9,10 0,11 9,12 0,13 9,14 0,15 9;sample a 0 0;sample b 9 0;");
            Edge.due("how many of every second year", x.sample(0, 7), 8);
            Edge.due("the last of these", x.interval(0, 7, 0) * 100 + x.interval(0, 7, 1), 1414);
            Edge.due("the last of the others", x.interval(1, 7, 0) * 100 + x.interval(1, 7, 1), 1515);
        });
    }

    // ---- Terms 1: rules

    /** Whether a of one year and b of one year can be by a rule. */
    private static void fits(String rule, int yearOfA, int yearOfB, boolean fits) {
        CarbonDates x = Edge.plain("sample a " + yearOfA + " 0;sample b " + yearOfB + " 0;phase p a;phase q b;phase r a b;" + rule);
        Edge.due(rule + " a " + yearOfA + " b " + yearOfB, x.told(8), fits ? 0 : rule.matches("(after|until).*") ? 1 : 2);
        Edge.due(rule + " a " + yearOfA + " b " + yearOfB + ": years gone", x.told(9), fits ? 0 : x.told(8));
    }

    private static void beforeAndSame() {
        Edge.sentence("promises 7 and 20, Terms 1", "0 BEFORE a b L M: YEAR of b less YEAR of a is L (0 to 999) to M (L to 999)", () -> {
            fits("before a b 10 20;", 100, 109, false);
            fits("before a b 10 20;", 100, 110, true);
            fits("before a b 10 20;", 100, 120, true);
            fits("before a b 10 20;", 100, 121, false);
            fits("before a b 10 20;", 110, 100, false);
            fits("before a b 10 10;", 100, 109, false);
            fits("before a b 10 10;", 100, 110, true);
            fits("before a b 10 10;", 100, 111, false);
            fits("before a b 0 0;", 100, 99, false);
            fits("before a b 0 0;", 100, 100, true);
            fits("before a b 0 0;", 100, 101, false);
            fits("before a b;", 100, 100, true);
            fits("before a b;", 100, 99, false);
            fits("before a b;", 0, 999, true);
            fits("before a b 999;", 0, 999, true);
            fits("before a b 999 999;", 0, 999, true);
            fits("before a b 999;", 0, 998, false);
            fits("before a b 999;", 1, 999, false);
            fits("before a b 0 998;", 0, 999, false);
            fits("before a b 0 998;", 1, 999, true);
            fits("before b a 10 20;", 110, 100, true);
            fits("before b a 10 20;", 109, 100, false);
        });

        Edge.sentence("promise 20, Terms 1", "1 SAME a b: YEARS are the same", () -> {
            fits("same a b;", 100, 100, true);
            fits("same a b;", 100, 99, false);
            fits("same a b;", 100, 101, false);
            fits("same b a;", 0, 0, true);
            fits("same b a;", 999, 999, true);
            fits("same b a;", 999, 0, false);
        });
    }

    private static void afterAndUntil() {
        Edge.sentence("promises 8 and 20, Terms 1", "2 AFTER a Y: Y at least", () -> {
            fits("after a 100;", 99, 0, false);
            fits("after a 100;", 100, 0, true);
            fits("after a 0;", 0, 5, true);
            fits("after a 999;", 999, 5, true);
            fits("after a 999;", 998, 5, false);
            CarbonDates x = Edge.plain("sample a 500 999;after a 0;");
            Edge.due("from the first year on", x.told(7), 1000);
            x.bounds(0, 2, 1);
            Edge.due("from the second year on", x.told(7), 999);
            x.bounds(0, 2, 999);
            Edge.due("from the last year on", x.told(7), 1);
        });

        Edge.sentence("promises 8 and 20, Terms 1", "3 UNTIL a Y: Y at most", () -> {
            fits("until a 100;", 101, 0, false);
            fits("until a 100;", 100, 0, true);
            fits("until a 0;", 0, 5, true);
            fits("until a 0;", 1, 5, false);
            fits("until a 999;", 999, 5, true);
            CarbonDates x = Edge.plain("sample a 500 999;until a 999;");
            Edge.due("to the last year", x.told(7), 1000);
            x.bounds(0, 3, 998);
            Edge.due("to the last but one", x.told(7), 999);
            x.bounds(0, 3, 0);
            Edge.due("to the first year", x.told(7), 1);
        });
    }

    private static void orderAndLasts() {
        Edge.sentence("promise 20, Terms 1", "4 ORDER p q L (PHASES): YEAR of each SAMPLE of q less that of each of p is L (0 to 999) at least", () -> {
            fits("order p q 10;", 100, 109, false);
            fits("order p q 10;", 100, 110, true);
            fits("order p q 10;", 0, 999, true);
            fits("order p q;", 100, 99, false);
            fits("order p q;", 100, 100, true);
            fits("order p q 0;", 100, 100, true);
            fits("order p q 1;", 100, 100, false);
            fits("order p q 999;", 0, 999, true);
            fits("order p q 999;", 0, 998, false);
            fits("order q p 10;", 110, 100, true);
            fits("order q p 10;", 109, 100, false);
        });

        Edge.sentence("promise 20, Terms 1", "5 LASTS p N: YEARS of no two SAMPLES of p are more than N (0 to 999) apart.", () -> {
            fits("lasts r 10;", 100, 110, true);
            fits("lasts r 10;", 100, 111, false);
            fits("lasts r 10;", 110, 100, true);
            fits("lasts r 10;", 111, 100, false);
            fits("lasts r 0;", 100, 100, true);
            fits("lasts r 0;", 100, 101, false);
            fits("lasts r 0;", 101, 100, false);
            fits("lasts r 999;", 0, 999, true);
            fits("lasts r 999;", 999, 0, true);
            fits("lasts r 998;", 0, 999, false);
            fits("lasts p 0;", 0, 999, true);
        });
    }

    // ---- Terms 2: narrowing

    private static void rounds() {
        Edge.sentence("promise 11, Terms 2", "ROUNDS go on until one of them changes nothing (that is counted, too).", () -> {
            Edge.due("no samples, no rules", new CarbonDates().told(6), 1);
            Edge.due("no rules", Edge.plain("sample a 100 5;").told(6), 1);
            Edge.due("a rule that changes nothing", Edge.plain("sample a 100 5;after a 95;").told(6), 1);
            Edge.due("a rule that takes out one year", Edge.plain("sample a 100 5;after a 96;").told(6), 2);
            Edge.due("a rule that takes out all", Edge.plain("sample a 100 5;after a 106;").told(6), 2);
            Edge.due("an empty first span", Edge.plain("sample a 9999 5;after a 106;").told(6), 1);
            Edge.due("two rules in order", Edge.plain("sample a 100 5;sample b 100 5;after a 96;same a b;").told(6), 2);
            Edge.due("two rules, the second for the first",
                    Edge.plain("sample a 100 5;sample b 100 5;same a b;after a 96;").told(6), 3);
            // twelve in a ring, told so that what goes gets on by two samples a round: about six rounds for the first year
            // and the last one of all; the plain model comes to as many
            StringBuilder lines = new StringBuilder();
            for (int k = 0; k < 12; k++) {
                lines.append("sample ").append((char) ('a' + k)).append(" 500 999;");
            }
            for (int k : new int[] {0, 2, 4, 6, 8, 10, 1, 3, 5, 7, 9}) {
                lines.append("before ").append((char) ('a' + k)).append(' ').append((char) ('b' + k)).append(';');
            }
            CarbonDates ring = Edge.plain(lines + "before l a 1;");
            Edge.due("of a ring of twelve", ring.told(6), 3002);
            Edge.due("years gone of a ring of twelve", ring.told(9), 12000);
            // in each round the first year and the last one of a and of b go
            Edge.due("500 that take out all, and one", Edge.plain("sample a 500 999;sample b 500 999;before a b 1;before b a;").told(6), 501);
        });
    }

    private static void yearsTakenOut() {
        Edge.sentence("promise 20, Terms 2", "of b those YEARS for which a has none that fits, then likewise of a, by b as it is then.", () -> {
            Edge.due("before a b: b is empty first", Edge.plain("sample a 200 0;sample b 100 0;before a b;").clash(1), 1);
            Edge.due("before b a: a is empty first", Edge.plain("sample a 100 0;sample b 200 0;before b a;").clash(1), 0);
            Edge.due("same a b: b is empty first", Edge.plain("sample a 100 0;sample b 200 0;same a b;").clash(1), 1);
            Edge.due("same b a: a is empty first", Edge.plain("sample a 100 0;sample b 200 0;same b a;").clash(1), 0);
            // a is of the years 5 to 10 and 12 to 25, b is of 15 to 18
            CarbonDates x = Edge.desk(GAP + "sample a 15 10;sample b 16 1;before a b 5 5;");
            Edge.due("b by the years of a: one lacking", x.sample(1, 4), 2);
            Edge.due("15 for 10", x.place(1, 15), 3);
            Edge.due("16 for 11", x.place(1, 16), 1);
            Edge.due("17 for 12", x.place(1, 17), 3);
            Edge.due("a by b as it is then", x.sample(0, 4), 2);
            Edge.due("10 for 15", x.place(0, 10), 3);
            Edge.due("12 for 17", x.place(0, 12), 3);
            Edge.due("13 for none", x.place(0, 13), 1);
            Edge.due("in one round", x.told(6), 2);
            x = Edge.desk(GAP + "sample a 15 10;sample b 16 1;before a b 5 6;");
            Edge.due("b by one year more: none lacking", x.sample(1, 4), 3);
            // a is of two years alone: what lies between what they leave of b goes, and is it but one year
            leaves("before a b 20 20;", 10, 12, 30, 32, 2);
            leaves("before a b 20 21;", 10, 12, 30, 33, 4);
            leaves("before a b 20 20;", 10, 13, 30, 33, 2);
            leaves("before a b 20 21;", 10, 13, 30, 34, 4);
            leaves("before a b 20 22;", 10, 13, 30, 35, 6);
            leaves("before a b 50 50;", 50, 150, 100, 200, 2);
            leaves("before a b 50 148;", 50, 150, 100, 298, 198);
            leaves("before a b 50 149;", 50, 150, 100, 299, 200);
            leaves("same a b;", 63, 65, 63, 65, 2);
            x = Edge.plain("sample a 5 5;sample b 995 4;before a b 999;");
            Edge.due("the first year and the last alone fit", x.told(7), 2);
            Edge.due("the first year", x.sample(0, 6), 0);
            Edge.due("the last year", x.sample(1, 5), 999);
        });

        Edge.sentence("promise 20, Terms 2", "ORDER: each SAMPLE of p in order with each of q in order", () -> {
            String four = "sample a 100 0;sample b 300 0;sample c 200 0;sample d 50 0;";
            Edge.due("p a b, q c d: a with d", Edge.plain(four + "phase p a b;phase q c d;order p q;").clash(1), 3);
            Edge.due("p b a, q c d: b with c", Edge.plain(four + "phase p b a;phase q c d;order p q;").clash(1), 2);
            Edge.due("p b, q d c: b with d", Edge.plain(four + "phase p b;phase q d c;order p q;").clash(1), 3);
        });

        Edge.sentence("promise 20, Terms 2", "LASTS: each SAMPLE of p with each one behind it in p.", () -> {
            String three = "sample a 100 0;sample b 105 0;sample c 200 0;";
            Edge.due("a b c: a with c", Edge.plain(three + "phase p a b c;lasts p 10;").clash(1), 2);
            Edge.due("c a b: c with a", Edge.plain(three + "phase p c a b;lasts p 10;").clash(1), 0);
            Edge.due("c b a: c with b", Edge.plain(three + "phase p c b a;lasts p 10;").clash(1), 1);
            Edge.due("one sample alone", Edge.plain(three + "phase p c;lasts p 0;").clash(1), -2);
        });
    }

    /** What a rule leaves of b, which is of all years, where a is of two years alone. */
    private static void leaves(String rule, int one, int other, int from, int to, int years) {
        java.util.TreeMap<Integer, Integer> ages = new java.util.TreeMap<>();
        for (int beside : new int[] {0, one - 1, one + 1, other - 1, other + 1, 999}) {
            ages.put(beside, 0);
        }
        ages.put(one, 900);
        ages.put(other, 900);
        StringBuilder curve = new StringBuilder("curve");
        ages.forEach((year, age) -> curve.append(curve.length() > 5 ? "," : " ").append(year).append(' ').append(age));
        CarbonDates x = Edge.desk(curve + ";sample a 900 0;sample b 500 999;" + rule);
        String what = rule + " a " + one + " and " + other;
        Edge.due(what + ": years of a", x.sample(0, 4), 2);
        Edge.due(what + ": from", x.sample(1, 5), from);
        Edge.due(what + ": to", x.sample(1, 6), to);
        Edge.due(what + ": years of b", x.sample(1, 4), years);
    }

    private static void orderWithItself() {
        Edge.sentence("promise 20, Terms 2", "(ORDER, a SAMPLE of both p and q with itself: all its YEARS go, if L is above 0, else nothing.)", () -> {
            String text = "sample a 100 5;sample b 500 5;phase p a b;phase q a;phase r b;";
            CarbonDates x = Edge.plain(text + "order q p 0;");
            Edge.due("L 0: years gone", x.told(9), 0);
            Edge.due("L 0: clash", x.clash(1), -2);
            x = Edge.plain(text + "order q p;");
            Edge.due("without L: years gone", x.told(9), 0);
            x = Edge.plain(text + "order q p 1;");
            Edge.due("L 1: empty ones", x.told(8), 2);
            Edge.due("L 1: clash's rule", x.clash(0), 0);
            Edge.due("L 1: clash's sample", x.clash(1), 0);
            Edge.due("L 1: years gone", x.rule(0, 5), 22);
            x = Edge.plain(text + "order p r 1;");
            Edge.due("L 1: those of a fit b", x.clash(1), 1);
            x = Edge.plain(text + "phase s a b;order p s 1;");
            Edge.due("L 1: all of both", x.told(8), 2);
            x = Edge.plain(text + "order q r 1;");
            Edge.due("no sample of both: years gone", x.told(9), 0);
        });
    }

    private static void gone() {
        Edge.sentence("promise 19, Terms 2", "GONE of a RULE: YEARS that it has taken out in all.", () -> {
            CarbonDates x = Edge.plain("sample a 100 5;sample b 100 5;same a b;after a 98;until b 101;");
            Edge.due("of both samples, in all rounds", x.rule(0, 5), 3 + 4);
            Edge.due("of the second rule", x.rule(1, 5), 3);
            Edge.due("of the third rule", x.rule(2, 5), 4);
            Edge.due("of all", x.told(9), 14);
            x = Edge.plain("sample a 500 999;sample b 500 999;before a b 1;before b a;");
            Edge.due("all years of two samples", x.told(9), 2000);
            x = Edge.plain("sample a 100 5;after a 0;");
            Edge.due("none", x.rule(0, 5), 0);
        });
    }

    private static void clash() {
        Edge.sentence("promise 20, Terms 2", "A CLASH: a SPAN is empty; the first one: where a SPAN was empty first "
                + "(a FIRST SPAN: by no RULE, the SAMPLE of the least number).", () -> {
            CarbonDates x = Edge.plain("sample a 100 0;sample b 9999 0;sample c 9999 0;after a 500;");
            Edge.due("a first span goes ahead of a rule", x.clash(0), CarbonDates.NONE);
            Edge.due("the least number of two", x.clash(1), 1);
            x = Edge.plain("sample a 9999 0;sample b 9999 0;");
            Edge.due("without rules", x.clash(0), CarbonDates.NONE);
            Edge.due("the least number there is", x.clash(1), 0);
            x = Edge.plain("sample a 100 0;sample b 100 0;after b 500;after a 500;");
            Edge.due("by the first rule, not of the first sample", x.clash(0) * 10 + x.clash(1), 1);
            x = Edge.plain("sample a 100 0;sample b 100 5;same a b;after b 101;");
            Edge.due("by the rule that left none", x.clash(0) * 10 + x.clash(1), 11);
            x = Edge.plain("sample a 100 5;after a 105;");
            Edge.due("one year is no clash", x.clash(0), -2);
            x.bounds(0, 3, 104);
            Edge.due("none is one", x.clash(0) * 10 + x.clash(1), 10);
            Edge.due("no samples, no clash", new CarbonDates().clash(1), -2);
        });
    }

    // ---- Terms 2: the trial

    private static void trial() {
        Edge.sentence("promises 28 and 29, Terms 2", "of each the YEARS of its SPAN from the least on, as long as it fits all RULES with those ahead", () -> {
            CarbonDates x = Edge.plain("sample a 999 999;sample b 100 5;before a b 90 95;");
            Edge.due("the least year there is", x.tried(0), 0);
            Edge.due("the least that fits", x.tried(1), 95);
            Edge.due("looks", x.trial(1), 2);
            x = Edge.plain("sample a 999 0;");
            Edge.due("the last year", x.tried(0), 999);
            Edge.due("one look", x.trial(1), 1);
        });

        Edge.sentence("promises 28 and 29, Terms 2", "(going back to the one ahead, if none does)", () -> {
            // d has no years, so all that fits of a, b, c is tried: of the 11 of a each one of b, of these each one of c
            CarbonDates x = Edge.plain("sample a 100 5;sample b 200 7;sample c 300 1;sample d 9999 0;same a b;");
            Edge.due("an empty one behind rules that leave none: no looks", x.trial(1), 0);
            x.drop(0);
            Edge.due("looks without a rule", x.trial(1), 11 + 11 * 15 + 11 * 15 * 3);
            // a of 98 to 102, b of 100 to 102, if no rule narrows them; those that fit one another open the 3 years of c
            String four = "sample a 100 2;sample b 101 1;sample c 500 1;sample d 9999 0;phase p a b;phase q b;phase r a;phase s b a;";
            looks(four + "before a b 2 3;", 3 + 3 * 3 + (2 + 2 + 1) * 3);
            looks(four + "before a b 1 2;before a b 2 3;", 3 + 3 * 3 + 3 * 3);
            looks(four + "before b a 0 1;", 3 + 3 * 3 + (1 + 2 + 2) * 3);
            looks(four + "same a b;", 3 + 3 * 3 + 3 * 3);
            looks(four + "same b a;", 3 + 3 * 3 + 3 * 3);
            looks(four + "order r q 1;", 4 + 4 * 3 + (3 + 3 + 2 + 1) * 3);
            looks(four + "order q r 1;", 2 + 2 * 2 + (1 + 2) * 3);
            looks(four + "lasts p 1;", 4 + 4 * 3 + (1 + 2 + 3 + 2) * 3);
            looks(four + "lasts s 1;", 4 + 4 * 3 + (1 + 2 + 3 + 2) * 3);
            looks(four + "lasts s 0;", 3 + 3 * 3 + 3 * 3);
            looks(four + "after a 101;", 2 + 2 * 3 + 2 * 3 * 3);
            looks(four + "order q p;", 3 + 3 * 3 + (1 + 2 + 3) * 3);
        });

        Edge.sentence("promise 28, Terms 2", "It ends with YEARS for all (or all tried, none)", () -> {
            CarbonDates x = Edge.plain("sample a 100 1;sample b 104 1;sample c 300 1;sample d 9999 0;before a b 3 4;");
            Edge.due("none", x.trial(0), 0);
            x.redate(3, 104, 0);
            Edge.due("years for all", x.trial(0), 1);
            Edge.due("the last of these", x.tried(3), 104);
            x = Edge.plain("sample a 9999 0;");
            Edge.due("none of none", x.trial(0), 0);
            Edge.due("looks of none", x.trial(1), 0);
            x = Edge.plain("sample a 100 0;sample b 9999 0;");
            Edge.due("none of one", x.trial(0), 0);
            Edge.due("looks of one", x.trial(1), 1);
        });
    }

    private static void looks(String lines, int looks) {
        Edge.due("looks of " + lines, Edge.plain(lines).trial(1), looks);
    }

    private static void givenUp() {
        Edge.sentence("promise 28, Terms 2", "or is GIVEN UP behind 20,000 LOOKS.", () -> {
            // 200 years of a, and 99 of b with each of them, and none of c
            CarbonDates x = Edge.plain("sample a 500 100;until a 599;sample b 700 49;sample c 9999 0;");
            Edge.due("20,000 that are all", x.trial(0), 0);
            Edge.due("looks", x.trial(1), 20000);
            Edge.due("none has a year", x.tried(0), CarbonDates.NONE);
            Edge.due("asked again", x.trial(0), 0);
            // 113 years of a, and 176 of b with each of them
            x = Edge.plain("sample a 300 56;sample b 600 88;until b 687;sample c 9999 0;");
            Edge.due("20,001 would be all", x.trial(0), -2);
            Edge.due("looks", x.trial(1), 20000);
            Edge.due("none has a year", x.tried(0), CarbonDates.NONE);
            Edge.due("none has a year, the last neither", x.tried(2), CarbonDates.NONE);
            // far more: 1,000 of each of eleven
            StringBuilder lines = new StringBuilder();
            for (char name = 'a'; name < 'a' + 11; name++) {
                lines.append("sample ").append(name).append(" 500 999;");
            }
            x = Edge.plain(lines + "sample z 9999 0;");
            Edge.due("no end in sight", x.trial(0), -2);
            Edge.due("looks", x.trial(1), 20000);
            x.redate(11, 500, 999);
            Edge.due("years for all of twelve", x.trial(0), 1);
            Edge.due("looks", x.trial(1), 12);
            Edge.due("year of the last", x.tried(11), 0);
        });
    }

    // ---- Terms 3

    private static void askedNothingChanges() {
        Edge.sentence("Terms 3", "Asked, nothing stays changed.", () -> {
            Edge.leavesAll("fault", CarbonDates::fault);
            Edge.leavesAll("told", x -> x.told(6));
            Edge.leavesAll("age", x -> x.age(0));
            Edge.leavesAll("years", x -> x.years(0, 0));
            Edge.leavesAll("knot", x -> x.knot(0, 0));
            Edge.leavesAll("sample", x -> x.sample(0, 9));
            Edge.leavesAll("interval", x -> x.interval(0, 0, 1));
            Edge.leavesAll("misfit", x -> x.misfit(1, 0));
            Edge.leavesAll("place", x -> x.place(0, 0));
            Edge.leavesAll("rule", x -> x.rule(1, 5));
            Edge.leavesAll("clash", x -> x.clash(0));
            Edge.leavesAll("blame", CarbonDates::blame);
            Edge.leavesAll("needless", CarbonDates::needless);
            Edge.leavesAll("without", x -> x.without(0, 0));
            Edge.leavesAll("without the last", x -> x.without(1, 2));
            Edge.leavesAll("pinned", x -> x.pinned(0, 0, 0));
            Edge.leavesAll("pinned at the last", x -> x.pinned(1, 999, 1));
            Edge.leavesAll("doomed", x -> x.doomed(0));
            Edge.leavesAll("phase", x -> x.phase(0, 3));
            Edge.leavesAll("member", x -> x.member(0, 6));
            Edge.leavesAll("trial", x -> x.trial(0));
            Edge.leavesAll("tried", x -> x.tried(1));
            Edge.leavesAll("loosened", CarbonDates::loosened);
            Edge.leavesAll("shifted", CarbonDates::shifted);
            Edge.leavesAll("print", CarbonDates::print);
            Edge.leavesAll("status", x -> x.status(-1));
        });
    }
}
