import java.util.NoSuchElementException;

/** What the tests of edges share: the sentence under test, texts with a marked fault, and what a refused call leaves. */
final class Edge {
    /** By this curve each year's age is the year itself. */
    static final String PLAIN = "curve 0 0,999 999;";

    /** What the busy desk has on its tape, a text by itself. */
    static final String TAPED = "curve 0 5,999 9;    ";

    private static String sentence = "";
    private static int sentences = 0;

    private Edge() { }

    interface Ask {
        long of(CarbonDates desk);
    }

    interface Maker {
        CarbonDates desk();
    }

    /** A test of its own for a sentence of the document; all that is not as due is told with the sentence. */
    static void sentence(String promise, String words, Runnable test) {
        sentence = promise + ", \"" + words + "\": ";
        sentences++;
        try {
            test.run();
        } catch (RuntimeException e) {
            Desks.wrong++;
            System.out.println(sentence + "a call threw " + e);
        }
    }

    static void end(String name) {
        System.out.println(name + ": " + sentences + " sentences");
        Desks.end(name);
    }

    static void due(String what, long got, long want) {
        Desks.due(sentence + what, got, want);
    }

    static CarbonDates desk(String text) {
        return Desks.desk(text);
    }

    static CarbonDates plain(String lines) {
        return Desks.desk(PLAIN + lines);
    }

    // ---- texts

    /** A text without a fault, on a new desk. */
    static CarbonDates tells(int samples, String text) {
        CarbonDates x = new CarbonDates();
        due(text, Desks.tell(x, text), samples);
        due("fault() of " + text, x.fault(), CarbonDates.NONE);
        return x;
    }

    static CarbonDates tellsLines(int samples, String lines) {
        return tells(samples, PLAIN + lines);
    }

    /** A text with a fault at the mark ^, which is no part of it. */
    static void faulty(int fault, String marked) {
        int place = marked.indexOf('^');
        String text = marked.substring(0, place) + marked.substring(place + 1);
        CarbonDates x = new CarbonDates();
        String before = picture(x);
        due(text, Desks.tell(x, text), fault - 10);
        due("fault() of " + text, x.fault(), place);
        same("after " + text, picture(x), before);
    }

    static void faultyLines(int fault, String marked) {
        faulty(fault, PLAIN + marked);
    }

    // ---- what is there

    /** A desk with something of all that a call might touch: samples, a phase, rules, a fault, what can be taken back, a tape. */
    static CarbonDates busy() {
        CarbonDates x = plain("sample a 100 10;rings b 5 0 105,10 115;phase p a b;before a b 1 9;until b 110;");
        Desks.tell(x, PLAIN + "sample a x 1;");
        x.set(1, 3);
        Desks.feed(x, TAPED);
        return x;
    }

    /** A busy desk with the 24 rules that there can be. */
    static CarbonDates full() {
        CarbonDates x = busy();
        for (int rule = 2; rule < 24; rule++) {
            x.bounds(0, 2, 0);
        }
        return x;
    }

    /** All that stands on a desk, but the place of a fault, and how many calls were refused. */
    static String picture(CarbonDates x) {
        StringBuilder all = new StringBuilder();
        for (int what = 0; what <= 11; what++) {
            all.append(x.told(what)).append(' ');
        }
        all.append(x.print()).append(" clash ").append(x.clash(0)).append(' ').append(x.clash(1));
        int knots = x.told(0);
        int samples = x.told(1);
        int phases = x.told(2);
        int rules = x.told(3);
        for (int k = 0; k < knots; k++) {
            all.append(" knot ").append(x.knot(k, 0)).append(' ').append(x.knot(k, 1));
        }
        for (int s = 0; s < samples; s++) {
            row(all, "sample", s, 9, x::sample);
        }
        for (int p = 0; p < phases; p++) {
            row(all, "phase", p, 4, x::phase);
            row(all, "members", p, 5, x::member);
        }
        for (int r = 0; r < rules; r++) {
            row(all, "rule", r, 5, x::rule);
        }
        return all.toString();
    }

    private interface Of {
        int call(int which, int what);
    }

    private static void row(StringBuilder all, String of, int which, int most, Of asked) {
        all.append(' ').append(of);
        for (int what = 0; what <= most; what++) {
            all.append(' ').append(asked.call(which, what));
        }
    }

    static void same(String what, String got, String want) {
        if (!got.equals(want)) {
            Desks.wrong++;
            System.out.println(sentence + what + ": there is\n  " + got + "\n, due is\n  " + want);
        }
    }

    private static void alike(String what, CarbonDates x, CarbonDates twin) {
        same(what, picture(x), picture(twin));
        due(what + ": fault()", x.fault(), twin.fault());
    }

    /** Looks at two desks that are to be alike, takes back the latest of each, has the tape told on each. */
    private static void alikeFromNowOn(String what, CarbonDates x, CarbonDates twin) {
        alike(what + ": then", x, twin);
        due(what + ": then undo()", x.undo(), twin.undo());
        alike(what + ": undone", x, twin);
        due(what + ": then text()", x.text(TAPED.length()), twin.text(TAPED.length()));
        alike(what + ": told anew", x, twin);
    }

    // ---- calls

    /** A call that is refused leaves all as it was but one count. */
    static void refused(String what, String exception, Ask call) {
        refused(what, exception, Edge::busy, call);
    }

    static void refused(String what, String exception, Maker maker, Ask call) {
        CarbonDates x = maker.desk();
        CarbonDates twin = maker.desk();
        Desks.refused(sentence + what, exception, () -> call.of(x));
        String[] reasons = {Desks.NO_SUCH, Desks.ILLEGAL, Desks.STATE};
        for (int k = 0; k < reasons.length; k++) {
            due(what + ": then status(" + k + ")", x.status(k), reasons[k].equals(exception) ? 1 : 0);
        }
        alikeFromNowOn(what, x, twin);
    }

    static void noSuch(String what, Ask call) {
        refused(what, Desks.NO_SUCH, call);
    }

    static void illegal(String what, Ask call) {
        refused(what, Desks.ILLEGAL, call);
    }

    /** A call that is answered leaves all as it was, the counts too. */
    static void leavesAll(String what, Ask call) {
        CarbonDates x = busy();
        CarbonDates twin = busy();
        String thrown = "nothing";
        try {
            call.of(x);
        } catch (NoSuchElementException | IllegalArgumentException | IllegalStateException e) {
            thrown = e.getClass().getSimpleName();
        }
        same(what + " throws", thrown, "nothing");
        for (int k = 0; k < 3; k++) {
            due(what + ": then status(" + k + ")", x.status(k), 0);
        }
        alikeFromNowOn(what, x, twin);
    }
}
