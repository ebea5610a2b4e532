import java.util.NoSuchElementException;

/** Long runs of calls, made by rote, answered by the class as by the model. */
public final class ModelTest {
    private static final String[] NAMES = {"a", "b", "c", "d", "e", "f", "rings", "curve", "order", "abcdef", "p", "q",
        "r", "s", "sigma", "x", "phase"};
    /** What later calls answer is free. */
    private static final int MOST_CALLS = 512;
    private long seed;
    private int calls = 0;
    private final StringBuilder story = new StringBuilder();

    private ModelTest(long seed) {
        this.seed = seed * 7919 + 1;
    }

    public static void main(String[] args) {
        int runs = args.length > 0 ? Integer.parseInt(args[0]) : 300;
        int from = args.length > 1 ? Integer.parseInt(args[1]) : 0;
        for (int run = from; run < from + runs && Desks.wrong == 0; run++) {
            new ModelTest(run).run();
        }
        Desks.end("ModelTest");
    }

    private int below(int n) {
        seed = seed * 6364136223846793005L + 1442695040888963407L;
        return (int) ((seed >>> 33) % n);
    }

    private boolean once(int in) {
        return below(in) == 0;
    }

    private int within(int from, int to) {
        return from + below(to - from + 1);
    }

    // ---- texts

    private int samples;
    private int phases;
    private int centre;
    private boolean sigmaTold;
    private boolean reserveTold;

    private String makeText() {
        StringBuilder text = new StringBuilder("curve ");
        centre = within(500, 4000);
        int knots = once(20) ? within(14, 17) : within(2, 6);
        int year = once(3) ? 0 : below(200);
        for (int k = 0; k < knots; k++) {
            text.append(k > 0 ? "," : "").append(year).append(' ').append(centre + within(-200, 200));
            year += within(once(10) ? 0 : 1, 2 * 999 / knots);
            year = k + 2 >= knots && year > 999 && !once(10) ? 999 : year;
        }
        text.append(';');
        int lines = once(12) ? within(20, 45) : within(2, 14);
        samples = 0;
        phases = 0;
        sigmaTold = false;
        reserveTold = false;
        int kinds = below(3);
        for (int k = 0; k < lines; k++) {
            text.append(line(k, kinds));
        }
        if (once(4)) {
            spoil(text);
        }
        return text.length() > 500 ? text.substring(0, text.lastIndexOf(";", 499) + 1) : text.toString();
    }

    private String sampleName() {
        return samples > 0 && !once(60) ? "" + (char) ('a' + below(samples)) : NAMES[below(NAMES.length)];
    }

    private String phaseName() {
        return phases > 0 && !once(60) ? "" + (char) ('p' + below(phases)) : NAMES[below(NAMES.length)];
    }

    /** Two names that differ, if there are two, but now and then. */
    private String two(boolean ofPhases) {
        String first = ofPhases ? phaseName() : sampleName();
        String second = first;
        for (int k = 0; k < (once(40) ? 1 : 9) && second.equals(first); k++) {
            second = ofPhases ? phaseName() : sampleName();
        }
        return first + " " + second;
    }

    private String line(int k, int kinds) {
        String blank = once(8) ? "  " : " ";
        int kind = k < 3 ? below(2) : k == 3 ? 2 : k == 4 ? within(4, 10) : below(14);
        if (!once(40) && ((kind == 9 && phases < 2) || (kind == 11 && phases < 1))) {
            kind = 10;
        }
        if (!once(40) && ((kind == 2 || kind == 10) && phases == 4 || (kind == 0 || kind == 1 || kind == 3) && samples == 12)) {
            kind = 4;
        }
        boolean sigmaAnew = kind == 12 && sigmaTold;
        boolean reserveAnew = kind == 13 && reserveTold;
        sigmaTold |= kind == 12;
        reserveTold |= kind == 13;
        String wide = kinds == 0 ? "" + within(0, 20) : kinds == 1 ? "" + within(0, 300) : "" + within(0, 60);
        switch (kind) {
            case 0:
            case 3:
                String name = once(60) ? NAMES[below(NAMES.length)] : "" + (char) ('a' + samples);
                samples++;
                return "sample " + name + blank + (centre + within(-150, 150)) + blank + (once(3) ? 0 : within(0, 40)) + ";";
            case 1:
                StringBuilder rings = new StringBuilder("rings ").append((char) ('a' + samples)).append(blank)
                        .append(within(0, 30));
                samples++;
                int place = below(20);
                int count = once(20) ? 7 : within(1, 5);
                for (int r = 0; r < count; r++) {
                    rings.append(r > 0 ? "," : " ").append(place).append(' ').append(centre + within(-150, 150));
                    place += within(once(30) ? 0 : 1, 40);
                }
                return rings + ";";
            case 2:
            case 10:
                StringBuilder phase = new StringBuilder("phase ").append((char) ('p' + phases)).append(blank);
                phases++;
                int size = once(20) ? 7 : within(1, 4);
                for (int s = 0; s < size; s++) {
                    if (samples > s || once(40)) {
                        phase.append(' ').append(!once(40) ? "" + (char) ('a' + (s + k) % samples) : sampleName());
                    }
                }
                return phase + ";";
            case 4:
            case 5:
                int least = Integer.parseInt(wide) / 3;
                String numbers = once(3) ? "" : once(2) ? " " + least : " " + least + " " + (least + (once(3) ? 0 : within(once(20) ? -1 : 0, 60)));
                return "before " + two(false) + numbers + ";";
            case 6:
                return "same " + two(false) + ";";
            case 7:
                return "after " + sampleName() + " " + within(0, once(20) ? 1000 : 500) + ";";
            case 8:
                return "until " + sampleName() + " " + within(400, 999) + ";";
            case 9:
                return "order " + two(true) + (once(2) ? "" : " " + wide) + " ;";
            case 11:
                return "lasts " + phaseName() + " " + wide + ";";
            case 12:
                return !sigmaAnew || once(40) ? " sigma " + within(once(20) ? 0 : 1, 3) + ";" : "";
            default:
                return !reserveAnew || once(40) ? "reserve" + (once(2) ? " - " : " ") + within(0, once(20) ? 600 : 60) + "; " : "";
        }
    }

    private void spoil(StringBuilder text) {
        int at = below(text.length());
        String signs = " ;,-az09A\u00ff";
        switch (below(5)) {
            case 0:
                text.deleteCharAt(at);
                break;
            case 1:
                text.insert(at, signs.charAt(below(signs.length())));
                break;
            case 2:
                text.setCharAt(at, signs.charAt(below(signs.length())));
                break;
            case 3:
                text.setLength(at);
                break;
            default:
                int until = Math.min(text.length(), at + within(1, 12));
                text.insert(below(text.length()), text.substring(at, until));
                break;
        }
    }

    // ---- calls

    private interface Face {
        long call(int f, int[] p);
    }

    private static long byClass(CarbonDates x, int f, int[] p) {
        switch (f) {
            case 0: return x.feed(p[0], p[1], p[2], p[3], p[4]);
            case 1: return x.text(p[0]);
            case 2: return x.fault();
            case 3: return x.set(p[0], p[1]);
            case 4: return x.redate(p[0], p[1], p[2]);
            case 5: return x.before(p[0], p[1], p[2], p[3]);
            case 6: return x.bounds(p[0], p[1], p[2]);
            case 7: return x.drop(p[0]);
            case 8: return x.undo();
            case 9: return x.told(p[0]);
            case 10: return x.age(p[0]);
            case 11: return x.years(p[0], p[1]);
            case 12: return x.knot(p[0], p[1]);
            case 13: return x.sample(p[0], p[1]);
            case 14: return x.interval(p[0], p[1], p[2]);
            case 15: return x.misfit(p[0], p[1]);
            case 16: return x.place(p[0], p[1]);
            case 17: return x.rule(p[0], p[1]);
            case 18: return x.clash(p[0]);
            case 19: return x.blame();
            case 20: return x.needless();
            case 21: return x.without(p[0], p[1]);
            case 22: return x.pinned(p[0], p[1], p[2]);
            case 23: return x.doomed(p[0]);
            case 24: return x.phase(p[0], p[1]);
            case 25: return x.member(p[0], p[1]);
            case 26: return x.trial(p[0]);
            case 27: return x.tried(p[0]);
            case 28: return x.loosened();
            case 29: return x.shifted();
            case 30: return x.print();
            default: return x.status(p[0]);
        }
    }

    private static long byModel(Model x, int f, int[] p) {
        switch (f) {
            case 0: return x.feed(p);
            case 1: return x.text(p[0]);
            case 2: return x.faultPlace;
            case 3: return x.set(p[0], p[1]);
            case 4: return x.redate(p[0], p[1], p[2]);
            case 5: return x.before(p[0], p[1], p[2], p[3]);
            case 6: return x.bounds(p[0], p[1], p[2]);
            case 7: return x.drop(p[0]);
            case 8: return x.undo();
            case 9: return x.told(p[0]);
            case 10: return x.age(p[0]);
            case 11: return x.years(p[0], p[1]);
            case 12: return x.knot(p[0], p[1]);
            case 13: return x.sample(p[0], p[1]);
            case 14: return x.interval(p[0], p[1], p[2]);
            case 15: return x.misfit(p[0], p[1]);
            case 16: return x.place(p[0], p[1]);
            case 17: return x.rule(p[0], p[1]);
            case 18: return x.clash(p[0]);
            case 19: return x.blame();
            case 20: return x.needless();
            case 21: return x.without(p[0], p[1]);
            case 22: return x.pinned(p[0], p[1], p[2]);
            case 23: return x.doomed(p[0]);
            case 24: return x.phase(p[0], p[1]);
            case 25: return x.member(p[0], p[1]);
            case 26: return x.trial(p[0]);
            case 27: return x.tried(p[0]);
            case 28: return x.loosened();
            case 29: return x.shifted();
            case 30: return x.print();
            default: return x.status(p[0]);
        }
    }

    private static final String[] CALLS = {"feed", "text", "fault", "set", "redate", "before", "bounds", "drop", "undo",
        "told", "age", "years", "knot", "sample", "interval", "misfit", "place", "rule", "clash", "blame", "needless",
        "without", "pinned", "doomed", "phase", "member", "trial", "tried", "loosened", "shifted", "print", "status"};

    private static String answer(Face face, int f, int[] p) {
        try {
            return "" + face.call(f, p);
        } catch (NoSuchElementException e) {
            return "throws.NoSuchElementException";
        } catch (IllegalArgumentException e) {
            return "throws.IllegalArgumentException";
        } catch (IllegalStateException e) {
            return "throws.IllegalStateException";
        }
    }

    private final CarbonDates desk = new CarbonDates();
    private final Model model = new Model();

    private void call(int f, int... p) {
        calls++;
        if (calls > MOST_CALLS) {
            return;
        }
        String want = answer((g, q) -> byModel(model, g, q), f, p);
        String got = answer((g, q) -> byClass(desk, g, q), f, p);
        story.append(CALLS[f]).append(java.util.Arrays.toString(p)).append(" -> ").append(want).append('\n');
        if (!got.equals(want) && Desks.wrong == 0) {
            Desks.wrong++;
            System.out.println(story);
            System.out.println("the last call answered " + got);
        }
    }

    private void tellText() {
        String text = makeText();
        story.append("text: ").append(text).append('\n');
        for (int at = 0; at < text.length(); at += 20) {
            call(0, Desks.number(text, at), Desks.number(text, at + 4), Desks.number(text, at + 8),
                    Desks.number(text, at + 12), Desks.number(text, at + 16));
        }
        if (once(10)) {
            call(1, once(2) ? -1 : 501);
        }
        call(1, text.length());
        call(2);
    }

    private int aSample() {
        return once(25) ? within(-1, 13) : below(Math.max(1, model.told.samples().size()));
    }

    private int aRule() {
        return once(25) ? within(-1, 25) : below(Math.max(1, model.told.rules().size()));
    }

    private int aPhase() {
        return once(25) ? within(-1, 4) : below(Math.max(1, model.told.phases().size()));
    }

    private int what(int most) {
        return once(25) ? within(-1, most + 1) : within(0, most);
    }

    private int aYear() {
        return once(25) ? once(2) ? -1 : 1000 : within(0, 999);
    }

    private void change() {
        switch (below(9)) {
            case 0:
                call(3, what(1), once(4) ? within(0, 4) : within(once(9) ? -501 : -60, once(9) ? 501 : 60));
                break;
            case 1:
                call(3, 0, within(once(20) ? 0 : 1, once(20) ? 4 : 3));
                break;
            case 2:
                call(4, aSample(), once(20) ? 10000 : centre + within(-150, 150), once(20) ? -1 : within(0, 50));
                break;
            case 3:
            case 4:
                int least = within(once(20) ? -1 : 0, once(5) ? 500 : 30);
                call(5, aSample(), aSample(), least, once(3) ? 999 : least + (once(3) ? 0 : within(once(20) ? -1 : 0, 80)));
                break;
            case 5:
                call(6, aSample(), once(20) ? 1 : within(2, 3), aYear());
                break;
            case 6:
                call(7, aRule());
                break;
            default:
                call(8);
                break;
        }
    }

    private void ask() {
        switch (below(60)) {
            case 0: call(20); break;
            case 1: case 2: call(19); break;
            case 3: call(23, aSample()); break;
            case 4: if (once(3)) { call(29); } break;
            case 5: call(28); break;
            case 6: call(26, what(1)); break;
            case 7: call(27, aSample()); break;
            case 8: case 9: case 10: call(21, aRule(), what(2)); break;
            case 11: case 12: case 13: call(22, aSample(), aYear(), what(2)); break;
            case 14: case 15: case 16: call(24, aPhase(), what(4)); break;
            case 17: call(25, aPhase(), within(-1, 6)); break;
            case 18: case 19: call(30); break;
            case 20: call(31, within(-1, 3)); break;
            case 21: case 22: call(18, what(1)); break;
            case 23: case 24: case 25: call(17, aRule(), what(5)); break;
            case 26: case 27: call(16, aSample(), aYear()); break;
            case 28: case 29: call(15, aSample(), aYear()); break;
            case 30: case 31: call(14, aSample(), within(once(9) ? -1 : 0, 3), what(1)); break;
            case 32: call(12, within(-1, 6), what(1)); break;
            case 33: call(11, once(9) ? -1 : centre + within(-150, 150), what(2)); break;
            case 34: call(10, aYear()); break;
            case 35: case 36: case 37: case 38: call(9, what(11)); break;
            case 39: call(2); break;
            default: call(13, aSample(), what(9)); break;
        }
    }

    private static final int[] WILD = {Integer.MIN_VALUE, -10000, -1001, -501, -2, -1, 0, 1, 2, 3, 4, 5, 11, 12, 13, 23,
        24, 25, 31, 32, 64, 499, 500, 501, 998, 999, 1000, 1001, 1023, 1024, 9999, 10000, 65536, Integer.MAX_VALUE};

    private int wild() {
        return WILD[below(WILD.length)];
    }

    /** Any call with any arguments; a call that the machine itself refuses ends the test. */
    private void callWildly() {
        int f = below(CALLS.length);
        call(CALLS[f].equals("shifted") || CALLS[f].equals("text") ? 9 : f, once(2) ? aSample() : wild(), wild(), wild(),
                wild(), wild());
    }

    private void askAll() {
        for (int what = 0; what < 12; what++) {
            call(9, what);
        }
        for (int r = 0; r < model.told.rules().size(); r++) {
            call(17, r, 5);
        }
        call(18, 0);
        call(18, 1);
        call(30);
    }

    private void run() {
        call(30);
        for (int told = within(1, 4); told > 0 && Desks.wrong == 0; told--) {
            tellText();
            askAll();
            for (int k = within(1, 25); k > 0 && calls < MOST_CALLS && Desks.wrong == 0; k--) {
                if (once(3)) {
                    change();
                    askAll();
                }
                ask();
                if (once(4)) {
                    callWildly();
                }
            }
        }
        for (int what = 0; what < 3; what++) {
            call(31, what);
        }
    }
}
