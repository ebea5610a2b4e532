import java.util.NoSuchElementException;

/** What the tests share: texts put on the tape, and answers compared with those that are due. */
final class Desks {
    static int wrong = 0;

    private Desks() { }

    interface Call {
        long answer();
    }

    /** Puts a text on the tape, twenty bytes a call, and has it told. */
    static int tell(CarbonDates desk, String text) {
        feed(desk, text);
        return desk.text(text.length());
    }

    static void feed(CarbonDates desk, String text) {
        for (int at = 0; at < text.length(); at += 20) {
            desk.feed(number(text, at), number(text, at + 4), number(text, at + 8),
                    number(text, at + 12), number(text, at + 16));
        }
    }

    static int number(String text, int at) {
        int number = 0;
        for (int k = at; k < at + 4; k++) {
            number = number << 8 | (k < text.length() ? text.charAt(k) : 0);
        }
        return number;
    }

    static CarbonDates desk(String text) {
        CarbonDates desk = new CarbonDates();
        int answer = tell(desk, text);
        if (answer < 0) {
            wrong++;
            System.out.println("a text was refused by fault " + (answer + 10) + " at " + desk.fault() + ": " + text);
        }
        return desk;
    }

    static void due(String what, long got, long want) {
        if (got != want) {
            wrong++;
            System.out.println(what + ": answered " + got + ", due is " + want);
        }
    }

    static final String NO_SUCH = "NoSuchElementException";
    static final String ILLEGAL = "IllegalArgumentException";
    static final String STATE = "IllegalStateException";

    static void refused(String what, String exception, Call call) {
        String thrown = "nothing";
        try {
            call.answer();
        } catch (NoSuchElementException e) {
            thrown = NO_SUCH;
        } catch (IllegalArgumentException e) {
            thrown = ILLEGAL;
        } catch (IllegalStateException e) {
            thrown = STATE;
        }
        if (!thrown.equals(exception)) {
            wrong++;
            System.out.println(what + ": threw " + thrown + ", due is " + exception);
        }
    }

    static void end(String name) {
        System.out.println(name + ": " + (wrong == 0 ? "all answers are as due" : wrong + " answers are not as due"));
        if (wrong != 0) {
            System.exit(1);
        }
    }
}
