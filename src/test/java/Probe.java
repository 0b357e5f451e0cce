import java.nio.charset.StandardCharsets;

/** A StreamQueries object with calls in the form that tests want, and a count of what went wrong. */
final class Probe {
    private static int wrong = 0;
    private static int checked = 0;
    StreamQueries x = new StreamQueries();

    /** Ends the test: exit code 1 if anything went wrong. */
    static void end(String test) {
        System.out.println(test + ": " + checked + " checks, " + wrong + " wrong");
        if (wrong > 0) {
            System.exit(1);
        }
    }

    static void due(String what, long got, long want) {
        checked++;
        if (got != want) {
            wrong++;
            System.out.println(what + " answered " + got + ", due is " + want);
        }
    }

    static void due(String what, boolean got, boolean want) {
        due(what, got ? 1 : 0, want ? 1 : 0);
    }

    static void due(String what, String got, String want) {
        checked++;
        if (!got.equals(want)) {
            wrong++;
            System.out.println(what + " answered " + got + ", due is " + want);
        }
    }

    /** Streams with so many columns each. */
    Probe streams(int... columns) {
        for (int c : columns) {
            x.stream(c);
        }
        return this;
    }

    /** Puts a text on the tape behind what is there. */
    void tape(String text) {
        byte[] bytes = text.getBytes(StandardCharsets.ISO_8859_1);
        int size = 0;
        for (int i = 0; i < bytes.length; i += 20) {
            int[] five = new int[5];
            for (int j = 0; j < 20; j++) {
                int b = i + j < bytes.length ? bytes[i + j] & 255 : 0;
                five[j / 4] = five[j / 4] << 8 | b;
            }
            size = x.feed(five[0], five[1], five[2], five[3], five[4]);
        }
        int spare = (20 - bytes.length % 20) % 20;
        if (spare > 0) {
            x.cut(size - spare);
        }
    }

    int ask(String text) {
        x.cut(0);
        tape(text);
        return x.query();
    }

    /** A text that is well: so many columns. */
    void well(String text, int columns) {
        due("query of " + text, ask(text), columns);
        due("fault of " + text, x.fault(), 0);
    }

    /** A text with a fault, at a place. */
    void bad(String text, int fault, int place) {
        due("query of " + text, ask(text), -10 - place);
        due("fault of " + text, x.fault(), fault);
    }

    /** A text with one '@': the fault is at the token behind it. */
    void faulty(int fault, String text) {
        int place = text.indexOf('@');
        bad(text.substring(0, place) + text.substring(place + 1), fault, place);
    }

    /** A row of values; null is NULL. */
    int row(int stream, long time, Object... values) {
        for (Object v : values) {
            if (v == null) {
                x.nothing();
            } else {
                x.value(((Number) v).longValue());
            }
        }
        return x.row(stream, time);
    }

    /** The answer, as 1,2;1,null; and so on. */
    String answer() {
        StringBuilder all = new StringBuilder();
        for (int i = 0; i < x.rows(); i++) {
            for (int c = 0; x.type(c) != 0; c++) {
                all.append(c > 0 ? "," : "");
                all.append(x.isNull(i, c) ? "null" : String.valueOf(x.at(i, c)));
            }
            all.append(";");
        }
        return all.toString();
    }

    /** The changes, as -1:1,2;+2:1,null; and so on. */
    String changes() {
        StringBuilder all = new StringBuilder();
        for (int i = 0; i < x.changes(); i++) {
            all.append(x.change(i) > 0 ? "+" : "").append(x.change(i)).append(":");
            for (int c = 0; x.type(c) != 0; c++) {
                all.append(c > 0 ? "," : "");
                all.append(x.changedNull(i, c) ? "null" : String.valueOf(x.changed(i, c)));
            }
            all.append(";");
        }
        return all.toString();
    }

    void answers(String text, String want) {
        int got = ask(text);
        if (got < 0) {
            due("query of " + text, "fault " + x.fault() + " at " + (-10 - got), want);
        } else {
            due("answer of " + text, answer(), want);
        }
    }
}
