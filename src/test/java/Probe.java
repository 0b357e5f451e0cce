import java.nio.charset.StandardCharsets;
import java.util.ArrayList;
import java.util.List;
import java.util.function.ToLongFunction;

/** A StreamQueries object with calls in the form that tests want, and a count of what went wrong. */
final class Probe {
    private static int wrong = 0;
    private static int checked = 0;
    final Calls x = new Calls();

    /** Ends the test: exit code 1 if anything went wrong. */
    static void end(String test) {
        System.out.println(test + ": " + checked + " checks, " + wrong + " wrong");
        if (wrong > 0) {
            System.exit(1);
        }
    }

    static void due(String what, long got, long want) {
        checked++;
        if (got != want) {
            wrong++;
            System.out.println(what + " answered " + got + ", due is " + want);
        }
    }

    static void due(String what, boolean got, boolean want) {
        due(what, got ? 1 : 0, want ? 1 : 0);
    }

    static void due(String what, String got, String want) {
        checked++;
        if (!got.equals(want)) {
            wrong++;
            System.out.println(what + " answered " + got + ", due is " + want);
        }
    }

    /** Streams with so many columns each. */
    Probe streams(int... columns) {
        for (int c : columns) {
            x.stream(c);
        }
        return this;
    }

    /** The twenty bytes of a text from one on, as feed() wants them; 0 behind its end. */
    static int[] five(String text, int from) {
        byte[] bytes = text.getBytes(StandardCharsets.ISO_8859_1);
        int[] five = new int[5];
        for (int i = 0; i < 20; i++) {
            int b = from + i < bytes.length ? bytes[from + i] & 255 : 0;
            five[i / 4] = five[i / 4] << 8 | b;
        }
        return five;
    }

    /** Puts a text on the tape behind what is there. */
    void tape(String text) {
        int size = 0;
        for (int i = 0; i < text.length(); i += 20) {
            int[] five = five(text, i);
            size = x.feed(five[0], five[1], five[2], five[3], five[4]);
        }
        int spare = (20 - text.length() % 20) % 20;
        if (spare > 0) {
            x.cut(size - spare);
        }
    }

    int ask(String text) {
        x.cut(0);
        tape(text);
        return x.query();
    }

    /** A text that is well: so many columns. */
    void well(String text, int columns) {
        due("query of " + text, ask(text), columns);
        due("fault of " + text, x.fault(), 0);
    }

    /** A text with a fault, at a place. */
    void bad(String text, int fault, int place) {
        due("query of " + text, ask(text), -10 - place);
        due("fault of " + text, x.fault(), fault);
    }

    /** A text with one '@': the fault is at the token behind it. */
    void faulty(int fault, String text) {
        int place = text.indexOf('@');
        bad(text.substring(0, place) + text.substring(place + 1), fault, place);
    }

    /** A row of values; null is NULL. */
    int row(int stream, long time, Object... values) {
        for (Object v : values) {
            if (v == null) {
                x.nothing();
            } else {
                x.value(((Number) v).longValue());
            }
        }
        return x.row(stream, time);
    }

    /** The answer, as 1,2;1,null; and so on. */
    String answer() {
        StringBuilder all = new StringBuilder();
        for (int i = 0; i < x.rows(); i++) {
            for (int c = 0; x.type(c) != 0; c++) {
                all.append(c > 0 ? "," : "");
                all.append(x.isNull(i, c) ? "null" : String.valueOf(x.at(i, c)));
            }
            all.append(";");
        }
        return all.toString();
    }

    /** The changes, as -1:1,2;+2:1,null; and so on. */
    String changes() {
        StringBuilder all = new StringBuilder();
        for (int i = 0; i < x.changes(); i++) {
            all.append(x.change(i) > 0 ? "+" : "").append(x.change(i)).append(":");
            for (int c = 0; x.type(c) != 0; c++) {
                all.append(c > 0 ? "," : "");
                all.append(x.changedNull(i, c) ? "null" : String.valueOf(x.changed(i, c)));
            }
            all.append(";");
        }
        return all.toString();
    }

    void answers(String text, String want) {
        int got = ask(text);
        if (got < 0) {
            due("query of " + text, "fault " + x.fault() + " at " + (-10 - got), want);
        } else {
            due("answer of " + text, answer(), want);
        }
    }
}

/**
 * The calls of StreamQueries, on objects none of which gets more than the 512 calls that are promised: behind these a new
 * one is brought to where the old one was, by the calls that matter still.
 */
final class Calls {
    private static final int MOST = 512;

    private enum Kind { WELL, FAULTY, OTHER }

    /** A query is one act with the calls that made its tape: what is on the tape matters to nothing else. */
    private record Act(Kind kind, List<ToLongFunction<StreamQueries>> calls) { }

    private StreamQueries x = new StreamQueries();
    private int count;
    private final List<Act> acts = new ArrayList<>();
    private List<ToLongFunction<StreamQueries>> tape = new ArrayList<>();

    private long call(ToLongFunction<StreamQueries> call) {
        if (count >= MOST) {
            renew();
        }
        count++;
        return call.applyAsLong(x);
    }

    private void renew() {
        x = new StreamQueries();
        count = 0;
        for (Act act : acts) {
            again(act.calls());
        }
        again(tape);
        if (count >= MOST) {
            throw new IllegalStateException("a test makes a run of more than 512 calls");
        }
    }

    private void again(List<ToLongFunction<StreamQueries>> calls) {
        for (ToLongFunction<StreamQueries> call : calls) {
            call.applyAsLong(x);
        }
        count += calls.size();
    }

    private int onTape(ToLongFunction<StreamQueries> call) {
        int answer = (int) call(call);
        if (answer != StreamQueries.NONE) {
            tape.add(call);
        }
        return answer;
    }

    private long onStreams(ToLongFunction<StreamQueries> call) {
        long answer = call(call);
        acts.add(new Act(Kind.OTHER, List.of(call)));
        return answer;
    }

    int feed(int a, int b, int c, int d, int e) {
        return onTape(y -> y.feed(a, b, c, d, e));
    }

    int cut(int n) {
        return onTape(y -> y.cut(n));
    }

    /** A query that is well makes those before it matter no more, and one with a fault those with faults. */
    int query() {
        int answer = (int) call(StreamQueries::query);
        tape.add(StreamQueries::query);
        acts.removeIf(act -> act.kind() == Kind.FAULTY || act.kind() == Kind.WELL && answer >= 0);
        acts.add(new Act(answer >= 0 ? Kind.WELL : Kind.FAULTY, tape));
        tape = new ArrayList<>();
        return answer;
    }

    int stream(int columns) {
        return (int) onStreams(y -> y.stream(columns));
    }

    int value(long v) {
        return (int) onStreams(y -> y.value(v));
    }

    int nothing() {
        return (int) onStreams(StreamQueries::nothing);
    }

    int row(int stream, long time) {
        return (int) onStreams(y -> y.row(stream, time));
    }

    boolean back(int stream, int place) {
        return onStreams(y -> y.back(stream, place) ? 1 : 0) != 0;
    }

    int watermark(long time) {
        return (int) onStreams(y -> y.watermark(time));
    }

    int fault() {
        return (int) call(StreamQueries::fault);
    }

    int changes() {
        return (int) call(StreamQueries::changes);
    }

    int change(int i) {
        return (int) call(y -> y.change(i));
    }

    long changed(int i, int column) {
        return call(y -> y.changed(i, column));
    }

    boolean changedNull(int i, int column) {
        return call(y -> y.changedNull(i, column) ? 1 : 0) != 0;
    }

    int rows() {
        return (int) call(StreamQueries::rows);
    }

    long at(int i, int column) {
        return call(y -> y.at(i, column));
    }

    boolean isNull(int i, int column) {
        return call(y -> y.isNull(i, column) ? 1 : 0) != 0;
    }

    int type(int column) {
        return (int) call(y -> y.type(column));
    }

    int three(int act, int a, int b) {
        return (int) call(y -> y.three(act, a, b));
    }

    int told(int what) {
        return (int) call(y -> y.told(what));
    }
}
