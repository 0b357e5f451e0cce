import java.util.LinkedHashMap;
import java.util.Map;

/**
 * "What is refused changes nothing; but what reads the TAPE (2000 bytes) uses it up." Each refused call is made in each
 * of some states, and all that can be asked of the object is compared with an object on which it was not made.
 */
public final class RefusedTest {
    private static final int LEAST = Integer.MIN_VALUE;
    private static final int GREATEST = Integer.MAX_VALUE;

    interface Act {
        void on(Probe p);
    }

    private static final Act NOTHING = p -> { };

    public static void main(String[] args) {
        tape();
        streams();
        drafts();
        rows();
        backs();
        watermarks();
        queries();
        asked();
        Probe.end("RefusedTest");
    }

    /** A stream with rows, a row gone, and a tape and draft that are begun; no query. */
    private static void begun(Probe p) {
        p.streams(4, 1);
        p.row(0, 10, 1, null, 3, 4);
        p.row(0, 11, 5, 6, 7, 8);
        p.row(0, 12, 9, 9, 9, null);
        p.row(1, 12, 70);
        p.x.back(0, 1);
        p.x.watermark(11);
        p.tape("select a, 5 from s0 as p");
        p.x.value(41);
        p.x.nothing();
    }

    /** The same with a query whose latest act made changes. */
    private static void asked(Probe p) {
        p.streams(4, 2);
        p.row(1, 11, 1, 2);
        p.row(1, 12, 3, null);
        p.ask("unbounded select k, count(*) as n, k is null from s0 as p keep 2 join s1 as q keep 9 on true"
            + " group by p.b as k order by n desc limit 9");
        p.row(0, 11, 1, null, 3, 4);
        p.row(0, 12, 1, 6, 3, 4);
        p.row(0, 12, 1, 6, 3, 4);
        p.tape("select b from s1 as p");
        p.x.nothing();
        p.x.value(42);
        p.x.value(43);
        p.x.watermark(14);
    }

    /** All is full: six streams, two of them with eight rows, the tape, the draft; and the latest query had a fault. */
    private static void full(Probe p) {
        p.streams(4, 1, 2, 3, 4, 1);
        for (int i = 0; i < 8; i++) {
            p.row(0, i, i, i % 2, null, -i);
            p.row(5, i, i);
        }
        p.ask("select p.a, q.a from s0 as p keep 5 left join s5 as q keep 3 on p.a = q.a");
        p.ask("select x from s0 as p");
        for (int i = 0; i < 4; i++) {
            p.x.value(i);
        }
        String text = "select a from s5 as p";
        p.tape(text + " ".repeat(2000 - text.length()));
        p.x.watermark(6);
    }

    /** Neighbours with eight rows each, and a draft that has as many values as they have columns. */
    private static void neighbours(Probe p) {
        p.streams(2, 2, 2);
        for (int i = 0; i < 24; i++) {
            p.row(i / 8, i, i, -i);
        }
        p.ask("select a, b from s1 as p keep 2");
        p.x.watermark(12);
        p.x.value(98);
        p.x.value(99);
    }

    private static Map<String, Act> states() {
        Map<String, Act> all = new LinkedHashMap<>();
        all.put("a new object", NOTHING);
        all.put("begun", RefusedTest::begun);
        all.put("asked", RefusedTest::asked);
        all.put("full", RefusedTest::full);
        all.put("neighbours", RefusedTest::neighbours);
        return all;
    }

    /** All that is told of the query, without a trace. */
    private static String answer(Probe p) {
        StringBuilder all = new StringBuilder();
        for (int what = 0; what <= 5; what++) {
            all.append(p.x.told(what)).append(" ");
        }
        for (int c = 0; c < 8; c++) {
            all.append(p.x.type(c));
        }
        return all.append(" ").append(p.x.rows()).append(" ").append(p.answer()).toString();
    }

    private static String fault(Probe p) {
        return String.valueOf(p.x.fault());
    }

    private static String tapeSize(Probe p) {
        return String.valueOf(p.x.cut(0));
    }

    private static String tapeText(Probe p) {
        return p.x.query() + " " + p.x.fault() + " " + p.answer();
    }

    /** What the draft has becomes a row of a stream with four columns, behind a mark for what it has not. */
    private static String draft(Probe p) {
        while (p.x.value(-99) >= 0) {
            continue;
        }
        if (p.x.told(0) < 6) {
            p.x.stream(4);
        }
        int last = p.x.told(0) == 6 ? 4 : p.x.told(0) - 1;
        p.x.row(last, 12345);
        p.ask("select a, b, c, d from s" + last + " as p where time = 12345");
        return p.answer();
    }

    /** Every row of every stream, its place, and what its going changes. */
    private static String rows(Probe p) {
        StringBuilder all = new StringBuilder();
        for (int s = 0; s < p.x.told(0); s++) {
            String[] columns = {"d, c, b, a, time", "c, b, a, time", "b, a, time", "a, time"};
            for (String c : columns) {
                if (p.ask("select " + c + " from s" + s + " as p") > 0) {
                    all.append(p.answer()).append("|");
                    break;
                }
            }
            for (int place = 0; place < 8; place++) {
                all.append(p.x.back(s, place) ? p.changes() : "-");
            }
        }
        return all.toString();
    }

    /** The watermark is between the last time that is seen and the first that is not. */
    private static String watermark(Probe p) {
        StringBuilder all = new StringBuilder();
        for (int keep = 0; keep <= 20; keep++) {
            p.ask("select time from s0 as p keep " + keep);
            all.append(p.x.told(2));
        }
        return all.append(p.x.rows()).toString();
    }

    /** Each thing that can be asked, by its name, of an object of its own. */
    private static Map<String, String> all(Act state, Act call) {
        Map<String, String> all = new LinkedHashMap<>();
        String[] names = {"answer", "fault", "changes", "tape's size", "tape", "draft", "rows", "watermark"};
        for (String name : names) {
            Probe p = new Probe();
            state.on(p);
            call.on(p);
            switch (name) {
                case "answer" -> all.put(name, answer(p));
                case "fault" -> all.put(name, fault(p));
                case "changes" -> all.put(name, p.changes());
                case "tape's size" -> all.put(name, tapeSize(p));
                case "tape" -> all.put(name, tapeText(p));
                case "draft" -> all.put(name, draft(p));
                case "rows" -> all.put(name, rows(p));
                default -> all.put(name, watermark(p));
            }
        }
        return all;
    }

    /** The call changes nothing but the things that are told, each with what it is then. */
    private static void refused(String what, String state, Act call, String... but) {
        Map<String, String> due = all(states().get(state), NOTHING);
        Map<String, String> got = all(states().get(state), call);
        for (int i = 0; i + 1 < but.length; i += 2) {
            due.put(but[i], but[i + 1]);
        }
        for (String name : due.keySet()) {
            Probe.due(name + " behind " + what + ", " + state, got.get(name), due.get(name));
        }
    }

    /** Of every state. */
    private static void refusedEverywhere(String what, Act call, String... but) {
        for (String state : states().keySet()) {
            refused(what, state, call, but);
        }
    }

    private static void answers(String what, long got, long due) {
        Probe.due(what, got, due);
    }

    private static void tape() {
        refusedEverywhere("cut(-1)", p -> answers("cut(-1)", p.x.cut(-1), -1));
        refusedEverywhere("cut(2001)", p -> answers("cut(2001)", p.x.cut(2001), -1));
        refusedEverywhere("cut(least)", p -> answers("cut(least)", p.x.cut(LEAST), -1));
        refused("cut(25)", "begun", p -> answers("cut(25)", p.x.cut(25), -1));
        refused("feed", "full", p -> answers("feed", p.x.feed(1, 2, 3, 4, 5), -1));
        refused("feed behind 1981", "full", p -> {
            p.x.cut(1981);
            answers("feed", p.x.feed(1, 2, 3, 4, 5), -1);
        }, "tape's size", "1981");
    }

    private static void streams() {
        int[] columns = {0, 5, -1, LEAST, GREATEST};
        for (int c : columns) {
            refusedEverywhere("stream(" + c + ")", p -> answers("stream", p.x.stream(c), -1));
        }
        for (int c = 1; c <= 4; c++) {
            int wanted = c;
            refused("a seventh stream", "full", p -> answers("stream", p.x.stream(wanted), -1));
        }
    }

    private static void drafts() {
        refused("a fifth value", "full", p -> answers("value", p.x.value(77), -1));
        refused("a fifth nothing", "full", p -> answers("nothing", p.x.nothing(), -1));
    }

    private static void rows() {
        String[] but = {"changes", "", "draft", "-99,-99,-99,-99;"};
        int[] streams = {-1, 6, 9, LEAST, GREATEST};
        for (int s : streams) {
            refusedEverywhere("row(" + s + ", 5)", p -> answers("row", p.x.row(s, 5), -1), but);
        }
        refused("a row of no such stream", "asked", p -> answers("row", p.x.row(2, 12), -1), but);
        refused("a row with a value less", "asked", p -> answers("row", p.x.row(0, 12), -1), but);
        refused("a row with a value more", "asked", p -> answers("row", p.x.row(1, 12), -1), but);
        refused("a ninth row", "full", p -> answers("row", p.x.row(0, 12), -1), but);
        for (int s = 0; s < 3; s++) {
            int stream = s;
            refused("a ninth row of stream " + s, "neighbours", p -> answers("row", p.x.row(stream, 12), -1), but);
        }
        refused("a row with values more, and a ninth", "full", p -> answers("row", p.x.row(5, 12), -1), but);
    }

    private static void backs() {
        int[] streams = {-1, 6, LEAST, GREATEST};
        for (int s : streams) {
            refusedEverywhere("back(" + s + ", 0)", p -> answers("back", p.x.back(s, 0) ? 1 : 0, 0), "changes", "");
        }
        int[] places = {-1, 8, LEAST, GREATEST};
        for (int place : places) {
            refusedEverywhere("back(0, " + place + ")", p -> answers("back", p.x.back(0, place) ? 1 : 0, 0), "changes", "");
        }
        refused("back of a row that went", "begun", p -> answers("back", p.x.back(0, 1) ? 1 : 0, 0), "changes", "");
        refused("back of a free place", "asked", p -> answers("back", p.x.back(0, 3) ? 1 : 0, 0), "changes", "");
        refused("back of an empty stream", "full", p -> answers("back", p.x.back(3, 0) ? 1 : 0, 0), "changes", "");
    }

    private static void watermarks() {
        refusedEverywhere("watermark(least)", p -> answers("watermark", p.x.watermark(Long.MIN_VALUE), 0), "changes", "");
        refused("watermark(11)", "begun", p -> answers("watermark", p.x.watermark(11), 0), "changes", "");
        refused("watermark(10)", "begun", p -> answers("watermark", p.x.watermark(10), 0), "changes", "");
        refused("watermark(14)", "asked", p -> answers("watermark", p.x.watermark(14), 0), "changes", "");
        refused("watermark(13)", "asked", p -> answers("watermark", p.x.watermark(13), 0), "changes", "");
        refused("watermark(6)", "full", p -> answers("watermark", p.x.watermark(6), 0), "changes", "");
        refused("watermark(5)", "full", p -> answers("watermark", p.x.watermark(5), 0), "changes", "");
    }

    /** A text of each fault; the tape is used up, in every state, and the query before stays. */
    private static void queries() {
        String[] texts = {"?", "select a from s9 as p", "unbounded select a from s0 as p join s0 as q on true",
            "select a from s0 as p where a", "select distinct a from s0 as p",
            "select a from s0 as p union all select a, a from s0 as p", "select a, a, a, a, a, a, a, a, a from s0 as p"};
        for (int i = 0; i < texts.length; i++) {
            String text = texts[i];
            String fault = String.valueOf(i + 1);
            for (String state : states().keySet()) {
                boolean hasStream = !state.equals("a new object");
                if (hasStream || i == 0 || i == 1 || i == 6) {
                    refused("query() of " + text, state, p -> answers("query", p.ask(text) < 0 ? 1 : 0, 1),
                        "changes", "", "fault", fault, "tape's size", "0", "tape", tapeOfNothing(state));
                }
            }
        }
    }

    private static String tapeOfNothing(String state) {
        Probe p = new Probe();
        states().get(state).on(p);
        p.x.cut(0);
        return tapeText(p);
    }

    /** What only asks changes nothing, whatever it is asked. */
    private static void asked() {
        int[] numbers = {-1, 0, 1, 2, 8, 512, LEAST, GREATEST};
        refusedEverywhere("calls that ask", p -> {
            for (int i : numbers) {
                for (int j : numbers) {
                    p.x.changed(i, j);
                    p.x.changedNull(i, j);
                    p.x.at(i, j);
                    p.x.isNull(i, j);
                    p.x.three(i, j, i);
                }
                p.x.change(i);
                p.x.type(i);
                p.x.told(i);
            }
            p.x.fault();
            p.x.changes();
            p.x.rows();
        });
    }
}
