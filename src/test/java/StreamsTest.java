/** Promises 4 and 7 to 10: stream, value, nothing, row, back. */
public final class StreamsTest {
    public static void main(String[] args) {
        stream();
        draft();
        row();
        back();
        Probe.end("StreamsTest");
    }

    private static void stream() {
        StreamQueries x = new StreamQueries();
        Probe.due("stream(0)", x.stream(0), -1);
        Probe.due("stream(5)", x.stream(5), -1);
        Probe.due("stream(-1)", x.stream(-1), -1);
        Probe.due("stream(least)", x.stream(Integer.MIN_VALUE), -1);
        Probe.due("stream(greatest)", x.stream(Integer.MAX_VALUE), -1);
        Probe.due("told(0)", x.told(0), 0);
        for (int i = 0; i < 6; i++) {
            Probe.due("stream", x.stream(1 + i % 4), i);
            Probe.due("told(0)", x.told(0), i + 1);
        }
        Probe.due("a seventh stream", x.stream(1), -1);
        Probe.due("told(0)", x.told(0), 6);

        // A stream has the columns a, b, c, d as far as it has them, and time.
        Probe p = new Probe().streams(1, 2, 3, 4);
        p.well("select a, time from s0 as p", 2);
        p.faulty(2, "select @b from s0 as p");
        p.well("select a, b, time from s1 as p", 3);
        p.faulty(2, "select @c from s1 as p");
        p.well("select a, b, c, time from s2 as p", 4);
        p.faulty(2, "select @d from s2 as p");
        p.well("select a, b, c, d, time from s3 as p", 5);
        p.faulty(2, "select @e from s3 as p");
        p.faulty(2, "select a from @s4 as p");
        p.x.stream(1);
        p.well("select a from s4 as p", 1);
    }

    private static void draft() {
        StreamQueries x = new StreamQueries();
        Probe.due("value(1)", x.value(1), 1);
        Probe.due("nothing()", x.nothing(), 2);
        Probe.due("value(least)", x.value(Long.MIN_VALUE), 3);
        Probe.due("nothing()", x.nothing(), 4);
        Probe.due("value(5), a fifth", x.value(5), -1);
        Probe.due("nothing(), a fifth", x.nothing(), -1);
        x.stream(4);
        Probe.due("row(0, 7)", x.row(0, 7), 0);
        Probe.due("value(1) of an empty draft", x.value(1), 1);

        Probe p = new Probe().streams(4);
        p.row(0, 7, 1, null, Long.MIN_VALUE, null);
        p.answers("select a, b, c, d, time from s0 as p", "1,null,-9223372036854775808,null,7;");
        Probe.due("at of a NULL", p.x.at(0, 1), 0);
        p.x.value(4);
        p.x.value(5);
        p.x.value(6);
        p.x.nothing();
        p.x.value(7);
        p.x.row(0, -8);
        Probe.due("answer", p.answer(), "1,null,-9223372036854775808,null,7;4,5,6,null,-8;");
        // A NULL of the draft does not stay in the next one.
        p.row(0, 0, 9, 9, 9, 9);
        Probe.due("answer", p.answer(), "1,null,-9223372036854775808,null,7;4,5,6,null,-8;9,9,9,9,0;");
    }

    private static void row() {
        Probe p = new Probe().streams(1, 2);
        Probe.due("a row of no such stream", p.row(2, 0, 1), -1);
        Probe.due("the draft is empty then", p.x.value(1), 1);
        Probe.due("a row of stream -1", p.x.row(-1, 0), -1);
        Probe.due("the draft is empty then", p.x.value(1), 1);
        Probe.due("too few values", p.x.row(1, 0), -1);
        Probe.due("the draft is empty then", p.x.value(1), 1);
        Probe.due("another value", p.x.value(2), 2);
        Probe.due("too many values", p.x.row(0, 0), -1);
        Probe.due("no values", p.x.row(0, 0), -1);
        Probe.due("a row of the greatest stream", p.row(Integer.MAX_VALUE, 0, 1), -1);
        Probe.due("a row of the least stream", p.row(Integer.MIN_VALUE, 0, 1), -1);
        Probe.due("told(1)", p.x.told(1), 0);
        for (int i = 0; i < 8; i++) {
            Probe.due("row", p.row(0, i, i), i);
        }
        Probe.due("a ninth row", p.row(0, 8, 8), -1);
        Probe.due("the draft is empty then", p.x.value(1), 1);
        p.x.row(0, 0);
        Probe.due("told(1)", p.x.told(1), 8);
        Probe.due("a row of the other stream", p.row(1, 0, 1, 2), 0);
        Probe.due("told(1)", p.x.told(1), 9);
        p.x.back(0, 5);
        p.x.back(0, 2);
        Probe.due("the least free place", p.row(0, 0, 20), 2);
        Probe.due("the next free place", p.row(0, 0, 50), 5);
        Probe.due("no place", p.row(0, 0, 60), -1);
        p.answers("select a, time from s0 as p", "0,0;1,1;3,3;4,4;6,6;7,7;20,0;50,0;");
        p.x.back(0, 0);
        Probe.due("a time", p.row(0, Long.MIN_VALUE, -1), 0);
        p.answers("select time from s0 as p where a < 0", "-9223372036854775808;");
    }

    private static void back() {
        Probe p = new Probe().streams(1, 1);
        Probe.due("back of none", p.x.back(0, 0), false);
        p.row(0, 0, 5);
        p.row(0, 0, 6);
        Probe.due("back(-1, 0)", p.x.back(-1, 0), false);
        Probe.due("back(1, 0)", p.x.back(1, 0), false);
        Probe.due("back(2, 0)", p.x.back(2, 0), false);
        Probe.due("back(6, 0)", p.x.back(6, 0), false);
        Probe.due("back(0, -1)", p.x.back(0, -1), false);
        Probe.due("back(0, 2)", p.x.back(0, 2), false);
        Probe.due("back(0, 8)", p.x.back(0, 8), false);
        Probe.due("back(greatest, greatest)", p.x.back(Integer.MAX_VALUE, Integer.MAX_VALUE), false);
        Probe.due("back(least, least)", p.x.back(Integer.MIN_VALUE, Integer.MIN_VALUE), false);
        p.well("select a from s0 as p", 1);
        Probe.due("back(0, 0)", p.x.back(0, 0), true);
        Probe.due("answer", p.answer(), "6;");
        Probe.due("changes", p.changes(), "-1:5;");
        Probe.due("back(0, 0) again", p.x.back(0, 0), false);
        Probe.due("changes", p.changes(), "");
        Probe.due("told(1)", p.x.told(1), 1);
        Probe.due("back(0, 1)", p.x.back(0, 1), true);
        Probe.due("told(1)", p.x.told(1), 0);
        // Places of another stream are others; one at the end of a stream is not the next one's first.
        p.row(1, 0, 7);
        Probe.due("back(0, 8)", p.x.back(0, 8), false);
        Probe.due("told(1)", p.x.told(1), 1);
        // A row that is too old to be seen can be taken back, too.
        p.well("select a from s0 as p keep 1", 1);
        p.x.watermark(100);
        p.row(0, 0, 5);
        Probe.due("rows()", p.x.rows(), 0);
        Probe.due("back(0, 0)", p.x.back(0, 0), true);
        Probe.due("changes()", p.x.changes(), 0);
    }
}
