/** Promises 1 to 3: a new object, feed, cut. */
public final class TapeTest {
    public static void main(String[] args) {
        newObject();
        feed();
        cut();
        Probe.end("TapeTest");
    }

    private static void newObject() {
        StreamQueries x = new StreamQueries();
        Probe.due("NONE", StreamQueries.NONE, -1);
        Probe.due("new told(0)", x.told(0), 0);
        Probe.due("new told(1)", x.told(1), 0);
        Probe.due("new told(2)", x.told(2), 0);
        Probe.due("new told(3)", x.told(3), 0);
        Probe.due("new told(4)", x.told(4), 0);
        Probe.due("new told(5)", x.told(5), 0);
        Probe.due("new fault()", x.fault(), 0);
        Probe.due("new rows()", x.rows(), 0);
        Probe.due("new changes()", x.changes(), 0);
        Probe.due("new change(0)", x.change(0), 0);
        Probe.due("new changed(0, 0)", x.changed(0, 0), 0);
        Probe.due("new changedNull(0, 0)", x.changedNull(0, 0), false);
        Probe.due("new at(0, 0)", x.at(0, 0), 0);
        Probe.due("new isNull(0, 0)", x.isNull(0, 0), false);
        Probe.due("new type(0)", x.type(0), 0);
        Probe.due("new cut(0)", x.cut(0), 0);
        Probe.due("new row(0, 0)", x.row(0, 0), -1);
        Probe.due("new back(0, 0)", x.back(0, 0), false);
        Probe.due("new watermark(0)", x.watermark(0), 0);
        Probe.due("query() of an empty tape", x.query(), -10);
        Probe.due("its fault()", x.fault(), 1);
        Probe.due("two objects share nothing", new StreamQueries().fault(), 0);
    }

    private static void feed() {
        StreamQueries x = new StreamQueries();
        for (int i = 1; i <= 100; i++) {
            Probe.due("feed", x.feed(i, -1, 0, Integer.MIN_VALUE, Integer.MAX_VALUE), 20 * i);
        }
        Probe.due("feed beyond 2000", x.feed(0, 0, 0, 0, 0), -1);
        Probe.due("the tape is as it was", x.cut(1981), 19);
        Probe.due("feed to 2001", x.feed(0, 0, 0, 0, 0), -1);
        Probe.due("cut to 1980", x.cut(1980), 1);
        Probe.due("feed to 2000", x.feed(0, 0, 0, 0, 0), 2000);

        // Each number's highest byte comes first: "sele" "ct a" " fro" "m s0" " as " and " p".
        Probe p = new Probe().streams(1);
        p.row(0, 0, 7);
        Probe.due("feed", p.x.feed(0x73656c65, 0x63742061, 0x2066726f, 0x6d207330, 0x20617320), 20);
        Probe.due("feed", p.x.feed(0x70202020, 0x20202020, 0x20202020, 0x20202020, 0x20202020), 40);
        Probe.due("query()", p.x.query(), 1);
        Probe.due("answer", p.answer(), "7;");
        Probe.due("a query uses the tape up", p.x.cut(0), 0);
        p.bad("select", 1, 6);
        Probe.due("a refused query uses the tape up", p.x.cut(0), 0);
    }

    private static void cut() {
        StreamQueries x = new StreamQueries();
        Probe.due("cut(1) of none", x.cut(1), -1);
        x.feed(1, 2, 3, 4, 5);
        Probe.due("cut(-1)", x.cut(-1), -1);
        Probe.due("cut(least)", x.cut(Integer.MIN_VALUE), -1);
        Probe.due("cut(21)", x.cut(21), -1);
        Probe.due("cut(greatest)", x.cut(Integer.MAX_VALUE), -1);
        Probe.due("cut(20)", x.cut(20), 0);
        Probe.due("cut(13)", x.cut(13), 7);
        Probe.due("cut(14)", x.cut(14), -1);
        Probe.due("feed", x.feed(1, 2, 3, 4, 5), 33);
        Probe.due("cut(0)", x.cut(0), 33);

        // The first bytes stay, and what is fed later comes behind them.
        Probe p = new Probe().streams(1);
        p.tape("select 12345");
        p.x.cut(8);
        p.tape(" from s0 as p");
        p.row(0, 0, 3);
        Probe.due("query()", p.x.query(), 1);
        Probe.due("answer", p.answer(), "1;");
    }
}
