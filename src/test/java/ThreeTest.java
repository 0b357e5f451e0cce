/** Promises 20 and 21: three, told. */
public final class ThreeTest {
    public static void main(String[] args) {
        three();
        told();
        toldByKeep();
        Probe.end("ThreeTest");
    }

    /** Rows and columns are 0, 1, NULL. */
    private static void three() {
        int n = StreamQueries.NONE;
        int[][][] due = {
            {{0, 0, 0}, {0, 1, n}, {0, n, n}},
            {{0, 1, n}, {1, 1, 1}, {n, 1, n}},
            {{1, 1, 1}, {0, 0, 0}, {n, n, n}},
            {{1, 0, n}, {0, 1, n}, {n, n, n}},
            {{0, 1, n}, {0, 0, n}, {n, n, n}},
            {{0, 1, n}, {1, 2, n}, {n, n, n}},
        };
        int[][] given = {{0}, {1}, {2, -1, 3, Integer.MIN_VALUE, Integer.MAX_VALUE, 256}};
        StreamQueries x = new StreamQueries();
        for (int act = 0; act < due.length; act++) {
            for (int i = 0; i < 3; i++) {
                for (int j = 0; j < 3; j++) {
                    for (int a : given[i]) {
                        for (int b : given[j]) {
                            Probe.due("three(" + act + ", " + a + ", " + b + ")", x.three(act, a, b), due[act][i][j]);
                        }
                    }
                }
            }
        }
        int[] others = {-1, 6, 7, -2, Integer.MIN_VALUE, Integer.MAX_VALUE};
        for (int act : others) {
            Probe.due("three(" + act + ", 1, 1)", x.three(act, 1, 1), -2);
        }
    }

    private static void told() {
        Probe p = new Probe();
        p.streams(1, 2);
        p.row(1, 0, 5, 6);
        long[] without = {2, 1, 0, 0, 0, 0};
        long[] with = {2, 1, 1, 4, 1, 1};
        check(p, without);
        p.bad("select a from s0 as p,", 1, 21);
        check(p, without);
        p.well("select a + 1 from s1 as p where true", 1);
        check(p, with);
        p.bad("select a, b from s0 as p keep 5, s1 as p", 1, 31);
        check(p, with);
        p.bad("select b from s0 as p", 2, 7);
        check(p, with);
        int[] others = {-1, 6, 7, Integer.MIN_VALUE, Integer.MAX_VALUE};
        for (int what : others) {
            Probe.due("told(" + what + ")", p.x.told(what), -1);
        }
        // EXPRS of every kind, once each.
        Object[][] counts = {
            {"p.a", 1}, {"time", 1}, {"null", 1}, {"(a)", 1}, {"-a", 2}, {"a is not null", 2}, {"a not in (1, 2)", 4},
            {"not true", 2}, {"a = 1 or true and false", 7}, {"span(a, 2)", 3}, {"case when true then 1 else 2 end", 4},
            {"count(*)", 1}, {"count(a)", 2}, {"sum(a + 1) - max(a)", 7},
        };
        for (Object[] c : counts) {
            p.well("unbounded select " + c[0] + " from s0 as p", 1);
            Probe.due("told(3) of " + c[0], p.x.told(3), (Integer) c[1]);
        }
        p.well("unbounded select k from s0 as p join s0 as q keep 3 on true where p.a = 1 group by p.a as k, 1 + 2 as j"
            + " having k = 1 union select a from (select a from s1 as r) as t order by k, 1 limit 5", 1);
        Probe.due("told(3) of all clauses", p.x.told(3), 1 + 1 + 3 + 1 + 3 + 3 + 1 + 1 + 2);
        Probe.due("told(4)", p.x.told(4), 3);
    }

    private static void check(Probe p, long[] due) {
        for (int what = 0; what < due.length; what++) {
            Probe.due("told(" + what + ")", p.x.told(what), due[what]);
        }
    }

    private static void toldByKeep() {
        Probe p = new Probe().streams(1, 1, 1);
        p.row(0, 1, 1);
        p.row(0, 5, 1);
        p.row(1, 5, 1);
        p.row(2, 5, 1);
        p.well("select a from s0 as p keep 3", 1);
        Probe.due("told(2)", p.x.told(2), 2);
        p.x.watermark(5);
        Probe.due("told(2), one too old", p.x.told(2), 1);
        Probe.due("told(1)", p.x.told(1), 4);
        p.well("unbounded select p.a from s0 as p keep 3 join s0 as q on true join s1 as r keep 0 on true", 1);
        Probe.due("told(2), a stream twice", p.x.told(2), 1 + 2 + 1);
        Probe.due("told(4), a stream twice", p.x.told(4), 3);
        p.row(2, 5, 1);
        Probe.due("told(2), another stream", p.x.told(2), 4);
        p.row(0, 5, 1);
        Probe.due("told(2), a row more", p.x.told(2), 6);
        p.x.back(0, 0);
        Probe.due("told(2), an old row less", p.x.told(2), 5);
        p.well("select a from (select a from s0 as p where false) as q", 1);
        Probe.due("told(2) of what is beneath", p.x.told(2), 2);
        p.bad("select x from s0 as p", 2, 7);
        Probe.due("told(2) of the one that stays", p.x.told(2), 2);
        p.x.watermark(1000);
        Probe.due("told(2) without keep", p.x.told(2), 2);
    }
}
