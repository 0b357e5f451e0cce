import java.util.ArrayList;
import java.util.Arrays;
import java.util.Collections;
import java.util.List;

/** Relations as great as they can be: three full streams side by side, 512 rows of them, and as many changes. */
public final class LargeTest {
    public static void main(String[] args) {
        joined();
        grouped();
        changes();
        sets();
        everyPlaceOnTheTape();
        Probe.end("LargeTest");
    }

    /** Stream s has rows with a = s and place, b = place % 3, c = NULL on every second. */
    private static Probe full() {
        Probe p = new Probe().streams(4, 4, 4);
        for (int i = 0; i < 24; i++) {
            p.row(i / 8, i % 8, i, i % 3, i % 2 == 0 ? null : i, -i);
        }
        return p;
    }

    private static String text(List<long[]> rows) {
        StringBuilder all = new StringBuilder();
        for (long[] r : rows) {
            for (int c = 0; c < r.length; c++) {
                all.append(c > 0 ? "," : "").append(r[c] == Long.MIN_VALUE ? "null" : String.valueOf(r[c]));
            }
            all.append(";");
        }
        return all.toString();
    }

    private static List<long[]> sorted(List<long[]> rows) {
        Collections.sort(rows, Arrays::compare);
        return rows;
    }

    private static void joined() {
        Probe p = full();
        List<long[]> rows = new ArrayList<>();
        for (int i = 0; i < 8; i++) {
            for (int j = 8; j < 16; j++) {
                for (int k = 16; k < 24; k++) {
                    rows.add(new long[] {k % 3, -j, i, j, k, i % 2 == 0 ? Long.MIN_VALUE : i, -k, j % 8});
                }
            }
        }
        String join = " from s0 as p join s1 as q on true left join s2 as r on q.a < r.a";
        p.answers("unbounded select r.b, q.d, p.a, q.a, r.a, p.c, r.d, q.time" + join, text(sorted(rows)));
        Probe.due("rows()", p.x.rows(), 512);
        p.answers("unbounded select distinct r.b, q.d, p.a, q.a, r.a, p.c, r.d, q.time" + join, text(rows));
        p.answers("unbounded select r.b as b, q.d, p.a, q.a, r.a, p.c, r.d, q.time as t" + join
            + " order by b, 1, 7, b * 2, t desc, b + t is null, b, -t desc limit 100",
            text(byTime(rows).subList(0, 100)));
        Probe.due("rows()", p.x.rows(), 100);
    }

    /** By the first column, then by the last the other way, then by all. */
    private static List<long[]> byTime(List<long[]> rows) {
        List<long[]> all = new ArrayList<>(rows);
        all.sort((x, y) -> x[0] != y[0] ? Long.compare(x[0], y[0])
            : x[7] != y[7] ? Long.compare(y[7], x[7]) : Arrays.compare(x, y));
        return all;
    }

    private static void grouped() {
        Probe p = full();
        List<long[]> rows = new ArrayList<>();
        for (int i = 0; i < 8; i++) {
            for (int j = 8; j < 16; j++) {
                for (int k = 16; k < 24; k++) {
                    rows.add(new long[] {i, j, k, 1, i % 2 == 0 ? 0 : 1, i + j + k, k, i % 3});
                }
            }
        }
        String join = " from s0 as p join s1 as q on true join s2 as r on true";
        p.answers("unbounded select k1, k2, k3, count(*), count(p.c), sum(p.a + q.a + r.a), max(r.a), k4"
            + join + " group by p.a as k1, q.a as k2, r.a as k3, p.b as k4, q.b as k5, r.b as k6, p.c as k7, q.d as k8",
            text(sorted(rows)));
        p.answers("unbounded select count(*), sum(p.a), min(q.a), max(r.a), count(r.c)" + join, "512,1792,8,23,256;");
        p.answers("unbounded select k, count(*), sum(r.a) from s0 as p join s1 as q on true join s2 as r on true group by p.b as k",
            "0,192,3744;1,192,3744;2,128,2496;");
    }

    private static void changes() {
        Probe p = full();
        p.x.back(0, 3);
        p.well("unbounded select p.a, q.a, r.a from s0 as p join s1 as q on true join s2 as r on true", 3);
        p.row(0, 3, 3, 0, 3, -3);
        Probe.due("changes()", p.x.changes(), 64);
        StringBuilder more = new StringBuilder();
        StringBuilder less = new StringBuilder();
        for (int j = 8; j < 16; j++) {
            for (int k = 16; k < 24; k++) {
                more.append("+1:3,").append(j).append(",").append(k).append(";");
                less.append("-1:3,").append(j).append(",").append(k).append(";");
            }
        }
        Probe.due("changes", p.changes(), more.toString());
        p.x.back(0, 3);
        Probe.due("changes", p.changes(), less.toString());
        // Every row goes, and another comes for each.
        p.row(0, 3, 3, 0, 3, -3);
        p.well("unbounded select p.a, q.a, r.a, n from s0 as p join s1 as q on true join (select count(*) as n, max(a) as a"
            + " from s2 as t keep 3) as r on true", 4);
        p.x.watermark(6);
        Probe.due("changes()", p.x.changes(), 128);
        Probe.due("change(63)", p.x.change(63), -1);
        Probe.due("changed(63, 3)", p.x.changed(63, 3), 8);
        Probe.due("change(64)", p.x.change(64), 1);
        Probe.due("changed(64, 3)", p.x.changed(64, 3), 5);
        p.well("unbounded select p.a, q.a, r.a, p.b is null from s0 as p keep 9 join s1 as q on true join s2 as r on true", 4);
        p.x.watermark(100);
        Probe.due("all of them went", p.x.changes(), 512);
        Probe.due("rows()", p.x.rows(), 0);
        Probe.due("changed(511, 2)", p.x.changed(511, 2), 23);
        Probe.due("change(512)", p.x.change(512), 0);
    }

    private static void sets() {
        Probe p = full();
        StringBuilder all = new StringBuilder();
        for (int i = 0; i < 24; i++) {
            all.append(i).append(";");
        }
        String union = "unbounded select a from s0 as p union select a from s1 as p union select a from s2 as p";
        p.answers(union, all.toString());
        p.answers(union.replace("union", "union all"), all.toString());
        p.answers("unbounded select p.a from s0 as p join s0 as q on true intersect select -d from s0 as r", "0;1;2;3;4;5;6;7;");
        p.answers("unbounded select p.a * q.a from s0 as p join s0 as q on true except select a from s0 as r",
            "8;9;10;12;14;15;16;18;20;21;24;25;28;30;35;36;42;49;");
    }

    /** A fault is told at its place wherever that is, up to the text's length. */
    private static void everyPlaceOnTheTape() {
        Probe p = new Probe().streams(1);
        String text = "select a from s0 as p";
        String blanks = " ".repeat(2000 - text.length());
        Probe.due("a text of 2000 bytes", p.ask(text + blanks), 1);
        Probe.due("a text of 2000 bytes", p.ask(blanks + text), 1);
        p.bad(" ".repeat(1999) + "?", 1, 1999);
        p.bad(" ".repeat(2000), 1, 2000);
        p.bad(blanks + text.replace(" p", " 5"), 1, 1999);
        p.bad(" ".repeat(1993) + "select", 1, 1999);
        p.bad(blanks.substring(4) + text + " as ", 1, 1997);
        p.well("select " + ("(".repeat(12) + "a" + ")".repeat(12) + "+").repeat(59) + "a from s0 as p", 1);
    }
}
