import java.util.TreeMap;

/** Promises 9 to 15: what row, back and watermark change in the answer, and how it is told. */
public final class ChangesTest {
    public static void main(String[] args) {
        rowsComeAndGo();
        howOften();
        watermark();
        ordered();
        groupedAndJoined();
        refused();
        edges();
        againstTheAnswers();
        Probe.end("ChangesTest");
    }

    private static void rowsComeAndGo() {
        Probe p = new Probe().streams(2, 1);
        p.row(0, 0, 1, 2);
        Probe.due("changes() without a query", p.x.changes(), 0);
        p.well("select b, a from s0 as p where a > 0", 2);
        Probe.due("changes() behind query()", p.x.changes(), 0);
        p.row(0, 0, 3, null);
        Probe.due("a row came", p.changes(), "+1:null,3;");
        p.row(0, 0, 0, 9);
        Probe.due("a row that where leaves out", p.changes(), "");
        p.row(0, 0, 3, null);
        Probe.due("the same once more", p.changes(), "+1:null,3;");
        p.row(1, 0, 5);
        Probe.due("a row of another stream", p.changes(), "");
        p.x.back(0, 1);
        Probe.due("a row went", p.changes(), "-1:null,3;");
        p.x.back(0, 2);
        Probe.due("a row went that was not seen", p.changes(), "");
        p.x.stream(1);
        p.x.value(4);
        p.x.feed(0, 0, 0, 0, 0);
        p.x.back(0, 0);
        p.x.nothing();
        p.x.stream(1);
        p.x.cut(0);
        Probe.due("what is no act on streams' rows leaves the changes", p.changes(), "-1:2,1;");
        Probe.due("answer", p.answer(), "null,3;");
    }

    private static void howOften() {
        Probe p = new Probe().streams(1, 1);
        p.row(1, 0, 1);
        p.row(1, 0, 2);
        p.row(1, 0, 3);
        p.well("unbounded select p.a, q.a > 1 from s0 as p join s1 as q on true", 2);
        p.row(0, 0, 7);
        Probe.due("twice more", p.changes(), "+1:7,0;+2:7,1;");
        p.row(0, 0, 7);
        Probe.due("twice more again", p.changes(), "+1:7,0;+2:7,1;");
        p.x.back(1, 1);
        Probe.due("twice less", p.changes(), "-2:7,1;");
        p.row(1, 0, 0);
        Probe.due("twice more", p.changes(), "+2:7,0;");
        p.x.back(0, 0);
        Probe.due("less", p.changes(), "-2:7,0;-1:7,1;");
        Probe.due("change(0)", p.x.change(0), -2);
        Probe.due("change(1)", p.x.change(1), -1);
        Probe.due("change(2)", p.x.change(2), 0);
    }

    private static void watermark() {
        Probe p = new Probe().streams(1);
        Probe.due("watermark without a query", p.x.watermark(5), 0);
        p.well("select a from s0 as p keep 10", 1);
        p.row(0, 1, 1);
        p.row(0, 2, 2);
        p.row(0, 3, 2);
        p.row(0, 9, 4);
        Probe.due("watermark(11)", p.x.watermark(11), 0);
        Probe.due("answer", p.answer(), "1;2;2;4;");
        Probe.due("watermark(12)", p.x.watermark(12), 1);
        Probe.due("changes", p.changes(), "-1:1;");
        Probe.due("changes()", p.x.changes(), 1);
        Probe.due("watermark(12) again", p.x.watermark(12), 0);
        Probe.due("changes() then", p.x.changes(), 0);
        Probe.due("change(0) then", p.x.change(0), 0);
        Probe.due("watermark(3), lower", p.x.watermark(3), 0);
        Probe.due("answer stays", p.answer(), "2;2;4;");
        p.row(0, 1, 5);
        Probe.due("a row that is too old", p.changes(), "");
        p.row(0, 2, 6);
        Probe.due("a row that is just not too old", p.changes(), "+1:6;");
        Probe.due("watermark(14)", p.x.watermark(14), 2);
        Probe.due("changes", p.changes(), "-2:2;-1:6;");
        Probe.due("watermark(greatest)", p.x.watermark(Long.MAX_VALUE), 1);
        Probe.due("changes", p.changes(), "-1:4;");
        Probe.due("rows stay where they are", p.x.told(1), 6);
        Probe.due("watermark(greatest) again", p.x.watermark(Long.MAX_VALUE), 0);
        // What was too old is seen again by a text that keeps more.
        p.answers("select a from s0 as p", "1;2;2;4;5;6;");
        Probe.due("watermark(least) on a new object", new StreamQueries().watermark(Long.MIN_VALUE), 0);
        // Rows that go may bring others: here the group, and the row that had a partner.
        Probe q = new Probe().streams(1, 1);
        q.well("select p.a, q.time from s0 as p keep 100 left join s1 as q keep 1 on p.a = q.a", 2);
        q.row(0, 5, 1);
        q.row(1, 5, 1);
        Probe.due("the partner came", q.changes(), "-1:1,null;+1:1,5;");
        Probe.due("watermark(7)", q.x.watermark(7), 2);
        Probe.due("the partner grew old", q.changes(), "-1:1,5;+1:1,null;");
    }

    private static void ordered() {
        Probe p = new Probe().streams(2);
        p.well("unbounded select a, b from s0 as p order by b desc limit 3", 2);
        p.row(0, 0, 1, 1);
        p.row(0, 0, 2, 2);
        p.row(0, 0, 3, 3);
        Probe.due("answer", p.answer(), "3,3;2,2;1,1;");
        p.row(0, 0, 0, 9);
        Probe.due("one came, one went", p.changes(), "-1:1,1;+1:0,9;");
        Probe.due("answer", p.answer(), "0,9;3,3;2,2;");
        p.row(0, 0, 5, 1);
        Probe.due("below the cut", p.changes(), "");
        p.x.back(0, 3);
        Probe.due("the cut goes down", p.changes(), "-1:0,9;+1:1,1;");
        // Changes are told by columns, whatever order the answer is in.
        p.well("unbounded select a, b from s0 as p order by a desc limit 100", 2);
        Probe.due("answer", p.answer(), "5,1;3,3;2,2;1,1;");
        p.well("unbounded select 9 - p.a as x, q.a as y from s0 as p join s0 as q on true order by y, x desc limit 100", 2);
        p.x.back(0, 4);
        Probe.due("changes by columns", p.changes(), "-1:4,1;-1:4,2;-1:4,3;-1:4,5;-1:6,5;-1:7,5;-1:8,5;");
        p.row(0, 0, 4, 4);
        Probe.due("changes by columns", p.changes(), "+1:5,1;+1:5,2;+1:5,3;+1:5,4;+1:6,4;+1:7,4;+1:8,4;");
    }

    private static void groupedAndJoined() {
        Probe p = new Probe().streams(2);
        p.well("unbounded select k, count(*), sum(b) from s0 as p group by a as k", 3);
        p.row(0, 0, 1, 5);
        Probe.due("a new group", p.changes(), "+1:1,1,5;");
        p.row(0, 0, 1, null);
        Probe.due("a group changed", p.changes(), "-1:1,1,5;+1:1,2,5;");
        p.row(0, 0, null, null);
        Probe.due("a group of NULL", p.changes(), "+1:null,1,null;");
        p.x.back(0, 0);
        Probe.due("a group changed", p.changes(), "-1:1,2,5;+1:1,1,null;");
        p.x.back(0, 1);
        Probe.due("a group went", p.changes(), "-1:1,1,null;");
        p.well("unbounded select count(*) from s0 as p", 1);
        Probe.due("answer", p.answer(), "1;");
        p.x.back(0, 2);
        Probe.due("count of none", p.changes(), "-1:1;+1:0;");
        p.well("unbounded select a from s0 as p except select b from s0 as q", 1);
        p.row(0, 0, 1, 2);
        p.row(0, 0, 1, 3);
        Probe.due("once is enough", p.changes(), "");
        p.row(0, 0, 3, 1);
        Probe.due("taken away by the second", p.changes(), "-1:1;");
        p.well("unbounded select distinct a from s0 as p", 1);
        p.x.back(0, 0);
        Probe.due("another is there still", p.changes(), "");
        p.x.back(0, 1);
        Probe.due("the last went", p.changes(), "-1:1;");
    }

    private static void refused() {
        Probe p = new Probe().streams(1);
        p.well("select a from s0 as p keep 5", 1);
        p.row(0, 0, 1);
        Probe.due("row of no such stream", p.row(1, 0, 1), -1);
        Probe.due("changes() of it", p.x.changes(), 0);
        p.row(0, 0, 1);
        Probe.due("row with too many values", p.row(0, 0, 1, 2), -1);
        Probe.due("changes() of it", p.x.changes(), 0);
        p.row(0, 0, 1);
        Probe.due("back of none", p.x.back(0, 7), false);
        Probe.due("changes() of it", p.x.changes(), 0);
        p.row(0, 0, 1);
        Probe.due("a watermark", p.x.watermark(1), 0);
        Probe.due("changes() of it", p.x.changes(), 0);
        p.row(0, 1, 1);
        Probe.due("a lower watermark", p.x.watermark(0), 0);
        Probe.due("changes() of it", p.x.changes(), 0);
        p.row(0, 1, 1);
        p.bad("select", 1, 6);
        Probe.due("changes() of a query with a fault", p.x.changes(), 0);
        p.row(0, 1, 1);
        Probe.due("changes()", p.x.changes(), 1);
        p.well("select a from s0 as p", 1);
        Probe.due("changes() of a query", p.x.changes(), 0);
        Probe.due("answer", p.answer(), "1;1;1;1;1;1;1;");
    }

    private static void edges() {
        Probe p = new Probe().streams(2);
        p.well("select a, b, a is null from s0 as p", 3);
        p.row(0, 0, null, 6);
        Probe.due("changed(0, 0) of NULL", p.x.changed(0, 0), 0);
        Probe.due("changedNull(0, 0)", p.x.changedNull(0, 0), true);
        Probe.due("changed(0, 1)", p.x.changed(0, 1), 6);
        Probe.due("changedNull(0, 1)", p.x.changedNull(0, 1), false);
        Probe.due("changed(0, 2), a truth", p.x.changed(0, 2), 1);
        int[] none = {-1, 3, 1000, Integer.MIN_VALUE, Integer.MAX_VALUE};
        for (int i : none) {
            Probe.due("change(" + i + ")", p.x.change(i), 0);
            Probe.due("changed(" + i + ", 1)", p.x.changed(i, 1), 0);
            Probe.due("changed(0, " + i + ")", p.x.changed(0, i), 0);
            Probe.due("changedNull(" + i + ", 0)", p.x.changedNull(i, 0), false);
            Probe.due("changedNull(0, " + i + ")", p.x.changedNull(0, i), false);
        }
        Probe.due("change(1)", p.x.change(1), 0);
        Probe.due("changed(1, 1)", p.x.changed(1, 1), 0);
        p.x.back(0, 0);
        Probe.due("a change below 0", p.changes(), "-1:null,6,1;");
        // A query on the same tape's words asks anew, and changes are of the query that stands.
        p.well("select b from s0 as p", 1);
        p.row(0, 0, null, 8);
        Probe.due("changes of the new query", p.changes(), "+1:8;");
        Probe.due("no second column", p.x.changed(0, 1), 0);
    }

    /** Behind each of many acts the changes are what the answers before and after differ by. */
    private static void againstTheAnswers() {
        String[] texts = {
            "unbounded select p.a, q.b from s0 as p left join s1 as q on p.b = q.a and p.time <= q.time",
            "select k, count(*), max(p.b) from s0 as p keep 6 join s1 as q keep 9 on p.a <= q.a group by q.b as k",
            "unbounded select a from s0 as p union all select b from s1 as q except select a from s1 as r where b > 1",
            "select a, b from s0 as p keep 4 order by b desc, a limit 3",
            "unbounded select distinct x.m, a from (select k, min(b) as m from s0 as p keep 8 group by a as k) as x"
                + " left join s1 as y on x.k = y.b",
        };
        long seed = 12345;
        for (String text : texts) {
            Probe p = new Probe().streams(2, 2);
            p.ask(text);
            for (int i = 0; i < 130; i++) {
                String old = p.answer();
                seed = seed * 6364136223846793005L + 1442695040888963407L;
                int dice = (int) (seed >>> 33);
                int act = dice % 8;
                int s = dice / 8 % 2;
                if (act < 5) {
                    p.row(s, i / 10 + dice / 16 % 3, dice / 64 % 4 == 0 ? null : dice / 256 % 3, dice / 1024 % 4);
                } else if (act < 7) {
                    p.x.back(s, dice / 16 % 8);
                } else {
                    Probe.due("watermark", p.x.watermark(i / 10), p.x.changes());
                }
                Probe.due("changes of " + text, p.changes(), difference(old, p.answer()));
            }
        }
    }

    /** Rows in order, NULL first, as texts that sort so. */
    private static String difference(String before, String after) {
        TreeMap<String, Integer> more = new TreeMap<>();
        count(more, before, -1);
        count(more, after, 1);
        StringBuilder all = new StringBuilder();
        for (int sign = -1; sign <= 1; sign += 2) {
            for (String row : more.keySet()) {
                int n = more.get(row);
                if (n * sign > 0) {
                    all.append(n > 0 ? "+" : "").append(n).append(":").append(row.replace("!", "null")).append(";");
                }
            }
        }
        return all.toString();
    }

    private static void count(TreeMap<String, Integer> more, String rows, int by) {
        for (String row : rows.split(";")) {
            if (!row.isEmpty()) {
                more.merge(row.replace("null", "!"), by, Integer::sum);
            }
        }
    }
}
