/** Promises 5, 16 to 18: what texts mean, by the answers of rows(), at() and isNull(). */
public final class MeaningTest {
    private static final String MIN = "-9223372036854775808";
    private static final String MAX = "9223372036854775807";

    public static void main(String[] args) {
        numbers();
        edges();
        truths();
        lists();
        binding();
        sources();
        joins();
        groups();
        aggregates();
        distinctAndSets();
        orders();
        inner();
        reading();
        Probe.end("MeaningTest");
    }

    /** The answer of a SELECT of one row with a = 7, b = -2, c = NULL, d = 0. */
    private static void one(String items, String want) {
        Probe p = new Probe().streams(4);
        p.row(0, 5, 7, -2, null, 0);
        p.answers("select " + items + " from s0 as p", want + ";");
    }

    private static void numbers() {
        one("a + b, a - b, a * b, a / b, a % b", "5,9,-14,-3,1");
        one("b / a, b % a, -a / 2, -a % 2, a / -2, -b", "0,-2,-3,-1,-3,2");
        one("a / d, a % d, d / d, d % d, d / a", "null,null,null,null,0");
        one("a + c, c - a, a * c, c / a, a % c, -c, c / d", "null,null,null,null,null,null,null");
        one("span(a, 5), span(b, 5), span(a, 7), span(d, 3), span(-5, 5), span(-6, 5)", "5,-5,7,0,-5,-10");
        one("span(a, 0), span(a, b), span(c, 5), span(a, c), span(a, 1), span(b, 1)", "null,null,null,null,7,-2");
        one("a = 7, a <> 7, a < 7, a <= 7, a > 7, a >= 7", "1,0,0,1,0,1");
        one("b = 7, b <> 7, b < 7, b <= 7, b > 7, b >= 7", "0,1,1,1,0,0");
        one("9 = a, 9 < a, 9 <= a, 9 > a, 9 >= a", "0,0,0,1,1");
        one("a = c, c <> a, c < a, a <= c, c > c, c >= 1, c = c, null = null", "null,null,null,null,null,null,null,null");
        one("a is null, a is not null, c is null, c is not null, null is null, (c = 1) is null, true is null", "0,1,1,0,1,1,0");
        one("case when a = 7 then 1 else 2 end, case when a = 8 then 1 else 2 end", "1,2");
        one("case when c = 7 then 1 else 2 end, case when null then 1 else c end", "2,null");
        one("case when true then c else 2 end, case when a > b then true else null end", "null,1");
        one("time, p.time + 1", "5,6");
    }

    private static void edges() {
        one(MAX + " + 1, -" + MAX + " - 2, " + MAX + " * 2", MIN + "," + MAX + ",-2");
        one("-" + MAX + " - 1", MIN);
        one("-(-" + MAX + " - 1), (-" + MAX + " - 1) / -1, (-" + MAX + " - 1) % -1", MIN + "," + MIN + ",0");
        one("span(" + MAX + ", 10), span(-" + MAX + " - 1, 10)", "9223372036854775800,9223372036854775806");
        one("span(-" + MAX + " - 1, 2), span(-" + MAX + " - 1, " + MAX + ")", MIN + ",2");
        one("span(" + MAX + ", " + MAX + "), span(-1, " + MAX + ")", MAX + ",-" + MAX);
        one("-" + MAX + " - 1 < " + MAX + ", " + MAX + " > -1", "1,1");
    }

    private static void truths() {
        String[] names = {"false", "true", "null"};
        int[][] and = {{0, 0, 0}, {0, 1, 2}, {0, 2, 2}};
        int[][] or = {{0, 1, 2}, {1, 1, 1}, {2, 1, 2}};
        String[] shown = {"0", "1", "null"};
        for (int i = 0; i < 3; i++) {
            for (int j = 0; j < 3; j++) {
                one(names[i] + " and " + names[j], shown[and[i][j]]);
                one(names[i] + " or " + names[j], shown[or[i][j]]);
            }
        }
        one("not true, not false, not null, not not true, not not null", "0,1,null,1,null");
        one("not a = 7, not a is null, not a in (1)", "0,1,1");
    }

    private static void lists() {
        one("a in (7), a in (8), a in (1, 7), a in (1, 2, 3)", "1,0,1,0");
        one("a not in (7), a not in (8), a not in (1, 7)", "0,1,0");
        one("a in (7, null), a in (null, 7), a in (8, null), a in (null)", "1,1,null,null");
        one("a not in (7, null), a not in (8, null)", "0,null");
        one("c in (7), c in (null), c not in (7), c in (c)", "null,null,null,null");
        one("a in (b + 9), a + 1 in (a * 2 - 6, 0)", "1,1");
        one("a in (1, 2, 3, 4, 5, 6, 8, 7), a in (7, 2, 3, 4, 5, 6, 8, 1)", "1,1");
    }

    private static void binding() {
        one("1 + 2 * 3, (1 + 2) * 3, 10 - 3 - 2, 10 - (3 - 2), 100 / 10 / 5, 2 * 7 % 4", "7,9,5,9,2,2");
        one("-2 * 3 + 1, - -2, 1 - -2, -(1 + 2)", "-5,2,3,-3");
        one("true or true and false, (true or true) and false, not false and false, not (false and false)", "1,0,0,1");
        one("false and true or true, true or false and null, not true or true", "1,1,1");
        one("1 + 1 = 2 and 3 > 2, 1 < 2 or 1 = 2, a + 1 is null, a + 1 in (8)", "1,1,0,1");
        one("case when a = 7 and b = 2 then 1 else case when b < 0 then 2 else 3 end end + 1", "3");
    }

    private static void sources() {
        Probe p = new Probe().streams(1, 2);
        p.row(0, 10, 1);
        p.row(0, 20, 2);
        p.row(0, 20, 2);
        p.answers("select a from s0 as p", "1;2;2;");
        p.answers("select a, time from s0 as p keep 5", "1,10;2,20;2,20;");
        p.x.watermark(20);
        p.answers("select a from s0 as p keep 5", "2;2;");
        p.answers("select a from s0 as p keep 10", "1;2;2;");
        p.answers("select a from s0 as p keep 9", "2;2;");
        p.answers("select a from s0 as p keep 0", "2;2;");
        p.x.watermark(21);
        p.answers("select a from s0 as p keep 0", "");
        p.answers("select a from s0 as p", "1;2;2;");
        p.answers("select a from s0 as p keep " + MAX, "1;2;2;");
        p.answers("select a from s0 as p where a = 2", "2;2;");
        p.answers("select a from s0 as p where null", "");
        p.answers("select a from s0 as p where a = 1 having true", "1;");
        p.answers("select a from s0 as p where true having a = 2", "2;2;");
        p.answers("select 5 from s0 as p", "5;5;5;");
        p.answers("select 5 from s1 as p", "");
        // Less than the least long there is no time.
        Probe q = new Probe().streams(1);
        q.row(0, Long.MIN_VALUE, 1);
        q.row(0, Long.MAX_VALUE, 2);
        q.answers("select a from s0 as p keep 0", "1;2;");
        q.x.watermark(Long.MIN_VALUE + 5);
        q.answers("select a from s0 as p keep 4", "2;");
        q.answers("select a from s0 as p keep 5", "1;2;");
        q.answers("select a from s0 as p keep 6", "1;2;");
        q.answers("select a from s0 as p keep " + MAX, "1;2;");
        q.x.watermark(Long.MAX_VALUE);
        q.answers("select a from s0 as p keep " + MAX, "2;");
        q.answers("select a from s0 as p keep 0", "2;");
    }

    private static Probe twoStreams() {
        Probe p = new Probe().streams(2, 2);
        p.row(0, 1, 1, 10);
        p.row(0, 2, 2, 20);
        p.row(0, 3, null, 30);
        p.row(1, 4, 1, 100);
        p.row(1, 5, 1, 101);
        p.row(1, 6, null, 102);
        return p;
    }

    private static void joins() {
        Probe p = twoStreams();
        p.answers("unbounded select p.b, q.b from s0 as p join s1 as q on p.a = q.a", "10,100;10,101;");
        p.answers("unbounded select p.b, q.b from s0 as p left join s1 as q on p.a = q.a",
            "10,100;10,101;20,null;30,null;");
        p.answers("unbounded select q.b, q.time, q.a is null from s0 as p left join s1 as q on false",
            "null,null,1;null,null,1;null,null,1;");
        p.answers("unbounded select p.b from s0 as p left join s1 as q on null", "10;20;30;");
        p.answers("unbounded select p.b, q.b, q.a, q.time from s0 as p left join (select b, a, time from s1 as r where a = 1)"
            + " as q on p.a = q.a + 1", "10,null,null,null;20,100,1,4;20,101,1,5;30,null,null,null;");
        p.answers("unbounded select p.b, q.b, p.time from s0 as p left join (select b from s1 as r where false) as q on true",
            "10,null,1;20,null,2;30,null,3;");
        p.answers("unbounded select p.b, q.b from s0 as p join (select b from s1 as r where false) as q on true", "");
        p.answers("unbounded select p.b from s0 as p join s1 as q on null", "");
        p.answers("unbounded select p.b, q.b from s0 as p join s1 as q on true where p.b = 10", "10,100;10,101;10,102;");
        p.answers("unbounded select p.b from s0 as p left join s1 as q on p.a = q.a where q.b is null", "20;30;");
        p.answers("unbounded select p.b, q.b, r.b from s0 as p join s1 as q on p.a = q.a join s0 as r on r.b = q.b - 85",
            "");
        p.answers("unbounded select p.b, q.b, r.b from s0 as p join s1 as q on p.a = q.a join s0 as r on r.b = q.b - 80",
            "10,100,20;");
        p.answers("unbounded select p.b, q.b, r.b from s0 as p left join s1 as q on p.a = q.a"
            + " left join s0 as r on r.b = q.b - 80", "10,100,20;10,101,null;20,null,null;30,null,null;");
        p.answers("unbounded select p.b, q.b, r.b from s0 as p left join s1 as q on p.a = q.a"
            + " join s0 as r on q.b is null and r.b = p.b", "20,null,20;30,null,30;");
        p.answers("unbounded select count(*) from s0 as p join s1 as q on true join s1 as r on true", "27;");
        // A row is there as often as it is joined.
        p.answers("unbounded select 1 from s0 as p join s0 as q on p.a = q.a", "1;1;");
        p.answers("unbounded select p.b, q.b from s0 as p left join s1 as q keep 0 on p.a = q.a",
            "10,100;10,101;20,null;30,null;");
        p.x.watermark(5);
        p.answers("unbounded select p.b, q.b from s0 as p left join s1 as q keep 0 on p.a = q.a",
            "10,101;20,null;30,null;");
    }

    private static void groups() {
        Probe p = new Probe().streams(2);
        long[][] rows = {{1, 5}, {2, 6}, {1, 7}, {2, 6}};
        for (long[] r : rows) {
            p.row(0, r[1], r[0], r[1]);
        }
        p.row(0, 9, null, 8);
        p.row(0, 9, null, null);
        p.answers("unbounded select k, count(*), count(b), sum(b), min(b), max(b) from s0 as p group by a as k",
            "null,2,1,8,8,8;1,2,2,12,5,7;2,2,2,12,6,6;");
        p.answers("unbounded select k from s0 as p group by b % 2 as k", "null;0;1;");
        p.answers("unbounded select j, k, count(*) from s0 as p group by a as k, b as j",
            "null,null,1;5,1,1;6,2,2;7,1,1;8,null,1;");
        p.answers("unbounded select k, count(*) from s0 as p group by a = 1 as k", "null,2;0,2;1,2;");
        p.answers("unbounded select k from s0 as p group by a as k having count(*) > 1 and max(b) < 8", "1;2;");
        p.answers("unbounded select sum(b) from s0 as p group by a as k having k = 1", "12;");
        p.answers("unbounded select k + sum(b) * 2 from s0 as p group by a as k", "null;25;26;");
        p.answers("unbounded select sum(a + b), sum(a) + sum(b) from s0 as p", "30,38;");
        p.answers("unbounded select k, count(*) from s0 as p where b > 5 group by a as k", "null,1;1,1;2,2;");
        p.answers("unbounded select k from s0 as p where false group by a as k", "");
        p.answers("unbounded select count(*), count(b), sum(b), min(b), max(b) from s0 as p where false", "0,0,null,null,null;");
        p.answers("unbounded select 7 from s0 as p having count(*) = 6", "7;");
        p.answers("unbounded select 7 from s0 as p having count(*) = 5", "");
        p.answers("unbounded select 7 from s0 as p where false having count(*) = 0", "7;");
        p.answers("unbounded select 3 from s0 as p group by 1 as k", "3;");
        p.answers("unbounded select a, count(a) from s0 as p group by b as a", "null,0;5,1;6,2;7,1;8,0;");
        p.answers("unbounded select k, n from (select k, count(*) as n from s0 as p group by span(time, 4) as k) as q",
            "4,4;8,2;");
    }

    private static void aggregates() {
        Probe p = new Probe().streams(2);
        p.row(0, 0, Long.MAX_VALUE, 1);
        p.row(0, 0, Long.MAX_VALUE, -3);
        p.row(0, 0, Long.MIN_VALUE, null);
        p.answers("unbounded select sum(a), min(a), max(a), sum(a) - 1, -sum(a) from s0 as p",
            "9223372036854775806," + MIN + "," + MAX + ",9223372036854775805,-9223372036854775806;");
        p.answers("unbounded select count(*), count(b), count(b = 1), count(true), count(null), count(b is null) from s0 as p",
            "3,2,2,3,0,3;");
        p.answers("unbounded select sum(case when b is null then 10 else b end), min(-b), max(span(b, 2)) from s0 as p",
            "8,-1,0;");
        p.answers("unbounded select case when sum(b) < 0 then min(b) else max(b) end, count(*) in (1, 3) from s0 as p",
            "-3,1;");
        p.answers("unbounded select sum(p.b * q.b) from s0 as p join s0 as q on p.b <> q.b", "-6;");
        p.answers("unbounded select sum(null), min(null), max(null) from s0 as p", "null,null,null;");
        p.answers("unbounded select " + "count(*) + ".repeat(11) + "sum(b) from s0 as p", "31;");
    }

    private static void distinctAndSets() {
        Probe p = new Probe().streams(1, 1);
        Integer[] left = {1, 1, 2, null, null, 3};
        Integer[] right = {1, null, 4, 4};
        for (Integer v : left) {
            p.row(0, 0, v);
        }
        for (Integer v : right) {
            p.row(1, 0, v);
        }
        p.answers("unbounded select distinct a from s0 as p", "null;1;2;3;");
        p.answers("unbounded select distinct a is null, 1 from s0 as p", "0,1;1,1;");
        p.answers("unbounded select distinct a, time from s0 as p", "null,0;1,0;2,0;3,0;");
        String l = "unbounded select a from s0 as p ";
        String r = " select a from s1 as q";
        p.answers(l + "union all" + r, "null;null;null;1;1;1;2;3;4;4;");
        p.answers(l + "union" + r, "null;1;2;3;4;");
        p.answers(l + "except" + r, "2;3;");
        p.answers(l + "intersect" + r, "null;1;");
        p.answers("unbounded select a from s1 as p except select a from s0 as q", "4;");
        p.answers(l + "except" + r + " where false", "null;1;2;3;");
        p.answers(l + "intersect" + r + " where false", "");
        p.answers(l + "union" + r + " where false", "null;1;2;3;");
        // From the left.
        p.answers(l + "except" + r + " union all" + r, "null;1;2;3;4;4;");
        p.answers(l + "union all" + r + " except" + r, "2;3;");
        p.answers(l + "except" + r + " intersect" + r, "");
        p.answers(l + "union" + r + " union all" + r, "null;null;1;1;2;3;4;4;4;");
        p.answers("unbounded select distinct a from s0 as p union all" + r, "null;null;1;1;2;3;4;4;");
        p.answers("unbounded select a, 1 from s0 as p intersect select a, 2 from s1 as q", "");
        p.answers("unbounded select a, true from s0 as p intersect select a, a is null from s1 as q", "null,1;");
    }

    private static void orders() {
        Probe p = new Probe().streams(2);
        Integer[][] rows = {{2, 5}, {1, 5}, {3, null}, {null, 4}, {2, 5}};
        for (Integer[] r : rows) {
            p.row(0, 0, (Object[]) r);
        }
        String all = "unbounded select a, b from s0 as p order by ";
        p.answers(all + "b limit 100", "3,null;null,4;1,5;2,5;2,5;");
        p.answers(all + "b desc limit 100", "1,5;2,5;2,5;null,4;3,null;");
        p.answers(all + "b desc, a desc limit 100", "2,5;2,5;1,5;null,4;3,null;");
        p.answers(all + "b, a desc limit 100", "3,null;null,4;2,5;2,5;1,5;");
        p.answers(all + "1 limit 100", "null,4;1,5;2,5;2,5;3,null;");
        p.answers(all + "1 desc limit 100", "null,4;1,5;2,5;2,5;3,null;");
        p.answers(all + "a is null desc, a % 2, a desc limit 100", "null,4;2,5;2,5;3,null;1,5;");
        p.answers(all + "-a limit 3", "null,4;3,null;2,5;");
        p.answers(all + "a limit 0", "");
        p.answers(all + "a limit 1", "null,4;");
        p.answers(all + "a limit 2", "null,4;1,5;");
        p.answers(all + "a desc limit 2", "3,null;2,5;");
        p.answers(all + "a desc limit 3", "3,null;2,5;2,5;");
        p.answers("unbounded select a as x, -a as y from s0 as p order by y limit 2", "null,null;3,-3;");
        p.answers("unbounded select a, b from s0 as p union select b, a from s0 as q order by b, a limit 3",
            "3,null;4,null;5,1;");
        p.answers("unbounded select k, count(*) as n from s0 as p group by a as k order by n desc, k desc limit 2", "2,2;3,1;");
        p.answers("unbounded select a, time from s0 as p order by time, a desc limit 1", "3,0;");
        p.answers(all + "b, a, b, a, b, a, b desc, a desc limit 2", "3,null;null,4;");
    }

    private static void inner() {
        Probe p = twoStreams();
        p.answers("select x + 1 from (select b as x from s0 as p where a is not null) as q", "11;21;");
        p.answers("unbounded select m, b from (select max(b) as m from s0 as p) as q join s1 as r on r.b > 100", "30,101;30,102;");
        p.answers("unbounded select q.t from (select a is null as t from s0 as p) as q where t", "1;");
        p.answers("unbounded select b from (select a, b from s0 as p order by b desc limit 2) as q", "20;30;");
        p.answers("unbounded select b from (select a, b from s0 as p order by b desc limit 2) as q order by b limit 1", "20;");
        p.answers("unbounded select n, count(*) from (select k, count(*) as n from s1 as p group by a as k) as q"
            + " group by n as n", "1,1;2,1;");
        p.answers("unbounded select p.b, n from s0 as p left join (select k, count(*) as n from s1 as r group by a as k) as q"
            + " on p.a = k", "10,2;20,null;30,null;");
        p.answers("unbounded select a from (select a from s0 as p union all select b from s1 as q) as z where a > 1",
            "2;100;101;102;");
        p.answers("unbounded select x, y from (select p.a as x, q.a as y from s0 as p left join s1 as q on p.a = q.a) as z"
            + " left join s0 as w on x = w.a and y is null", "null,null;1,1;1,1;2,null;");
        p.answers("select a from (select a from (select a from (select b as a from s0 as p) as p) as p) as p", "10;20;30;");
        p.answers("select time from (select time from s0 as p) as q where q.time > 1", "2;3;");
    }

    /** Edges of rows(), at() and isNull(). */
    private static void reading() {
        Probe p = new Probe().streams(2);
        p.row(0, 0, 5, null);
        p.row(0, 0, null, 6);
        p.row(0, 0, 5, null);
        p.well("select a, b, b is null from s0 as p", 3);
        Probe.due("rows()", p.x.rows(), 3);
        Probe.due("answer", p.answer(), "null,6,0;5,null,1;5,null,1;");
        int[] none = {-1, 3, 100, Integer.MIN_VALUE, Integer.MAX_VALUE};
        for (int i : none) {
            Probe.due("at(" + i + ", 0)", p.x.at(i, 0), 0);
            Probe.due("isNull(" + i + ", 0)", p.x.isNull(i, 0), false);
            Probe.due("at(1, " + i + ")", p.x.at(1, i), 0);
            Probe.due("isNull(1, " + i + ")", p.x.isNull(1, i), false);
            Probe.due("isNull(" + i + ", " + i + ")", p.x.isNull(i, i), false);
        }
        Probe.due("at(0, 0) of NULL", p.x.at(0, 0), 0);
        Probe.due("isNull(0, 0)", p.x.isNull(0, 0), true);
        Probe.due("at(1, 0)", p.x.at(1, 0), 5);
        Probe.due("isNull(1, 0)", p.x.isNull(1, 0), false);
        Probe.due("at(2, 2), a truth", p.x.at(2, 2), 1);
        p.x.back(0, 0);
        Probe.due("rows()", p.x.rows(), 2);
        Probe.due("at(2, 2), gone", p.x.at(2, 2), 0);
        p.well("unbounded select a from s0 as p order by a limit 0", 1);
        Probe.due("rows()", p.x.rows(), 0);
        Probe.due("at(0, 0)", p.x.at(0, 0), 0);
        Probe.due("isNull(0, 0)", p.x.isNull(0, 0), false);
    }
}
