/** Promises 5 and 6, FAULT 7: a text that has too much of something. */
public final class MuchTest {
    public static void main(String[] args) {
        sources();
        items();
        groups();
        orders();
        lists();
        aggregates();
        nests();
        nestsOfQueries();
        exprs();
        exprsInOrder();
        Probe.end("MuchTest");
    }

    private static Probe probe() {
        return new Probe().streams(2, 1);
    }

    /** One behind another with something between them. */
    private static String many(int count, String one, String between) {
        StringBuilder all = new StringBuilder();
        for (int i = 0; i < count; i++) {
            all.append(i > 0 ? between : "").append(one);
        }
        return all.toString();
    }

    private static void sources() {
        Probe p = probe();
        p.well("unbounded select 1 from s0 as p join s0 as q on true join s1 as r on true", 1);
        p.faulty(7, "select 1 from s0 as p join s0 as q on true join s1 as r on true join @s1 as t on true");
        p.faulty(7, "select 1 from s0 as p union all select 1 from s0 as p union all select 1 from s0 as p"
            + " union all select 1 from @s9 as p");
        p.faulty(1, "select 1 from s0 as p join s0 as q on true join s1 as r on true join @x as t on true");
        p.faulty(1, "select 1 from s0 as p join s0 as q on true join s1 as r on true join @s10 as t on true");
        p.faulty(7, "select 1 from (select 1 as a from s0 as p) as p join (select 2 as b from s0 as p join s1 as q on true)"
            + " as q on true join (select a from @s0 as p) as r on true");
        // One that there is no stream of counts, too: that is looked at later.
        p.faulty(7, "select 1 from s9 as p join s9 as q on true join s9 as r on true join @s9 as t on true");
    }

    private static void items() {
        Probe p = probe();
        p.well("select " + many(8, "a", ", ") + " from s0 as p", 8);
        String eight = "select " + many(8, "a", ", ") + ", @";
        String[] begins = {"a", "1", "null", "true", "false", "time", "p.a", "(a)", "-a", "not true", "count(*)", "sum(a)",
            "min(a)", "max(a)", "case", "span", "p ?", "- )", "( ("};
        for (String begin : begins) {
            p.faulty(7, eight + begin + " from s0 as p");
        }
        String[] others = {"from s0 as p", ")", "*", "+ 1", ", a", "as a", "in", "is", "?", "when", "", "99999999999999999999",
            "abcdefghijklmn", "distinct a"};
        for (String other : others) {
            p.faulty(1, eight + other);
        }
        p.faulty(1, "select " + many(8, "a", ", ") + " @a");
    }

    private static void groups() {
        Probe p = probe();
        StringBuilder eight = new StringBuilder("unbounded select 1 from s0 as p group by a as k0");
        for (int i = 1; i < 8; i++) {
            eight.append(", a as k").append(i);
        }
        p.well(eight.toString(), 1);
        p.faulty(7, eight + ", @a as k8");
        p.faulty(7, eight + ", @not");
        p.faulty(7, eight + ", @- as");
        p.faulty(1, eight + ", @sum(a) as k8");
        p.faulty(1, eight + ", @count(*) as k8");
        p.faulty(1, eight + ", @having true");
        p.faulty(1, eight + ", @");
    }

    private static void orders() {
        Probe p = probe();
        String eight = "unbounded select a from s0 as p order by " + many(8, "a desc", ", ");
        p.well(eight + " limit 1", 1);
        p.faulty(7, eight + ", @a desc limit 1");
        p.faulty(7, eight + ", @not a limit 1");
        p.faulty(1, eight + ", @min(a) limit 1");
        p.faulty(1, eight + ", @limit 1");
        p.faulty(1, eight + ", @desc limit 1");
    }

    private static void lists() {
        Probe p = probe();
        p.well("select a in (" + many(8, "a", ", ") + ") from s0 as p", 1);
        p.well("select a not in (" + many(8, "a", ", ") + ") and b in (" + many(8, "b", ", ") + ") from s0 as p", 1);
        String eight = "select a in (" + many(8, "a", ", ") + ", @";
        p.faulty(7, eight + "a) from s0 as p");
        p.faulty(7, eight + "(not true)) from s0 as p");
        p.faulty(7, eight + "-?");
        p.faulty(7, eight + "sum(a)) from s0 as p");
        p.faulty(1, eight + "not true) from s0 as p");
        p.faulty(1, eight + ") from s0 as p");
        p.faulty(1, eight + "from");
        p.faulty(1, "select 1 from s0 as p where a in (" + many(8, "a", ", ") + ", @sum(a)) from s0 as p");
        p.faulty(7, "select 1 from s0 as p where a not in (" + many(8, "a", ", ") + ", @a) from s0 as p");
    }

    private static void aggregates() {
        Probe p = probe();
        p.well("unbounded select " + many(12, "count(*)", " + ") + " from s0 as p", 1);
        p.well("unbounded select " + many(6, "sum(a)", " + ") + " from s0 as p having 0 < " + many(6, "max(a)", " + "), 1);
        p.faulty(7, "select " + many(12, "count(*)", " + ") + " + @count(*) from s0 as p");
        p.faulty(7, "select " + many(12, "min(a)", " + ") + " + @sum ? from s0 as p");
        p.faulty(7, "select " + many(11, "min(a)", " + ") + " from s0 as p having count(a) > @max(b)");
        p.faulty(1, "select " + many(12, "count(*)", " + ") + " from s0 as p where @count(*) > 1");
        p.faulty(1, "select " + many(11, "count(*)", " + ") + " + sum(@sum(a)) from s0 as p");
        // Each SELECT has twelve of its own.
        String twelve = many(12, "count(*)", " + ");
        p.well("unbounded select " + twelve + " from (select " + twelve + " as a from s0 as p) as q union all select "
            + twelve + " from s1 as p", 1);
    }

    private static void nests() {
        Probe p = probe();
        String tail = " from s0 as p";
        p.well("select " + many(12, "(", "") + "a" + many(12, ")", "") + tail, 1);
        p.faulty(7, "select " + many(12, "(", "") + "@(a" + many(13, ")", "") + tail);
        p.well("select " + many(12, "-", " ") + " a" + tail, 1);
        p.faulty(7, "select " + many(12, "-", " ") + " @- a" + tail);
        p.well("select " + many(12, "not", " ") + " true" + tail, 1);
        p.faulty(7, "select " + many(12, "not", " ") + " @not true" + tail);
        p.faulty(7, "select " + many(12, "(", "") + "@span" + tail);
        p.faulty(7, "select " + many(12, "(", "") + "@case" + tail);
        p.faulty(7, "select " + many(12, "(", "") + "@count" + tail);
        p.faulty(7, "select " + many(12, "(", "") + "@sum" + tail);
        p.faulty(7, "select " + many(12, "(", "") + "@min" + tail);
        p.faulty(7, "select " + many(12, "(", "") + "@max" + tail);
        p.faulty(1, "select a from s0 as p where " + many(12, "(", "") + "@max(a)");
        p.well("select " + many(12, "span(1, ", "") + "a" + many(12, ")", "") + tail, 1);
        p.faulty(7, "select " + many(12, "span(1, ", "") + "@span(a, 1)" + many(12, ")", "") + tail);
        p.faulty(7, "select " + many(12, "span(", "") + "@span(a, 1)" + many(12, ", 1)", "") + tail);
        p.well("select " + many(12, "case when true then ", "") + "a" + many(12, " else 1 end", "") + tail, 1);
        p.faulty(7, "select " + many(12, "case when true then ", "") + "@case when" + tail);
        p.faulty(7, "select " + many(12, "case when ", "") + "@(true)" + tail);
        p.faulty(7, "select " + many(12, "case when true then 1 else ", "") + "@(1)" + tail);
        p.well("unbounded select " + many(11, "(", "") + "count(a)" + many(11, ")", "") + tail, 1);
        p.faulty(7, "unbounded select " + many(11, "(", "") + "count(@(a))" + many(11, ")", "") + tail);
        p.well("unbounded select " + many(11, "-", " ") + " count(*)" + tail, 1);
        // Brackets of in, and those that are closed already, do not count; nor does the not of not in, and is not.
        p.well("select " + many(12, "(", "") + "a not in (1, 2)" + many(12, ")", "") + tail, 1);
        p.well("select " + many(12, "(", "") + "a is not null" + many(12, ")", "") + tail, 1);
        p.well("select " + many(12, "(", "") + "a - 1" + many(12, ")", "") + tail, 1);
        p.well("select " + many(30, "(a)", " + ") + tail, 1);
        p.well("select " + many(8, "-(-(-(-(-(-a)))))", ", ") + tail, 8);
        p.well("select a in (" + many(8, "(a)", ", ") + ")" + tail, 1);
        p.faulty(7, "select a in (" + many(12, "(", "") + "@(a" + tail);
        p.well("select " + many(10, "(", "") + "not - a = 1" + many(10, ")", "") + tail, 1);
        p.faulty(7, "select " + many(11, "(", "") + "not @- a = 1" + many(11, ")", "") + tail);
    }

    private static void nestsOfQueries() {
        Probe p = probe();
        p.well(many(12, "select a from (", "") + "select a from s0 as p" + many(12, ") as p", ""), 1);
        p.faulty(7, many(12, "select a from (", "") + "select a from @(select");
        p.well(many(12, "select a from (", "") + "select a from s0 as p where a = 1" + many(12, ") as p", ""), 1);
        p.faulty(7, many(12, "select a from (", "") + "select @(a) from s0 as p" + many(12, ") as p", ""));
        p.faulty(7, many(12, "select a from (", "") + "select a, @- a from s0 as p" + many(12, ") as p", ""));
        p.faulty(7, many(12, "select a from (", "") + "select @max(a) from s0 as p" + many(12, ") as p", ""));
        p.well(many(11, "select a from (", "") + "select (a) as a from s0 as p" + many(11, ") as p", ""), 1);
        // Behind the QUERY that is closed there is room again.
        p.well("select a from (select a from s0 as p) as p where " + many(12, "(", "") + "true" + many(12, ")", ""), 1);
    }

    private static void exprs() {
        Probe p = probe();
        String tail = " from s0 as p";
        p.well("select " + many(60, "a", " + ") + tail, 1);
        Probe.due("told(3)", p.x.told(3), 119);
        p.well("select " + many(60, "a", " + ") + ", 1" + tail, 2);
        Probe.due("told(3)", p.x.told(3), 120);
        p.faulty(7, "select " + many(60, "a", " + ") + ", 1, @1" + tail);
        p.faulty(7, "select " + many(60, "a", " + ") + ", 1, @p.a" + tail);
        p.faulty(7, "select " + many(60, "a", " + ") + ", 1, @time" + tail);
        p.faulty(7, "select " + many(60, "a", " + ") + ", 1, @null" + tail);
        p.faulty(7, "select " + many(60, "a", " + ") + ", 1, (@true)" + tail);
        p.faulty(7, "select " + many(60, "a", " + ") + ", 1, @count(*)" + tail);
        p.faulty(7, "select " + many(60, "a", " + ") + ", @- 1" + tail);
        p.faulty(7, "select " + many(60, "a", " + ") + ", @not true" + tail);
        p.faulty(7, "select " + many(60, "a", " + ") + ", @sum(a)" + tail);
        p.faulty(7, "select " + many(60, "a", " + ") + ", a @is null" + tail);
        p.faulty(7, "select " + many(60, "a", " + ") + ", a @is not null" + tail);
        p.faulty(7, "select " + many(60, "a", " + ") + " + @-a" + tail);
        String rest = many(58, "a", " + ") + ", 1, 2, 3";
        p.well("select " + rest + ", 1, 2" + tail, 6);
        Probe.due("told(3)", p.x.told(3), 120);
        p.faulty(7, "select " + rest + ", a @= 1" + tail);
        p.faulty(7, "select " + rest + ", (a) @<= (1)" + tail);
        p.faulty(7, "select " + rest + ", true @and true" + tail);
        p.faulty(7, "select " + rest + ", true @or true" + tail);
        p.faulty(7, "select " + rest + ", 1 @% 2" + tail);
        p.faulty(7, "select " + rest + ", 1 @- 2" + tail);
        p.faulty(7, "select " + rest + ", a @in (1)" + tail);
        p.faulty(7, "select " + rest + ", a @not in (1)" + tail);
        p.faulty(7, "select " + rest + ", @span(1, 2)" + tail);
        p.faulty(7, "select " + many(58, "a", " + ") + ", 1, 2, @case when true then 1 else 2 end" + tail);
        p.well("select " + many(58, "a", " + ") + ", 1, case when true then 1 else 2 end" + tail, 3);
        // Of keep and limit the numbers are none.
        p.well("select " + many(60, "a", " + ") + " as a" + tail + " keep 5 order by 1 limit 5", 1);
        // A sub-query's and those of all clauses count together.
        p.faulty(7, "select a from (select " + many(40, "a", " + ") + " as a from s0 as p where " + many(20, "a", " + ")
            + " @= 1) as q");
    }

    private static void exprsInOrder() {
        Probe p = probe();
        String sixty = "select " + many(60, "a", " + ") + ", 1, ";
        // It is complete ahead of what stands behind it, so that counts first; what is not complete yet does not.
        p.faulty(7, sixty + "@a ?");
        p.faulty(7, sixty + "@a 12x");
        p.faulty(7, sixty + "@a b");
        p.faulty(1, sixty + "p.@?");
        p.faulty(1, sixty + "@?");
        p.faulty(7, "select " + many(60, "a", " + ") + ", @- 1 ?");
        p.faulty(1, "select " + many(60, "a", " + ") + ", a is @?");
        p.faulty(7, "select " + many(59, "a", " + ") + ", 1, 2 @* 3 ?");
        p.faulty(7, "select " + many(59, "a", " + ") + ", 1 + 2 @* 3 ?");
        p.faulty(7, "select " + many(59, "a", " + ") + ", 1, 1 @+ (2) ?");
        p.faulty(1, "select " + many(59, "a", " + ") + ", 1 + (2 @?");
        p.faulty(1, "select " + many(59, "a", " + ") + ", a in (1, @?");
        p.faulty(1, "select " + many(59, "a", " + ") + ", span(1, 2@?");
        p.faulty(1, "select " + many(58, "a", " + ") + ", count(a @?");
        // The act that binds closer is complete first.
        p.faulty(7, "select " + many(58, "a", " + ") + ", 1, 1 @+ 2 * 3");
        p.faulty(7, "select " + many(59, "a", " + ") + ", 1 * 2 + @3");
    }
}
