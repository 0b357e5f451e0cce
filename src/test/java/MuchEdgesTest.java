import java.util.ArrayList;
import java.util.List;

/**
 * The edges of FAULT 7, a method for each limit that it names: every kind of thing as the last one that is allowed and
 * as the first that is not, and where that is told. The sentence stands above its method.
 */
public final class MuchEdgesTest {
    /** What stands before and behind each thing that counts as within another; '@' is before the token that is told. */
    private static final String[][] NESTS = {
        {"@( ", " )"}, {"@case when ", " then 1 else 2 end"}, {"@case when true then ", " else 2 end"},
        {"@case when true then 1 else ", " end"}, {"@span ( ", " , 1 )"}, {"@span ( 1 , ", " )"}, {"@- ", ""}, {"@not ", ""},
    };
    private static final String[] AGGREGATES = {"count", "sum", "min", "max"};

    public static void main(String[] args) {
        fourthStream();
        ninthItem();
        ninthItemOfEachSelect();
        ninthOfGroupBy();
        ninthOfOrderBy();
        ninthOfIn();
        ninthThatCanNotBegin();
        thirteenthAggregate();
        thirteenthAggregateOfEachSelect();
        thirteenthWithin();
        thirteenthWithinQueries();
        thirteenthWithinIsNotBesides();
        farBeyondTheThirteenth();
        exprsOfEachKind();
        exprsOfEachClause();
        exprsAheadOfWhatStandsBehind();
        Probe.end("MuchEdgesTest");
    }

    private static Probe probe() {
        return new Probe().streams(4, 1);
    }

    private static String many(int count, String one, String between) {
        StringBuilder all = new StringBuilder();
        for (int i = 0; i < count; i++) {
            all.append(i > 0 ? between : "").append(one);
        }
        return all.toString();
    }

    /** A fourth sn of the text, at the TOKEN at which it is met. */
    private static void fourthStream() {
        Probe p = probe();
        String[] more = {" join # as @ on true", " left join # as @ on true", " union all select 1 from # as @",
            " join (select a from # as p) as @ on true", " union all select 1 from (select a from # as p) as @"};
        for (String first : more) {
            for (String second : more) {
                String three = "unbounded select 1 from s0 as k" + first.replace("@", "l").replace("#", "s1")
                    + second.replace("@", "m").replace("#", "s0");
                p.well(three, 1);
                Probe.due("told(4)", p.x.told(4), 3);
                for (String third : more) {
                    String four = third.replace("@", "n");
                    p.faulty(7, three + four.replace("#", "@s1"));
                    p.faulty(7, three + four.replace("#", "@s9"));
                    p.faulty(1, three + four.replace("#", "@t1"));
                    p.faulty(1, three + four.replace("#", "@5"));
                }
            }
        }
        p.well("select a from s0 as p", 1);
        Probe.due("told(4)", p.x.told(4), 1);
    }

    private static final String[] BEGINS = {"a", "p.a", "time", "7", "null", "true", "false", "(a)", "-a",
        "case when true then 1 else 2 end", "span(a, 1)"};

    /** A ninth ITEM (at its first TOKEN). */
    private static void ninthItem() {
        Probe p = probe();
        List<String> begins = new ArrayList<>(List.of(BEGINS));
        begins.addAll(List.of("not true", "count(*)", "sum(a)", "min(a)", "max(a)", "count(a)", "a as x"));
        for (String b : begins) {
            p.well("unbounded select " + many(7, "1", ", ") + ", " + b + " from s0 as p", 8);
            p.faulty(7, "unbounded select " + many(8, "1", ", ") + ", @" + b + " from s0 as p");
        }
        p.well("select " + many(8, "a", ", ") + " from s0 as p", 8);
    }

    /** Each SELECT has eight of its own. */
    private static void ninthItemOfEachSelect() {
        Probe p = probe();
        String eight = "a, b, c, d, time, 1 as e, 2 as f, 3 as g";
        p.well("select " + eight + " from (select " + eight + " from s0 as p) as p union all select " + eight + " from s0 as p", 8);
        p.faulty(7, "select " + eight + " from (select " + eight + ", @4 as h from s0 as p) as p");
        p.faulty(7, "select " + eight + ", @4 as h from (select " + eight + " from s0 as p) as p");
        p.faulty(7, "select " + eight + " from s0 as p union all select " + eight + ", @4 as h from s0 as p");
    }

    private static String groups(int count) {
        StringBuilder all = new StringBuilder("unbounded select 1 from s0 as p group by ");
        for (int i = 0; i < count; i++) {
            all.append(i > 0 ? ", " : "").append("a as k").append(i);
        }
        return all.toString();
    }

    /** A ninth EXPR of group by (at its first TOKEN ..). */
    private static void ninthOfGroupBy() {
        Probe p = probe();
        p.well(groups(8), 1);
        p.faulty(7, groups(8) + ", @not true as k8");
        for (String b : BEGINS) {
            p.well(groups(7) + ", " + b + " as k7", 1);
            p.faulty(7, groups(8) + ", @" + b + " as k8");
            p.faulty(7, groups(8) + ", @" + b);
        }
        p.faulty(1, groups(8) + " @a as k8");
    }

    /** A ninth EXPR of order by (at its first TOKEN ..). */
    private static void ninthOfOrderBy() {
        Probe p = probe();
        String start = "unbounded select a, time from s0 as p order by ";
        p.well(start + many(8, "a", ", ") + " limit 1", 2);
        p.well(start + many(8, "a desc", ", ") + " limit 1", 2);
        p.faulty(7, start + many(8, "a desc", ", ") + ", @not true limit 1");
        for (String b : BEGINS) {
            if (!b.equals("p.a")) {
                p.well(start + many(7, "a", ", ") + ", " + b + " desc limit 1", 2);
            }
            p.faulty(7, start + many(8, "a", ", ") + ", @" + b + " limit 1");
            p.faulty(7, start + many(8, "a", ", ") + ", @" + b);
        }
    }

    /** A ninth SUM in in ( ) (at its first TOKEN ..). */
    private static void ninthOfIn() {
        Probe p = probe();
        String[] ins = {"in", "not in"};
        for (String in : ins) {
            String start = "select a " + in + " (";
            p.well(start + many(8, "a", ", ") + ") from s0 as p", 1);
            p.well(start + many(8, "a + 1 * -2", ", ") + ") from s0 as p", 1);
            for (String b : BEGINS) {
                p.faulty(7, start + many(8, "a", ", ") + ", @" + b + ") from s0 as p");
                p.faulty(7, start + many(8, "a", ", ") + ", @" + b);
            }
            p.faulty(7, start + many(8, "a", ", ") + ", @sum(a)) from s0 as p");
            // Each in has eight of its own.
            p.well(start + many(8, "a", ", ") + ") or b " + in + " (" + many(8, "1", ", ") + ") from s0 as p", 1);
            p.well(start + many(7, "a", ", ") + ", (case when b in (" + many(8, "1", ", ") + ") then 1 else 2 end)) from s0 as p",
                1);
        }
    }

    /** .. if it can begin one there, else 1. */
    private static void ninthThatCanNotBegin() {
        Probe p = probe();
        String[] starts = {"select " + many(8, "a", ", "), groups(8), "unbounded select a from s0 as p order by " + many(8, "a", ", "),
            "select a in (" + many(8, "a", ", "), "select a from s0 as p where a not in (" + many(8, "a", ", ")};
        String[] others = {")", ",", ".", "+", "*", "/", "%", "=", "<>", "<", "<=", ">", ">=", "?", "5x", "9223372036854775808",
            "abcdefghijklm", "", "select", "distinct", "from", "join", "left", "on", "where", "group", "by", "having", "union",
            "all", "except", "intersect", "order", "desc", "limit", "as", "keep", "when", "then", "else", "end", "is", "in",
            "and", "or", "unbounded"};
        for (String start : starts) {
            for (String o : others) {
                p.faulty(1, start + ", @" + o);
            }
        }
        // What may not stand there can not begin one: an aggregate but in ITEMS and having, not in SUM.
        for (String a : AGGREGATES) {
            p.faulty(7, starts[0] + ", @" + a + "(a)");
            p.faulty(1, starts[1] + ", @" + a + "(a)");
            p.faulty(1, starts[2] + ", @" + a + "(a)");
            p.faulty(7, starts[3] + ", @" + a + "(a)");
            p.faulty(1, starts[4] + ", @" + a + "(a)");
            p.faulty(7, "select a from s0 as p having 1 in (" + many(8, "1", ", ") + ", @" + a + "(a)");
            p.faulty(1, "select count(1 in (" + many(8, "1", ", ") + ", @" + a + "(a)");
        }
        p.faulty(7, starts[0] + ", @not");
        p.faulty(7, starts[1] + ", @not");
        p.faulty(7, starts[2] + ", @not");
        p.faulty(1, starts[3] + ", @not");
        p.faulty(1, starts[4] + ", @not");
    }

    /** A 13th aggregate of a SELECT (1, where none may stand). */
    private static void thirteenthAggregate() {
        Probe p = probe();
        String[] kinds = {"count(*)", "count(a)", "sum(a)", "min(a)", "max(a)"};
        for (String k : kinds) {
            for (String last : kinds) {
                p.well("unbounded select " + many(11, k, " + ") + " + " + last + " from s0 as p", 1);
                p.faulty(7, "unbounded select " + many(12, k, " + ") + " + @" + last + " from s0 as p");
                p.faulty(7, "unbounded select " + many(12, k, " + ") + " from s0 as p having @" + last + " = 1");
                p.faulty(7, "unbounded select 1 from s0 as p having " + many(12, k, " + ") + " > @" + last);
                p.faulty(1, "select " + many(12, k, " + ") + " from s0 as p where @" + last + " = 1");
                p.faulty(1, "select " + many(12, k, " + ") + " from s0 as p join s1 as q on @" + last + " = 1");
                p.faulty(1, "select " + many(12, k, " + ") + " from s0 as p group by @" + last + " as k");
                p.faulty(1, "select " + many(12, k, " + ") + " as x from s0 as p order by @" + last + " limit 1");
                p.faulty(1, "select " + many(11, k, " + ") + " + sum(@" + last + ")");
                p.faulty(7, "select " + many(12, k, " + ") + " + @sum(" + last + ")");
            }
        }
    }

    /** Of a SELECT: each has twelve of its own. */
    private static void thirteenthAggregateOfEachSelect() {
        Probe p = probe();
        String twelve = many(12, "count(*)", " + ");
        p.well("unbounded select " + twelve + " from (select " + twelve + " as a from s0 as p) as q union all select " + twelve
            + " from s0 as p", 1);
        p.faulty(7, "unbounded select " + twelve + " from (select " + twelve + " + @count(*) as a from s0 as p) as q");
        p.faulty(7, "unbounded select " + twelve + " from (select " + twelve + " as a from s0 as p) as q having @count(*) = 1");
        p.faulty(7, "unbounded select " + twelve + " from s0 as p union all select " + twelve + " + @max(a) from s0 as p");
    }

    /** An EXPR of so many things within one another, the last of them another one, around 1. */
    private static String within(int count, String[] outer, String[] last) {
        return many(count, outer[0].substring(1), "") + last[0] + "1" + last[1] + many(count, outer[1], "");
    }

    /** The 13th within one another (of ( of an EXPR .., case, span, count, sum, min, max, not of NOT, - as a sign). */
    private static void thirteenthWithin() {
        Probe p = probe();
        List<String[]> all = new ArrayList<>(List.of(NESTS));
        for (String a : AGGREGATES) {
            all.add(new String[] {"@" + a + " ( ", " )"});
        }
        for (String[] outer : NESTS) {
            for (String[] last : all) {
                // A sign has no not behind it; and not wants a truth, so what is well read may be a fault of types.
                boolean isRead = !(outer[0].equals("@- ") && last[0].equals("@not "));
                String twelve = "unbounded select " + within(11, outer, last) + " from s0 as p";
                int got = p.ask(twelve.replace("@", ""));
                Probe.due("twelve are read: " + twelve, got > 0 || p.x.fault() == 4, isRead);
                p.faulty(isRead ? 7 : 1, "unbounded select " + within(12, outer, last) + " from s0 as p");
                p.faulty(isRead ? 7 : 1, "unbounded select " + many(12, outer[0].substring(1), "") + last[0] + "?");
            }
        }
        for (String[] outer : all.subList(NESTS.length, all.size())) {
            for (String[] last : NESTS) {
                String ten = many(10, "( ", "") + outer[0].substring(1);
                p.ask("unbounded select " + ten + (last[0] + "1" + last[1]).substring(1) + outer[1] + many(10, " )", "") + " from s0 as p");
                Probe.due("twelve are read", p.x.fault() == 0 || p.x.fault() == 4, true);
                p.faulty(7, "unbounded select ( " + ten + last[0] + "1");
            }
        }
    }

    /** .. ( of .. a QUERY .. */
    private static void thirteenthWithinQueries() {
        Probe p = probe();
        for (int queries = 0; queries <= 12; queries++) {
            String open = many(queries, "select a from ( ", "");
            String close = many(queries, " ) as p", "");
            int rest = 12 - queries;
            p.well(open + "select " + many(rest, "( ", "") + "a" + many(rest, " )", "") + " as a from s0 as p" + close, 1);
            p.faulty(7, open + "select " + many(rest, "( ", "") + "@( a" + many(rest + 1, " )", "") + " as a from s0 as p" + close);
            p.faulty(7, open + "select a from s0 as p where " + many(rest, "not ", "") + "@not true" + close);
            // Behind the QUERIES that are closed all twelve are free again.
            p.well(open + "select a from s0 as p" + close + (queries == 0 ? "" : " where " + many(12, "not ", "") + "true"), 1);
        }
        p.well(many(12, "select a from ( ", "") + "select a from s0 as p" + many(12, " ) as p", ""), 1);
        p.faulty(7, many(12, "select a from ( ", "") + "select a from @( select a from s0 as p" + many(13, " ) as p", ""));
    }

    /** .. each one, whatever other brackets it has: what stands besides, or has no part in the list, does not count. */
    private static void thirteenthWithinIsNotBesides() {
        Probe p = probe();
        String[] twelve = {many(12, "( ", ""), many(12, " )", "")};
        String[] free = {"a - 1", "a + a * a / a % a", "a = 1", "a is null", "a is not null", "a in (1, 2)", "a not in (1, a)",
            "true and true or true", "p.a", "p.time"};
        for (String f : free) {
            p.well("select " + twelve[0] + f + twelve[1] + " from s0 as p", 1);
        }
        for (String[] n : NESTS) {
            String one = n[0].substring(1) + (n[0].equals("@not ") || n[0].equals("@case when ") ? "true" : "1") + n[1];
            p.well("select " + many(8, one, ", ") + " from s0 as p", 8);
            p.well("select " + many(7, one, ", ") + ", " + twelve[0] + "1" + twelve[1] + " from s0 as p", 8);
        }
        p.well("select a in (" + many(8, "(1)", ", ") + "), " + twelve[0] + "1" + twelve[1] + " from s0 as p", 2);
        p.faulty(7, "select a in (" + twelve[0] + "@( 1");
    }

    /** As many within one another as the tape can have are told at the 13th, too, and take no deeper calls than these. */
    private static void farBeyondTheThirteenth() {
        String[] ones = {"(", "-", "not ", "case when ", "case when true then ", "case when true then 1 else ", "span(", "span(1,"};
        for (String one : ones) {
            StringBuilder text = new StringBuilder("select ");
            while (text.length() + one.length() <= 2000) {
                text.append(one);
            }
            text.insert("select ".length() + 12 * one.length(), "@");
            withLittleRoom(text.toString());
        }
        String query = "select a from (";
        withLittleRoom(many(12, query, "") + query.replace("(", "@(") + many(120, query, ""));
    }

    /** Some hundred calls that stand open have room on this stack, thousands have not. */
    private static void withLittleRoom(String text) {
        boolean[] isDone = {false};
        Thread thread = new Thread(null, () -> {
            probe().faulty(7, text);
            isDone[0] = true;
        }, "little room", 256 * 1024);
        thread.start();
        try {
            thread.join();
        } catch (InterruptedException e) {
            Thread.currentThread().interrupt();
        }
        Probe.due("it ends: " + text.substring(0, 40), isDone[0], true);
    }

    /** A SELECT's start with so many EXPRS: one, then sums of two more each, then one more if the number is even. */
    private static String exprs(int count) {
        String sum = many((count + 1) / 2, "1", " + ");
        return count % 2 != 0 ? "unbounded select " + sum : "unbounded select " + many(count / 2, "1", " + ") + ", 1";
    }

    /** A text whose last EXPR, of so many in all, is the 120th and then the 121st. */
    private static void checkExprs(Probe p, int whole, String text) {
        p.well((exprs(120 - whole) + ", " + text + " from s0 as p").replace("@", ""), whole % 2 != 0 ? 2 : 3);
        Probe.due("told(3) of " + text, p.x.told(3), 120);
        p.faulty(7, exprs(121 - whole) + ", " + text + " from s0 as p");
    }

    /** The 121st EXPR (of each NUMBER, null, true, false, COLUMN, and each act ..: at its first TOKEN; of one between its sides at that between them: is, in or the not ahead of it). */
    private static void exprsOfEachKind() {
        Probe p = probe();
        String[] ones = {"@7", "@null", "@true", "@false"};
        for (String o : ones) {
            checkExprs(p, 1, o);
            checkExprs(p, 1, "(" + o + ")");
        }
        String[] between = {"1 @+ 2", "1 @- 2", "1 @* 2", "1 @/ 2", "1 @% 2", "1 @= 2", "1 @<> 2", "1 @< 2", "1 @<= 2", "1 @> 2",
            "1 @>= 2", "true @and true", "true @or true", "1 @in (2)", "1 @not in (2)", "(1) @+ (2)", "(1) @in ((2))",
            "@span(1, 2)"};
        for (String b : between) {
            checkExprs(p, 3, b);
        }
        String[] front = {"@- 1", "@not true", "1 @is null", "1 @is not null", "(1) @is null", "@sum(1)", "@min(1)", "@max(1)",
            "@count(1)"};
        for (String f : front) {
            checkExprs(p, 2, f);
        }
        checkExprs(p, 1, "@count(*)");
        checkExprs(p, 4, "@case when true then 1 else 2 end");
        checkExprs(p, 5, "1 @in (2, 3, 4)");
        checkExprs(p, 10, "1 @not in (1, 2, 3, 4, 5, 6, 7, 8)");
        String[] columns = {"a", "time", "p.a", "p.time"};
        for (String c : columns) {
            p.well(exprs(119).replace("1", "a") + ", " + c + " from s0 as p", 2);
            p.faulty(7, exprs(120).replace("1", "a") + ", @" + c + " from s0 as p");
        }
    }

    /** Of all clauses together, and of all SELECTS; the numbers of keep and limit are none. */
    private static void exprsOfEachClause() {
        Probe p = probe();
        String[] clauses = {" from s0 as p where #", " from s0 as p having #", " from s0 as p join s1 as q on #",
            " from s0 as p union all select # from s0 as p", " from (select # as x from s0 as p) as p",
            " as y from s0 as p keep 3 order by # limit 5", " from s0 as p group by # as k"};
        for (String c : clauses) {
            p.well(exprs(119) + c.replace("#", "null"), 1);
            Probe.due("told(3)", p.x.told(3), 120);
            p.faulty(7, exprs(119) + c.replace("#", "null @is null"));
            p.faulty(7, exprs(117) + c.replace("#", "null is null or true and @false"));
        }
    }

    /** (counted as they are complete, ahead of what stands behind ..). */
    private static void exprsAheadOfWhatStandsBehind() {
        Probe p = probe();
        String[] behind = {"?", "5x", "abcdefghijklm", ")", "select", "", "9223372036854775808"};
        for (String b : behind) {
            p.faulty(7, exprs(120) + ", @1 " + b);
            p.faulty(7, exprs(120) + ", @a " + b);
            p.faulty(7, exprs(120) + ", (@1 " + b);
            p.faulty(7, exprs(118) + ", 1 @+ 2 " + b);
            p.faulty(7, exprs(118) + ", 1 @= 2 " + b);
            p.faulty(7, exprs(119) + ", @- 2 " + b);
            p.faulty(7, exprs(119) + ", 1 @is null " + b);
            p.faulty(7, exprs(118) + ", 1 @in (2) " + b);
            p.faulty(7, exprs(118) + ", @span(1, 2) " + b);
            p.faulty(7, exprs(117) + ", @case when true then 1 else 2 end " + b);
            p.faulty(7, exprs(119) + ", @sum(1) " + b);
            // What is not complete yet is none.
            p.faulty(1, exprs(120) + ", p.@" + (b.isEmpty() ? "" : b));
            p.faulty(1, exprs(119) + ", 1 is @" + b);
            p.faulty(1, exprs(118) + ", 1 in (2 @" + b.replace(")", "?"));
            p.faulty(1, exprs(118) + ", span(1, 2 @" + b.replace(")", "?"));
            p.faulty(1, exprs(117) + ", case when true then 1 else 2 @" + b);
            p.faulty(1, exprs(119) + ", sum(1 @" + b.replace(")", "?"));
        }
        // An aggregate that may not stand there is told ahead of all that is not complete yet.
        for (String a : AGGREGATES) {
            p.faulty(1, exprs(120) + " from s0 as p where - @" + a + "(1)");
            p.faulty(1, exprs(119) + " from s0 as p where 1 + @" + a + "(1)");
            p.faulty(1, exprs(119) + ", sum(- @" + a + "(1))");
        }
        // The one that binds closer is complete first, and of like ones the left one.
        p.faulty(7, exprs(114) + ", 1 + 2 * 3 @= 4");
        p.faulty(7, exprs(115) + ", 1 + 2 * 3 = @4");
        p.faulty(7, exprs(116) + ", 1 @+ 2 * 3 = 4");
        p.faulty(7, exprs(117) + ", 1 + 2 @* 3 = 4");
        p.faulty(7, exprs(118) + ", 1 + 2 * @3 = 4");
        p.faulty(7, exprs(118) + ", 1 @+ 2 + 3");
        p.faulty(7, exprs(117) + ", 1 + 2 + @3");
        p.faulty(7, exprs(116) + ", 1 + 2 @+ 3");
    }
}
