/**
 * Which of several faults is "the first one met", and the edges of FAULTS 2 to 6 that CheckTest has not. Texts with two
 * faults are made of a pattern in which each part is well or not. The sentence stands above its method.
 */
public final class FaultEdgesTest {
    public static void main(String[] args) {
        readingGoesAheadOfAll();
        firstOfTwoInASelect();
        firstOfTwoInAQuery();
        firstOfTwoWithBounds();
        firstOfTwoInAnExpr();
        firstPartThatIsNotAsWanted();
        bracketsLeftAside();
        streamsBeneath();
        namesUpToTheOwnOne();
        aggregatesNowhereElse();
        noColumnOutsideOfAggregates();
        havingWithoutGroups();
        setsOfOtherManyItems();
        setsOfOtherTypes();
        Probe.end("FaultEdgesTest");
    }

    private static Probe probe() {
        return new Probe().streams(2, 2, 1);
    }

    /** A part is its fault, then what stands in #i# and #i'# if it is well, then what if it is not; '@' is where that is told. */
    private static String fill(String pattern, String[][] parts, int bad, int alsoBad) {
        String text = pattern;
        for (int i = 0; i < parts.length; i++) {
            boolean isBad = i == bad || i == alsoBad;
            String one = parts[i][isBad ? 3 : 1];
            String two = parts[i][isBad ? 4 : 2];
            text = text.replace("#" + i + "#", i == bad ? one : one.replace("@", ""));
            text = text.replace("#" + i + "'#", i == bad ? two : two.replace("@", ""));
        }
        return text;
    }

    /** The parts stand in the order in which they are looked at: of each two that are not well the first is told. */
    private static void checkPairs(String pattern, String[][] parts) {
        Probe p = probe();
        String well = fill(pattern, parts, -1, -1);
        Probe.due("fault of " + well, p.ask(well) > 0 ? 0 : p.x.fault(), 0);
        for (int i = 0; i < parts.length; i++) {
            for (int j = i; j < parts.length; j++) {
                p.faulty(Integer.parseInt(parts[i][0]), fill(pattern, parts, i, j));
            }
        }
    }

    private static String[] part(int fault, String good, String bad) {
        return new String[] {String.valueOf(fault), good, "", bad, ""};
    }

    private static String[] part(int fault, String good, String goodToo, String bad, String badToo) {
        return new String[] {String.valueOf(fault), good, goodToo, bad, badToo};
    }

    /** FAULTS while the text is read, the first one .. Then, of a text that is well so far, the first one met. */
    private static void readingGoesAheadOfAll() {
        Probe p = probe();
        String[] faulty = {"select x from s0 as p", "select a from s9 as p", "select a from s0 as p where a",
            "select distinct a from s0 as p", "select a from s0 as p union all select true from s0 as p",
            "unbounded select a from s0 as p join s1 as q on true"};
        for (String f : faulty) {
            Probe.due("fault of " + f, p.ask(f) < 0 && p.x.fault() > 1 && p.x.fault() < 7, true);
            p.faulty(1, f + " @)");
            p.faulty(1, f + " @?");
            p.faulty(1, f + " union@");
            p.faulty(7, f + " union all select 1, 1, 1, 1, 1, 1, 1, 1, @1");
            p.faulty(7, f + " union all select - - - - - - - - - - - - @- 1");
        }
    }

    /** SELECT: its SOURCES in order: an sn, or the QUERY and then its NAMES; NAME; join, its on; then where; group by (.. each EXPR, then its NAME); having; ITEMS. */
    private static void firstOfTwoInASelect() {
        checkPairs("unbounded select #12#, #13# from #0# as p join (select #2#, #3#, #4# from #1# as q#4'# as #5# on #6# where #7#"
            + " group by #8# as k, #9# as #10# having #11#", new String[][] {
                part(2, "s0", "@s9"), part(2, "s1", "@s3"), part(2, "a", "@x"), part(4, "b", "1 + @true as b"),
                part(2, "1 as z", ")", "1 as z, 2 as z", "@)"), part(2, "r", "@p"), part(4, "true", "@1"),
                part(3, "true", "@a = 1"), part(2, "p.a", "@c"), part(4, "p.b", "-(@true and true)"), part(2, "j", "@k"),
                part(4, "true", "@k"), part(2, "k", "@p.a"), part(4, "max(z)", "not @sum(z)"),
            });
    }

    /** QUERY: its SELECTS from the left, behind each but the first the set (5, 6); then order (5, then its EXPRS). */
    private static void firstOfTwoInAQuery() {
        checkPairs("unbounded select #0# as x from s0 as p #2# select #1##2'# from s1 as p #4# select #3##4'# from s2 as p"
            + " order by #5#, #6# limit 5", new String[][] {
                part(2, "a", "@c"), part(2, "a", "@c"), part(6, "union", "", "@union", ", 1"), part(2, "a", "@c"),
                part(6, "except", "", "@except", ", 1"), part(2, "x", "@a"), part(4, "x", "not @x"),
            });
    }

    /** The same with 5: join ahead of its on, group ahead of its EXPRS, an aggregate ahead of having and ITEMS, distinct last; set ahead of 6; order ahead of its EXPRS. */
    private static void firstOfTwoWithBounds() {
        Probe p = probe();
        p.faulty(2, "select distinct x from s0 as p join s1 as @p on y where z");
        p.faulty(5, "select distinct x from s0 as p @join s1 as q on y where z");
        p.faulty(5, "select distinct x from s0 as p @join s1 as q on y join s9 as r on z");
        p.faulty(5, "select distinct x from s0 as p keep 1 join s1 as q keep 1 on true left @join s2 as r on y");
        p.faulty(2, "select distinct x from s0 as p keep 1 join s1 as q keep 1 on @y join s2 as r on z");
        p.faulty(4, "select distinct x from s0 as p where @1 group by x as k having x");
        p.faulty(5, "select distinct x from s0 as p @group by x as k having x");
        p.faulty(5, "select distinct count(*), x from s0 as p @group by x as k having x");
        p.faulty(2, "select distinct x from s0 as p keep 1 group by @x as k having x");
        p.faulty(5, "select distinct x, @count(*) from s0 as p having y");
        p.faulty(5, "select distinct x from s0 as p having y = @max(z)");
        p.faulty(4, "select distinct x, count(*) from s0 as p where @1 having y");
        p.faulty(2, "select distinct x from s0 as p having @y");
        p.faulty(2, "select distinct a, @x from s0 as p");
        p.faulty(5, "select @distinct a from s0 as p union select x from s9 as q");
        p.faulty(2, "select a from s0 as p union select @x from s1 as q order by y limit 1");
        p.faulty(5, "select a from s0 as p @union select a, a from s1 as q order by y limit 1");
        p.faulty(5, "select a from s0 as p @except select true from s1 as q union select x from s9 as q");
        p.faulty(6, "select a from s0 as p @union all select true from s1 as q intersect select x from s9 as q");
        p.faulty(5, "select a from s0 as p @order by x limit 1");
        p.faulty(5, "select a from (select a, 1 from s0 as p @order by x limit 1) as q");
        p.faulty(2, "select a from (select a, 1 from s0 as p keep 1 order by @x limit 1) as q");
        p.faulty(2, "select a from (select a, 1 from s0 as p keep 1 order by a limit 1@) as q");
    }

    /** An EXPR: its parts from the left, then itself. */
    private static void firstOfTwoInAnExpr() {
        Probe p = probe();
        String[] acts = {"# + true", "true + #", "# * true", "true * #", "- #", "# < true", "true = #", "# and 1", "1 or #",
            "not #", "# in (true, 1)", "true in (1, #)", "1 not in (true, #, false)", "span(#, true)", "span(true, #)",
            "case when # then 1 else true end", "case when 1 then # else true end", "case when 1 then true else # end",
            "# is null and 1"};
        for (String act : acts) {
            p.faulty(2, "select " + act.replace("#", "@x") + " from s0 as p");
            p.faulty(2, "select " + act.replace("#", "@q.a") + " from s0 as p");
            p.faulty(3, "unbounded select " + act.replace("#", "@a") + " from s0 as p join s1 as q on true");
            p.faulty(4, "select " + act.replace("#", "(1 + (@true) )") + ", x from s0 as p");
        }
        p.faulty(2, "select @x + y from s0 as p");
        p.faulty(2, "select span(@x, y) from s0 as p");
        p.faulty(2, "select 1 in (@x, y) from s0 as p");
        p.faulty(2, "select case when @x then y else z end from s0 as p");
        p.faulty(2, "select case when true then @y else z end from s0 as p");
        p.faulty(2, "unbounded select sum(@x) + y from s0 as p");
        p.faulty(4, "unbounded select sum(@true) + y from s0 as p");
        p.faulty(4, "select (1 + @true) + x from s0 as p");
        p.faulty(4, "select 1 + @true + x from s0 as p");
        p.faulty(2, "select 1 + (true + @x) from s0 as p");
    }

    /** 4 TYPE: at the first part that is not as wanted (when; of then, else at else's ..). */
    private static void firstPartThatIsNotAsWanted() {
        Probe p = probe();
        String[] texts = {"@true + false", "1 + @true", "@true < false", "1 < @true", "@1 and 2", "true and @2", "@1 or 2",
            "true or @2", "not @1", "-@true", "span(@true, false)", "span(1, @true)", "@true in (true, false)",
            "1 in (@true, false)", "1 in (1, @true, false)", "1 in (1, 2, 3, 4, 5, 6, 7, @true)",
            "case when @1 then 1 else true end", "case when true then 1 else @true end",
            "case when true then true else @1 end", "case when null then a = 1 else @a end"};
        for (String t : texts) {
            p.faulty(4, "select " + t + " from s0 as p");
            p.faulty(4, "select 5, (" + t + ") is null from s0 as p");
            p.faulty(4, "select 5 from s0 as p where (" + t + ") is null");
        }
    }

    /** at its first TOKEN: brackets around all of it left aside, one around its left side is that TOKEN. */
    private static void bracketsLeftAside() {
        Probe p = probe();
        String[] truths = {"@true", "@a = 1", "@(a) = 1", "@(a + 1) = 1", "@((a)) = (1)", "@a is null", "@(a) is null",
            "@a in (1)", "@(a) not in (1)", "@not true", "@not (true)", "@true and true", "@(true) and true",
            "@(true or true) and true", "@true or true and true", "@case when true then true else false end",
            "@(a) + 1 = 2", "@-(a) = 2"};
        String[] around = {"", "(", "((", "( ( ("};
        for (String t : truths) {
            for (String open : around) {
                String part = open + t + open.replace("(", ")");
                p.faulty(4, "select 1 + (" + part + ") from s0 as p");
                p.faulty(4, "select -(" + part + ") from s0 as p");
                p.faulty(4, "select span(1, " + part + ") from s0 as p");
                p.faulty(4, "select case when true then 1 else " + part + " end from s0 as p");
                p.faulty(4, "unbounded select sum(" + part + ") from s0 as p");
            }
        }
        String[] numbers = {"@1", "@a", "@p.a", "@time", "@a + 1", "@(a) + 1", "@(a + 1) * 2", "@-a", "@-(a)", "@span(a, 1)",
            "@case when true then 1 else 2 end", "@((a)) - 1"};
        for (String n : numbers) {
            p.faulty(4, "select 1 from s0 as p where " + n);
            p.faulty(4, "select 1 from s0 as p where (" + n + ")");
            p.faulty(4, "select 1 from s0 as p where (( " + n + "))");
            p.faulty(4, "select 1 from s0 as p having (" + n + ")");
            p.faulty(4, "unbounded select 1 from s0 as p join (select 1 as z from s2 as q) as r on (" + n + ")");
            p.faulty(4, "select not (" + n + ") from s0 as p");
            p.faulty(4, "select true and (" + n + ") from s0 as p");
        }
    }

    /** 5 UNBOUNDED: without the word unbounded, .. when a stream beneath has no keep: at that WORD. */
    private static void streamsBeneath() {
        String[] patterns = {"select 1 from # as p @join # as q on true", "select 1 from # as p left @join # as q on true",
            "select a from # as p @union select a from # as q", "select a from # as p @except select a from # as q",
            "select a from # as p @intersect select a from # as q",
            "select k from (select a from # as p union all select a from # as q) as r @group by a as k",
            "select 1, @max(a) from (select a from # as p union all select a from # as q) as r",
            "select @distinct a from (select a from # as p union all select a from # as q) as r",
            "select a from # as p union all select a from # as q @order by a limit 1",
            "select a from (select a from # as p union all select a from # as q @order by a limit 1) as r"};
        Probe p = probe();
        for (String pattern : patterns) {
            for (int kept = 0; kept < 4; kept++) {
                String first = kept % 2 == 0 ? "s0 as $1" : "s0 as $1 keep 0";
                String second = kept / 2 == 0 ? "s2 as $1" : "s2 as $1 keep 9223372036854775807";
                String text = pattern.replaceFirst("# as (\\w)", first).replaceFirst("# as (\\w)", second);
                if (kept < 3) {
                    p.faulty(5, text);
                } else {
                    Probe.due("columns of " + text, p.ask(text.replace("@", "")) > 0, true);
                }
                Probe.due("columns of unbounded " + text, p.ask("unbounded " + text.replace("@", "")) > 0, true);
            }
        }
        // What has no such act needs neither; nor does where, having, or union all.
        p.well("select a from s0 as p where a = 1 having b = 2", 1);
        p.well("select a from s0 as p union all select a from s2 as q union all select b from s1 as r", 1);
        p.well("select a from (select a from s0 as p) as q", 1);
        // Beneath a join are the SOURCES up to its own one; beneath a set the SELECTS up to its own one.
        p.faulty(5, "select 1 from s0 as p keep 1 join s1 as q keep 1 on true @join s2 as r on true");
        p.faulty(5, "select 1 from s0 as p @join s1 as q keep 1 on true join s2 as r keep 1 on true");
        p.faulty(5, "select a from s0 as p keep 1 union select a from s1 as q keep 1 @except select a from s2 as r");
        p.well("select a from s0 as p keep 1 union select a from s1 as q keep 1 union all select a from s2 as r", 1);
        p.faulty(5, "select a from s0 as p keep 1 union all select a from s1 as q union all select a from s2 as r keep 1"
            + " @order by a limit 1");
    }

    /** on sees the SOURCES up to its own one. */
    private static void namesUpToTheOwnOne() {
        Probe p = probe();
        p.well("unbounded select p.a from s0 as p join s1 as q on p.a = q.a join s2 as r on p.a = q.a and q.a = r.a", 1);
        p.faulty(2, "unbounded select p.a from s0 as p join s1 as q on p.a = @r.a join s2 as r on true");
        p.faulty(2, "unbounded select p.a from s2 as p join s2 as q on @b = 1 join s0 as r on true");
        p.well("unbounded select p.a from s2 as p join s0 as q on b = 1 join s1 as r on true", 1);
        p.faulty(3, "unbounded select p.a from s2 as p join s0 as q on b = 1 join s1 as r on @b = 1");
        p.well("unbounded select p.a from s2 as p join s0 as q on b = 1 join s2 as r on b = 1", 1);
        p.faulty(3, "unbounded select p.a from s2 as p join s0 as q on @a = 1");
        p.faulty(3, "unbounded select p.a from s2 as p join s0 as q on @time = 1");
    }

    /** aggregates stand nowhere else, nor within one another (FAULT 1 at the WORD, while the text is read). */
    private static void aggregatesNowhereElse() {
        Probe p = probe();
        String[] all = {"@count(*)", "@count(a)", "@sum(a)", "@min(a)", "@max(a)"};
        for (String a : all) {
            p.faulty(1, "select x from s9 as p where " + a + " = 1");
            p.faulty(1, "select x from s9 as p where (1 + " + a + ") = 1");
            p.faulty(1, "select x from s9 as p join s1 as q on " + a + " = 1");
            p.faulty(1, "select x from s9 as p group by " + a + " as k");
            p.faulty(1, "select x from s9 as p group by a as j, 1 + " + a + " as k");
            p.faulty(1, "select x from s9 as p order by " + a + " limit 1");
            p.faulty(1, "select count(" + a + ") from s9 as p");
            p.faulty(1, "select sum(1 + (" + a + ")) from s9 as p");
            p.faulty(1, "select x from s9 as p having max(" + a + ") = 1");
            p.faulty(1, "select count(*) + sum(1) from s9 as p where " + a + " = 1");
            p.faulty(1, "select count(*) from (select count(*) as n from s0 as p where " + a + " = 1) as q");
            p.faulty(1, "select count(*) from (select count(*) as n from s0 as p) as q where " + a + " = 1");
            p.faulty(1, "select 1 from s0 as p join (select count(*) as n from s1 as q) as r on " + a + " = 1");
            String well = a.substring(1);
            p.well("unbounded select " + well + ", 1 + " + well + " from s0 as p having " + well + " = 1", 2);
            p.well("unbounded select " + well + " from s0 as p group by a as k having not " + well + " = 1", 1);
            p.well("unbounded select " + well + " from (select max(a) as a from s0 as p) as q having " + well + " = 1", 1);
        }
    }

    /** in ITEMS and having of a GROUPED one no column of SOURCES is seen outside of aggregates. */
    private static void noColumnOutsideOfAggregates() {
        Probe p = probe();
        String[] columns = {"a", "p.a", "time", "p.time"};
        for (String c : columns) {
            p.faulty(2, "unbounded select @" + c + " from s0 as p group by b as k");
            p.faulty(2, "unbounded select k from s0 as p group by b as k having @" + c + " = 1");
            p.faulty(2, "unbounded select @" + c + " from s0 as p group by " + c + " as k");
            p.faulty(2, "unbounded select count(*), @" + c + " from s0 as p");
            p.faulty(2, "unbounded select @" + c + " from s0 as p having count(*) = 1");
            p.faulty(2, "unbounded select 1 from s0 as p having count(*) = @" + c);
            p.faulty(2, "unbounded select sum(" + c + ") + @" + c + " from s0 as p group by b as k");
            p.faulty(2, "unbounded select @" + c + " + sum(" + c + ") from s0 as p group by b as k");
            p.well("unbounded select sum(" + c + "), k from s0 as p where " + c + " = 1 group by " + c + " as k having max(" + c + ") = k", 2);
        }
        // A NAME of group by is not seen within aggregates, nor in where, nor by the next EXPR of group by.
        p.faulty(2, "unbounded select sum(@k) from s0 as p group by a as k");
        p.faulty(2, "unbounded select k from s0 as p where @k = 1 group by a as k");
        p.faulty(2, "unbounded select k from s0 as p group by a as k, @k + 1 as j");
        p.faulty(2, "unbounded select @p.k from s0 as p group by a as k");
        // It goes ahead of nothing: within an aggregate the same NAME is the SOURCES' column.
        p.row(0, 0, 1, 10);
        p.answers("unbounded select a, sum(a), b, sum(b) from s0 as p group by b as a, a + 1 as b", "10,1,2,10;");
    }

    /** Without group by and aggregates having is as where behind it. */
    private static void havingWithoutGroups() {
        Probe p = probe();
        p.row(0, 0, 1, 10);
        p.row(0, 0, 2, 20);
        p.row(0, 0, 2, 30);
        p.answers("select a, b from s0 as p having b > 10", "2,20;2,30;");
        p.answers("select a, b from s0 as p where a = 2 having p.b > 20", "2,30;");
        p.faulty(4, "select a from s0 as p having @a");
        p.faulty(4, "select x from s0 as p where @a having y");
        p.faulty(2, "select x from s0 as p where true having @y");
        p.faulty(3, "unbounded select x from s0 as p join s1 as q on true having @a = 1");
    }

    private static String items(int count, String one) {
        StringBuilder all = new StringBuilder();
        for (int i = 0; i < count; i++) {
            all.append(i > 0 ? ", " : "").append(one);
        }
        return all.toString();
    }

    private static final String[] SETS = {"union all", "union", "except", "intersect"};

    /** 6 COLUMNS: sides of a set with other many ITEMS .. (at the set's WORD). */
    private static void setsOfOtherManyItems() {
        Probe p = probe();
        for (String set : SETS) {
            for (int left = 1; left <= 8; left++) {
                for (int right = 1; right <= 8; right++) {
                    String text = "unbounded select " + items(left, "a") + " from s0 as p @" + set + " select " + items(right, "b")
                        + " from s1 as q";
                    if (left == right) {
                        p.well(text.replace("@", ""), left);
                    } else {
                        p.faulty(6, text);
                    }
                }
            }
        }
    }

    /** .. or TYPES. */
    private static void setsOfOtherTypes() {
        Probe p = probe();
        for (String set : SETS) {
            for (int wrong = 0; wrong < 8; wrong++) {
                StringBuilder right = new StringBuilder();
                for (int i = 0; i < 8; i++) {
                    boolean isTruth = i % 2 == 0;
                    right.append(i > 0 ? ", " : "").append(isTruth != (i == wrong) ? "a = 1" : "a");
                }
                p.faulty(6, "unbounded select true, 1, true, 1, true, 1, true, 1 from s0 as p @" + set + " select " + right
                    + " from s1 as q");
            }
            p.well("unbounded select true, 1, true, 1, true, 1, true, 1 from s0 as p " + set
                + " select a = 1, a, a = 1, a, a = 1, a, a = 1, null from s1 as q", 8);
        }
        // The third side is compared, too.
        p.faulty(6, "unbounded select 1 from s0 as p union select 2 from s1 as q @union all select true from s2 as r");
    }
}
