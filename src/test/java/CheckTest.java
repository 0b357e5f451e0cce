/** Promises 5 and 6, FAULTS 2 to 6: names, types, bounds, and which fault of several is met first. */
public final class CheckTest {
    public static void main(String[] args) {
        sourceNames();
        columnNames();
        groupedNames();
        innerNames();
        orderNames();
        unclear();
        typesOfActs();
        typesOfClauses();
        placesOfTypes();
        unbounded();
        unboundedBeneath();
        sets();
        orderOfFaults();
        Probe.end("CheckTest");
    }

    private static Probe probe() {
        return new Probe().streams(2, 2, 1);
    }

    private static void sourceNames() {
        Probe p = probe();
        p.faulty(2, "select a from @s3 as p");
        p.faulty(2, "select a from @s9 as p");
        p.faulty(2, "unbounded select a from s0 as p join @s5 as q on true");
        p.faulty(2, "unbounded select p.a from s0 as p join s1 as @p on true");
        p.faulty(2, "unbounded select p.a from s0 as p join s1 as q on true join s2 as @p on true");
        p.faulty(2, "unbounded select p.a from s0 as p join (select a from s1 as p) as @p on true");
        p.well("unbounded select p.a from s0 as p join (select a from s1 as p) as q on true", 1);
        p.well("select s0.a from s0 as s0", 1);
        p.well("select a.a from s0 as a", 1);
        p.well("unbounded select p.a from s0 as p union all select p.a from s1 as p", 1);
    }

    private static void columnNames() {
        Probe p = probe();
        p.faulty(2, "select @c from s0 as p");
        p.faulty(2, "select @p from s0 as p");
        p.faulty(2, "select @q.a from s0 as p");
        p.faulty(2, "select @p.c from s0 as p");
        p.faulty(2, "select @q.time from s0 as p");
        p.faulty(2, "select 1 + (2 * @c) from s0 as p");
        p.faulty(2, "select a from s0 as p where @c = 1");
        p.faulty(2, "select a from s0 as p having @c = 1");
        p.faulty(2, "unbounded select p.a from s0 as p join s1 as q on @r.a = 1 join s1 as r on true");
        p.well("unbounded select p.a from s0 as p join s1 as q on true join s1 as r on r.a = q.b and p.a = 1", 1);
        p.faulty(2, "unbounded select @b from s2 as p join s2 as q on true");
        p.well("unbounded select b from s2 as p join s1 as q on true", 1);
        p.well("select time, p.time from s0 as p", 2);
        // ITEMS' names are none of the SELECT's own.
        p.faulty(2, "select a as x, @x from s0 as p");
        p.faulty(2, "select a as x from s0 as p where @x = 1");
        p.faulty(2, "select a as x from s0 as p having @x = 1");
        // A sub-query does not see what is around it.
        p.faulty(2, "unbounded select p.a from s0 as p join (select @p.a from s1 as q) as r on true");
    }

    private static void groupedNames() {
        Probe p = probe();
        p.well("unbounded select k from s0 as p group by a as k", 1);
        p.faulty(2, "unbounded select @a from s0 as p group by a as k");
        p.faulty(2, "unbounded select @p.a from s0 as p group by a as k");
        p.faulty(2, "unbounded select @p.k from s0 as p group by a as k");
        p.faulty(2, "unbounded select @time from s0 as p group by time as k");
        p.faulty(2, "unbounded select k from s0 as p group by a as k having @b = 1");
        p.faulty(2, "unbounded select sum(@k) from s0 as p group by a as k");
        p.faulty(2, "unbounded select sum(a) + @b from s0 as p group by a as k");
        p.well("unbounded select sum(b) + a from s0 as p group by a as a", 1);
        p.well("unbounded select b, sum(b) from s0 as p group by a as b", 2);
        p.well("unbounded select k from s0 as p group by a as k having k = sum(p.b) and max(time) > k", 1);
        p.faulty(2, "unbounded select k from s0 as p group by a as k, b as @k");
        p.faulty(2, "unbounded select k from s0 as p group by a as k, @k as j");
        p.faulty(2, "unbounded select k from s0 as p where @k = 1 group by a as k");
        p.faulty(2, "unbounded select count(*), @a from s0 as p");
        p.faulty(2, "unbounded select @a from s0 as p having count(*) > 1");
        p.faulty(2, "unbounded select count(*) from s0 as p having @a = 1");
        p.faulty(2, "unbounded select count(@c) from s0 as p");
        p.well("unbounded select 1 from s0 as p having count(*) > 1", 1);
    }

    private static void innerNames() {
        Probe p = probe();
        p.faulty(2, "select 1 from (select 1 from s0 as p@) as q");
        p.faulty(2, "select 1 from (select a, a + 1 from s0 as p@) as q");
        p.faulty(2, "select 1 from (select (a) from s0 as p@) as q");
        p.faulty(2, "select 1 from (select a, p.a from s0 as p@) as q");
        p.faulty(2, "select 1 from (select a, b as a from s0 as p @) as q");
        p.faulty(2, "select 1 from (select time, p.time from s0 as p@) as q");
        p.faulty(2, "unbounded select 1 from (select count(*) from s0 as p@) as q");
        p.well("select q.a, b, q.time, x from (select p.a, b, p.time, a + 1 as x from s0 as p) as q", 4);
        p.well("select x, y from (select a as x, (b) as y from s0 as p) as q", 2);
        p.faulty(2, "select @a from (select a as x from s0 as p) as q");
        p.faulty(2, "select @time from (select a from s0 as p) as q");
        p.faulty(2, "select @p.a from (select a from s0 as p) as q");
        // Of sets the first SELECT's names count, and only they must be there.
        p.well("select x from (select a as x from s0 as p union all select b + 1 from s0 as p) as q", 1);
        p.faulty(2, "select 1 from (select a + 1 from s0 as p union all select b from s0 as p@) as q");
        p.faulty(2, "select @b from (select a from s0 as p union all select b from s0 as p) as q");
        p.well("unbounded select k from (select k from s0 as p group by a as k) as q", 1);
        // As the outermost one a QUERY needs no names, and may have two alike.
        p.well("select a, a, a + 1, p.a from s0 as p", 4);
    }

    private static void orderNames() {
        Probe p = probe();
        p.well("unbounded select a as x, b from s0 as p order by x, b desc, x + b limit 1", 2);
        p.faulty(2, "unbounded select a as x from s0 as p order by @a limit 1");
        p.faulty(2, "unbounded select a from s0 as p order by @p.a limit 1");
        p.faulty(2, "unbounded select a from s0 as p order by a, @b limit 1");
        p.faulty(2, "unbounded select a from s0 as p order by @time limit 1");
        p.well("unbounded select a, time from s0 as p order by time limit 1", 2);
        p.well("unbounded select a, p.time from s0 as p order by time limit 1", 2);
        p.faulty(2, "unbounded select a, p.time from s0 as p order by @p.time limit 1");
        p.faulty(2, "unbounded select a, time as x from s0 as p order by @time limit 1");
        p.faulty(2, "unbounded select (a) from s0 as p order by @a limit 1");
        p.well("unbounded select a from s0 as p union select b from s1 as q order by a limit 1", 1);
        p.faulty(2, "unbounded select a from s0 as p union select b from s1 as q order by @b limit 1");
        p.faulty(2, "unbounded select a from (select a from s0 as p order by @b limit 1) as q");
    }

    private static void unclear() {
        Probe p = probe();
        p.faulty(3, "unbounded select @a from s0 as p join s1 as q on true");
        p.faulty(3, "unbounded select @time from s0 as p join s2 as q on true");
        p.well("unbounded select b from s0 as p join s2 as q on true", 1);
        p.well("unbounded select p.a, q.a from s0 as p join s1 as q on true", 2);
        p.faulty(3, "unbounded select p.a from s0 as p join s1 as q on @b = 1");
        p.well("unbounded select p.a from s0 as p join s2 as q on b = 1 join s2 as r on b = 2", 1);
        p.faulty(3, "unbounded select p.a from s0 as p join s1 as q on true where @a = 1");
        p.faulty(3, "unbounded select k from s0 as p join s1 as q on true group by @a as k");
        p.faulty(3, "unbounded select sum(@b) from s0 as p join s1 as q on true");
        p.faulty(3, "unbounded select a, b as a from s0 as p order by @a limit 1");
        p.faulty(3, "unbounded select time, p.time from s0 as p order by 1 + @time limit 1");
        p.well("unbounded select a, b as a from s0 as p order by 1 limit 1", 2);
    }

    private static void typesOfActs() {
        Probe p = probe();
        String[] numbers = {"@true + 1", "1 + @true", "@true - 1", "1 * @false", "@true / 1", "1 % @true", "- @true",
            "span(@true, 1)", "span(1, @true)", "@true = 1", "1 = @true", "@true = true", "1 <> @true", "1 < @true",
            "@true <= 1", "1 > @true", "1 >= @true", "@true in (1)", "1 in (@true)", "1 in (1, null, @false, true)",
            "1 not in (@true)", "1 + (@a is null)"};
        for (String e : numbers) {
            p.faulty(4, "select " + e + " from s0 as p");
        }
        String[] truths = {"@1 and true", "true and @1", "@a or true", "true or @a", "not @1", "not @a + 1",
            "case when @1 then 1 else 2 end", "case when true then 1 else @true end", "case when true then true else @1 end"};
        for (String e : truths) {
            p.faulty(4, "select " + e + " from s0 as p");
        }
        p.faulty(4, "unbounded select sum(@true) from s0 as p");
        p.faulty(4, "unbounded select min(@a = 1) from s0 as p");
        p.faulty(4, "unbounded select max(@not true) from s0 as p");
        p.well("unbounded select count(true), count(a = 1), count(null), sum(null), min(null) from s0 as p", 5);
        p.well("select true is null, (a = 1) is not null, null is null, a is null from s0 as p", 4);
        // A null may stand for either, and so may a case of nulls.
        String nulls = "case when null then null else case when true then null else null end end";
        p.well("select null + 1, null and true, not null, null = 1, null in (null) from s0 as p", 5);
        p.well("select " + nulls + " and true, 1 + " + nulls + " from s0 as p where " + nulls, 2);
        p.well("select case when true then " + nulls + " else true end and true from s0 as p", 1);
        p.well("select case when true then 1 else " + nulls + " end + 1 from s0 as p", 1);
        p.faulty(4, "select @case when true then 1 else null end and true from s0 as p");
        p.faulty(4, "select 1 + @case when true then null else true end from s0 as p");
        // A column of nulls is a number.
        p.faulty(4, "select a from (select null as a from s0 as p) as q where @a");
        p.faulty(4, "unbounded select 1 from s0 as p group by null as k having @k");
        p.faulty(4, "unbounded select 1 from s0 as p having @- null");
        p.well("select 1 from (select true as t, a from s0 as p) as q where t and a = 1", 1);
        p.faulty(4, "select @t + 1 from (select true as t from s0 as p) as q");
        p.faulty(4, "unbounded select @k + 1 from s0 as p group by a = 1 as k");
        p.faulty(4, "unbounded select a = 1 as x from s0 as p order by 1 + @x limit 1");
        p.well("unbounded select a = 1 as x from s0 as p order by x, not x limit 1", 1);
    }

    private static void typesOfClauses() {
        Probe p = probe();
        p.faulty(4, "select a from s0 as p where @a");
        p.faulty(4, "select a from s0 as p where @1");
        p.faulty(4, "select a from s0 as p having @a + 1");
        p.faulty(4, "unbounded select p.a from s0 as p join s1 as q on @p.a");
        p.faulty(4, "unbounded select 1 from s0 as p having @count(*)");
        p.faulty(4, "unbounded select 1 from s0 as p group by a as k having @k");
        p.well("unbounded select p.a from s0 as p join s1 as q on null where null having null", 1);
        // What type() tells.
        p.well("select a, true, null, a = 1, case when true then null else false end from s0 as p", 5);
        int[] due = {1, 2, 1, 2, 2, 0};
        for (int i = 0; i < due.length; i++) {
            Probe.due("type(" + i + ")", p.x.type(i), due[i]);
        }
        Probe.due("type(-1)", p.x.type(-1), 0);
        Probe.due("type(least)", p.x.type(Integer.MIN_VALUE), 0);
        Probe.due("type(greatest)", p.x.type(Integer.MAX_VALUE), 0);
        p.well("unbounded select k, count(*), min(a), not k from s0 as p group by a is null as k", 4);
        int[] grouped = {2, 1, 1, 2, 0};
        for (int i = 0; i < grouped.length; i++) {
            Probe.due("grouped type(" + i + ")", p.x.type(i), grouped[i]);
        }
        p.well("select t, n from (select a = 1 as t, null as n from s0 as p) as q", 2);
        Probe.due("type of a sub-query's truth", p.x.type(0), 2);
        Probe.due("type of a sub-query's null", p.x.type(1), 1);
        p.well("select case when true then null else null end from s0 as p", 1);
        Probe.due("type of a case of nulls", p.x.type(0), 1);
    }

    private static void placesOfTypes() {
        Probe p = probe();
        // Brackets around all of it are left aside; one around its left side is the first token.
        p.faulty(4, "select 1 + (@true) from s0 as p");
        p.faulty(4, "select 1 + (((@true))) from s0 as p");
        p.faulty(4, "select 1 + (@true and false) from s0 as p");
        p.faulty(4, "select 1 + ((@true) ) from s0 as p");
        p.faulty(4, "select 1 + (@(true) and false) from s0 as p");
        p.faulty(4, "select 1 + (@((true)) and false) from s0 as p");
        p.faulty(4, "select 1 + (@(true and true) or false) from s0 as p");
        p.faulty(4, "select a from s0 as p where (@a + 1)");
        p.faulty(4, "select a from s0 as p where @(a) + 1");
        p.faulty(4, "select a from s0 as p where @(a + 1) * 2");
        p.faulty(4, "select a from s0 as p where @a * 2 + 1");
        p.faulty(4, "select a from s0 as p where (@(a + 1) * 2)");
        p.faulty(4, "select a from s0 as p where @- (a)");
        p.faulty(4, "select a from s0 as p where @p.a");
        p.faulty(4, "select a from s0 as p where @span(a, 1)");
        p.faulty(4, "select 1 + (@(a) is null) from s0 as p");
        p.faulty(4, "select 1 + (@(a) not in (1)) from s0 as p");
        p.faulty(4, "select 1 + (@not (true)) from s0 as p");
        p.faulty(4, "select (@a) and true from s0 as p");
        p.faulty(4, "select true and @a and 1 from s0 as p");
        p.faulty(4, "select @1 and 2 and true from s0 as p");
        p.faulty(4, "select (@1 and true) + 1 from s0 as p");
        p.faulty(4, "select true and @true + 1 from s0 as p");
        p.faulty(4, "select a = 1 and @(a) + 1 from s0 as p");
        p.faulty(4, "select case when (@1) then true else 1 end from s0 as p");
        p.faulty(4, "select case when true then (1) else (@true) end from s0 as p");
        p.faulty(4, "select case when true then 1 else @(true) and true end from s0 as p");
        // The first wrong part, not the first part.
        p.faulty(4, "select span(1, @true) from s0 as p");
        p.faulty(4, "select @true in (true, true) from s0 as p");
        p.faulty(4, "select 1 in (2, @true, false) from s0 as p");
    }

    private static void unbounded() {
        Probe p = probe();
        p.faulty(5, "select p.a from s0 as p @join s1 as q on true");
        p.faulty(5, "select p.a from s0 as p left @join s1 as q on true");
        p.faulty(5, "select p.a from s0 as p keep 5 @join s1 as q on true");
        p.faulty(5, "select p.a from s0 as p @join s1 as q keep 5 on true");
        p.well("select p.a from s0 as p keep 5 join s1 as q keep 0 on true", 1);
        p.faulty(5, "select p.a from s0 as p keep 5 join s1 as q keep 5 on true left @join s2 as r on true");
        p.faulty(5, "select k from s0 as p @group by a as k");
        p.well("select k from s0 as p keep 5 group by a as k", 1);
        p.faulty(5, "select @count(*) from s0 as p");
        p.faulty(5, "select 1 + @sum(a), max(a) from s0 as p having min(a) = 1");
        p.faulty(5, "select 1 from s0 as p having 1 = (@max(a)) and count(*) = 1");
        p.faulty(5, "select k, count(*) from s0 as p @group by a as k");
        p.well("select count(*) from s0 as p keep 1", 1);
        p.faulty(5, "select @distinct a from s0 as p");
        p.well("select distinct a from s0 as p keep 9223372036854775807", 1);
        p.faulty(5, "select a from s0 as p @union select a from s1 as q keep 1");
        p.faulty(5, "select a from s0 as p keep 1 @union select a from s1 as q");
        p.faulty(5, "select a from s0 as p keep 1 @except select a from s1 as q");
        p.faulty(5, "select a from s0 as p @intersect select a from s1 as q keep 1");
        p.well("select a from s0 as p keep 1 intersect select a from s1 as q keep 1", 1);
        p.well("select a from s0 as p union all select a from s1 as q", 1);
        p.faulty(5, "select a from s0 as p @order by a limit 1");
        p.faulty(5, "select a from s0 as p keep 1 union all select a from s1 as q @order by a limit 1");
        p.well("select a from s0 as p keep 1 order by a limit 1", 1);
        p.well("unbounded select distinct k from s0 as p group by a as k union select a from s1 as q order by k limit 1", 1);
        p.well("select a from s0 as p where a = 1 having a = 2", 1);
    }

    private static void unboundedBeneath() {
        Probe p = probe();
        p.faulty(5, "select @distinct a from (select a from s0 as p) as q");
        p.faulty(5, "select @distinct a from (select a from s0 as p keep 1 union all select a from s0 as p) as q");
        p.faulty(5, "select a from (select @distinct a from s0 as p) as q");
        p.well("select distinct a from (select a from s0 as p keep 1) as q", 1);
        p.faulty(5, "select 1 from s0 as p keep 1 @join (select a from s0 as p) as q on true");
        // Each set has beneath it all that is on its left.
        p.faulty(5, "select a from s0 as p union all select a from s1 as q keep 1 @except select a from s1 as q keep 1");
        p.well("select a from s0 as p keep 1 except select a from s1 as q keep 1 union all select a from s1 as q", 1);
        // What is beneath another SELECT does not matter for its own.
        p.well("select a from s0 as p union all select distinct a from s1 as q keep 1", 1);
        p.faulty(5, "select a from s0 as p keep 1 union all select @distinct a from s1 as q");
    }

    private static void sets() {
        Probe p = probe();
        p.faulty(6, "select a from s0 as p @union all select a, b from s1 as q");
        p.faulty(6, "select a, b from s0 as p @union all select a from s1 as q");
        p.faulty(6, "select a from s0 as p @union all select true from s1 as q");
        p.faulty(6, "select null from s0 as p @union all select true from s1 as q");
        p.faulty(6, "select a, true from s0 as p @union all select true, a from s1 as q");
        p.faulty(6, "unbounded select a from s0 as p @except select true from s1 as q");
        p.faulty(6, "unbounded select a from s0 as p @intersect select a, a from s1 as q");
        p.faulty(6, "unbounded select a from s0 as p @union select true from s1 as q");
        p.faulty(6, "select a from s0 as p union all select b from s1 as q @union all select a = b from s1 as q");
        p.well("select a, true, null from s0 as p union all select null, a = b, b from s1 as q", 3);
    }

    private static void orderOfFaults() {
        Probe p = probe();
        // While the text is read all else waits.
        p.faulty(1, "select x from s9 as p where @");
        p.faulty(1, "select x from s9 as p where 1 @)");
        p.faulty(7, "select x, a, a, a, a, a, a, a, @a from s9 as p");
        // SOURCES, then where, group by, having, ITEMS, distinct.
        p.faulty(2, "select x from @s9 as p where y");
        p.faulty(4, "select x from s0 as p where @1");
        p.faulty(2, "select x from s0 as p where @y");
        p.faulty(4, "select x from s0 as p where @1 group by z as k");
        p.faulty(5, "select x from s0 as p @group by z as k");
        p.faulty(5, "select x + @sum(z) from s0 as p having y");
        p.faulty(2, "unbounded select x from s0 as p group by @z as k having y");
        p.faulty(2, "unbounded select x from s0 as p group by a as k, b as @k, z as j having y");
        p.faulty(2, "unbounded select x from s0 as p group by a as k, @z as k having y");
        p.faulty(2, "unbounded select x from s0 as p group by a as k having @y");
        p.faulty(4, "unbounded select x from s0 as p group by a as k having @k");
        p.faulty(2, "select distinct @x from s0 as p");
        p.faulty(5, "select @distinct a from s0 as p union all select x from s9 as q");
        // SOURCES in their order, each with its NAME, join and on.
        p.faulty(5, "select x from s0 as p @join s1 as q on y join s9 as r on true");
        p.faulty(2, "select x from s0 as p join s1 as @p on y");
        p.faulty(2, "select x from s0 as p join @s9 as p on y");
        p.faulty(2, "unbounded select x from s0 as p join s1 as q on @y join s9 as r on true");
        p.faulty(4, "unbounded select x from s0 as p join s1 as q on @1 join s9 as r on true");
        p.faulty(2, "unbounded select x from s0 as p join (select 1 from s1 as q@) as p on true");
        p.faulty(2, "unbounded select x from s0 as p join (select @y from s1 as q) as p on true");
        // A set behind its right SELECT, order behind all.
        p.faulty(2, "select a from s0 as p union select @x from s1 as q");
        p.faulty(5, "select a from s0 as p @union select a, a from s1 as q order by x limit 1");
        p.faulty(6, "select a from s0 as p @union all select a, a from s1 as q union all select x from s1 as q");
        p.faulty(5, "select a from s0 as p @order by x limit 1");
        p.faulty(2, "select a from s0 as p keep 1 order by a, @x limit 1");
        // The parts from the left, then itself.
        p.faulty(4, "select (1 + @true) + x from s0 as p");
        p.faulty(2, "select true + @x from s0 as p");
        p.faulty(2, "select 1 and @x from s0 as p");
        p.faulty(2, "select case when 1 then 2 else @x end from s0 as p");
        p.faulty(4, "select case when @1 then 2 else true end from s0 as p");
        p.faulty(3, "unbounded select true + (@a + x) from s0 as p join s1 as q on true");
        p.faulty(4, "select 1 in (-@true, x) from s0 as p");
    }
}
