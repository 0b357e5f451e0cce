/** Promises 5 and 6, FAULT 1: what is no TOKEN, or can not stand where it does. */
public final class TokensTest {
    public static void main(String[] args) {
        tokens();
        signs();
        grammar();
        places();
        aggregates();
        faultsStay();
        Probe.end("TokensTest");
    }

    private static Probe probe() {
        return new Probe().streams(2, 1);
    }

    private static void tokens() {
        Probe p = probe();
        p.well("select a as abcdefghijkl from s0 as p", 1);
        p.faulty(1, "select a as @abcdefghijklm from s0 as p");
        p.well("select a as a12345678901 from s0 as p", 1);
        p.faulty(1, "select a as @a123456789012 from s0 as p");
        p.well("select 9223372036854775807 from s0 as p", 1);
        p.faulty(1, "select @9223372036854775808 from s0 as p");
        p.faulty(1, "select @92233720368547758070 from s0 as p");
        p.faulty(1, "select @99999999999999999999999999999999999999 from s0 as p");
        p.well("select 00000000000000000000000009223372036854775807 from s0 as p", 1);
        p.faulty(1, "select @0009223372036854775808 from s0 as p");
        p.faulty(1, "select @12x from s0 as p");
        p.faulty(1, "select 1 as x, @0a from s0 as p");
        p.faulty(1, "select a from s0 as p keep @1x");
        p.faulty(1, "select @A from s0 as p");
        p.faulty(1, "select a@B from s0 as p");
        p.faulty(1, "select 1@B from s0 as p");
        p.faulty(1, "select @? from s0 as p");
        p.faulty(1, "select @_a from s0 as p");
        p.faulty(1, "select a from s0 as p@;");
        p.faulty(1, "select a @\u00e4 from s0 as p");
        p.faulty(1, "select @\u00a8a) from s0 as p");
        p.faulty(1, "select @\u00ff1 from s0 as p");
        p.faulty(1, "select a @\u00ff from s0 as p");
        p.faulty(1, "select a @\u0080 from s0 as p");
        p.faulty(1, "select a@\0 from s0 as p");
        p.faulty(1, "select a@\u000b from s0 as p");
        p.faulty(1, "select a@\u000c from s0 as p");
        p.faulty(1, "@!");
        p.faulty(1, "@");
        p.faulty(1, "  \t\r\n  @");
        p.well("\t select\n\na\r from\ts0 as p \r\n\t ", 1);
        p.well("select(a)from s0 as p", 1);
        p.faulty(1, "@selecta from s0 as p");
        p.faulty(1, "select afrom @s0 as p");
        p.faulty(1, "select @1from s0 as p");
    }

    private static void signs() {
        Probe p = probe();
        p.row(0, 0, 3, 4);
        p.answers("select a<>b, a<=b, a>=b, a<b, a>b, a=b from s0 as p", "1,1,0,1,0,0;");
        p.answers("select a+b,a-b,a*b,a/b,a%b from s0 as p", "7,-1,12,0,3;");
        p.answers("select a<-b from s0 as p", "0;");
        p.answers("select a--b, a-- -b from s0 as p", "7,-1;");
        p.faulty(1, "select a < @> b from s0 as p");
        p.faulty(1, "select a < @= b from s0 as p");
        p.faulty(1, "select a > @= b from s0 as p");
        p.faulty(1, "select a =@= b from s0 as p");
        p.faulty(1, "select a =@< b from s0 as p");
        p.faulty(1, "select a >@< b from s0 as p");
        p.faulty(1, "select a >@> b from s0 as p");
        p.faulty(1, "select a <>@= b from s0 as p");
        p.faulty(1, "select a @! = b from s0 as p");
        p.well("select p . a, p .b, p. a from s0 as p", 3);
    }

    private static void grammar() {
        Probe p = probe();
        p.faulty(1, "@from s0 as p");
        p.faulty(1, "select @from s0 as p");
        p.faulty(1, "select distinct @distinct a from s0 as p");
        p.faulty(1, "select a @b from s0 as p");
        p.faulty(1, "select a, @, b from s0 as p");
        p.faulty(1, "select @* from s0 as p");
        p.faulty(1, "select a as @1 from s0 as p");
        p.faulty(1, "select a as @time from s0 as p");
        p.faulty(1, "select a as @sum from s0 as p");
        p.faulty(1, "select a from @x as p");
        p.faulty(1, "select a from @s as p");
        p.faulty(1, "select a from @s00 as p");
        p.faulty(1, "select a from @s10 as p");
        p.faulty(1, "select a from @t0 as p");
        p.faulty(1, "select a from @sa as p");
        p.faulty(1, "select a from @1 as p");
        p.faulty(1, "select a from @select");
        p.faulty(1, "select a from @as p");
        p.faulty(1, "select a from @time as p");
        p.faulty(1, "select a from s0 @p");
        p.faulty(1, "select a from s0 as @keep 5");
        p.faulty(1, "select a from s0 as p keep @a");
        p.faulty(1, "select a from s0 as p keep @-1");
        p.faulty(1, "select a from s0 as p@, s1 as q");
        p.faulty(1, "select a from (select a from s0 as p) as q @keep 1");
        p.faulty(1, "select a from (@a) as q");
        p.faulty(1, "select a from (select a from s0 as p @as q");
        p.faulty(1, "select a from (select a from s0 as p) @q");
        p.faulty(1, "select a from (@(select a from s0 as p)) as q");
        p.faulty(1, "select a from s0 as p left @s1 as q on true");
        p.faulty(1, "select a from s0 as p join s1 as q@");
        p.faulty(1, "select a from s0 as p join s1 as q @where true");
        p.faulty(1, "select a from s0 as p join @left s1 as q on true");
        p.faulty(1, "select a from s0 as p where true @where true");
        p.faulty(1, "select a from s0 as p having true @where true");
        p.faulty(1, "select a from s0 as p group @a as b");
        p.faulty(1, "select a from s0 as p group by a@");
        p.faulty(1, "select a from s0 as p group by a @, b as c");
        p.faulty(1, "select a from s0 as p group by a as @time");
        p.faulty(1, "select a from s0 as p group by a as b, @having true");
        p.faulty(1, "select a from s0 as p union @distinct select a from s0 as q");
        p.faulty(1, "select a from s0 as p except @all select a from s0 as q");
        p.faulty(1, "select a from s0 as p intersect @all select a from s0 as q");
        p.faulty(1, "select a from s0 as p union all @all select a from s0 as q");
        p.faulty(1, "select a from s0 as p union @(select a from s0 as q)");
        p.faulty(1, "select a from s0 as p order @a limit 1");
        p.faulty(1, "select a from s0 as p order by a@");
        p.faulty(1, "select a from s0 as p order by a desc @desc limit 1");
        p.faulty(1, "select a from s0 as p order by a, @limit 1");
        p.faulty(1, "select a from s0 as p @limit 1");
        p.faulty(1, "select a from s0 as p order by a limit @");
        p.faulty(1, "select a from s0 as p order by a limit @a");
        p.faulty(1, "select a from s0 as p order by a limit @101");
        p.faulty(1, "select a from s0 as p order by a limit @9223372036854775807");
        p.faulty(1, "select a from s0 as p order by a limit @4294967296");
        p.faulty(1, "select a from s0 as p order by a limit @-1");
        p.faulty(1, "select a from s0 as p order by a limit 1 @union all select a from s0 as q");
        p.faulty(1, "unbounded @unbounded select a from s0 as p");
        p.faulty(1, "select a from (@unbounded select a from s0 as p) as q");
        p.faulty(1, "select a from s0 as p @)");
        p.faulty(1, "select a from s0 as p @select a from s0 as p");
        p.well("unbounded select a from s0 as p order by a limit 100", 1);
        p.well("unbounded select a from s0 as p order by a limit 000", 1);
    }

    private static void places() {
        Probe p = probe();
        p.faulty(1, "select (a @from s0 as p");
        p.faulty(1, "select (a@, b) from s0 as p");
        p.faulty(1, "select (@) from s0 as p");
        p.faulty(1, "select a + @from s0 as p");
        p.faulty(1, "select a = b @= a from s0 as p");
        p.faulty(1, "select a = b @is null from s0 as p");
        p.faulty(1, "select a is null @is null from s0 as p");
        p.faulty(1, "select a is null @= b from s0 as p");
        p.faulty(1, "select a is @true from s0 as p");
        p.faulty(1, "select a is not @not null from s0 as p");
        p.faulty(1, "select a not @null from s0 as p");
        p.faulty(1, "select a not @not in (1) from s0 as p");
        p.faulty(1, "select a in @1 from s0 as p");
        p.faulty(1, "select a in (@) from s0 as p");
        p.faulty(1, "select a in (1, @) from s0 as p");
        p.faulty(1, "select a in (1 @= 1) from s0 as p");
        p.faulty(1, "select a in (@not true) from s0 as p");
        p.faulty(1, "select a in (1) @in (2) from s0 as p");
        p.faulty(1, "select a = @not b from s0 as p");
        p.faulty(1, "select a + @not b from s0 as p");
        p.faulty(1, "select - @not b from s0 as p");
        p.faulty(1, "select @+ a from s0 as p");
        p.faulty(1, "select a * @* b from s0 as p");
        p.faulty(1, "select a and @or b from s0 as p");
        p.faulty(1, "select case @a when true then 1 else 2 end from s0 as p");
        p.faulty(1, "select case when true @1 else 2 end from s0 as p");
        p.faulty(1, "select case when true then 1 @end from s0 as p");
        p.faulty(1, "select case when true then 1 else 2 @from s0 as p");
        p.faulty(1, "select case when true then 1 @when false then 3 else 2 end from s0 as p");
        p.faulty(1, "select span @a, b from s0 as p");
        p.faulty(1, "select span(a@) from s0 as p");
        p.faulty(1, "select span(a, b@, 1) from s0 as p");
        p.faulty(1, "select p.@1 from s0 as p");
        p.faulty(1, "select p.@count from s0 as p");
        p.faulty(1, "select p.a@.b from s0 as p");
        p.faulty(1, "select time@.a from s0 as p");
        p.faulty(1, "select a@(1) from s0 as p");
        p.faulty(1, "select 1@.5 from s0 as p");
        p.faulty(1, "select @desc from s0 as p");
        p.faulty(1, "select @select from s0 as p");
    }

    private static void aggregates() {
        Probe p = probe();
        p.faulty(1, "select sum(@*) from s0 as p");
        p.faulty(1, "select count(@) from s0 as p");
        p.faulty(1, "select count(*@, 1) from s0 as p");
        p.faulty(1, "select count(* @+ 1) from s0 as p");
        p.faulty(1, "select count @a from s0 as p");
        p.faulty(1, "select min(a@, b) from s0 as p");
        p.faulty(1, "select count(@count(*)) from s0 as p");
        p.faulty(1, "select sum(1 + @max(a)) from s0 as p");
        p.faulty(1, "select a from s0 as p where @count(*) > 1");
        p.faulty(1, "select a from s0 as p group by @sum(a) as b");
        p.faulty(1, "select a from s0 as p join s1 as q on @min(a) = 1");
        p.faulty(1, "select a from s0 as p order by @max(a) limit 1");
        p.faulty(1, "select count(*) from (select a from s0 as p where @count(*) > 1) as q");
        p.faulty(1, "select count(*) from (select a from s0 as p) as q where @count(*) > 1");
        p.faulty(1, "select a from (select count(*) as a from s0 as p) as q join s1 as r on @sum(r.a) = 1");
        // Behind an aggregate another one may stand again.
        p.well("unbounded select sum(a) + max(b), -min(a) from s0 as p having count(*) > 1 and sum(a) < 5", 2);
    }

    /** What a fault leaves: the query before, its answer, and no changes. */
    private static void faultsStay() {
        Probe p = probe();
        Probe.due("fault() at first", p.x.fault(), 0);
        p.bad("select", 1, 6);
        Probe.due("told(5)", p.x.told(5), 0);
        p.row(0, 1, 5, 6);
        p.well("select b from s0 as p", 1);
        p.row(0, 2, 7, 8);
        Probe.due("changes", p.changes(), "+1:8;");
        p.bad("select b, from s0 as p", 1, 10);
        Probe.due("changes behind a fault", p.x.changes(), 0);
        Probe.due("change(0) behind a fault", p.x.change(0), 0);
        Probe.due("changed(0, 0) behind a fault", p.x.changed(0, 0), 0);
        Probe.due("the answer stays", p.answer(), "6;8;");
        Probe.due("type(0) stays", p.x.type(0), 1);
        p.row(0, 3, 9, 10);
        Probe.due("the query stays", p.changes(), "+1:10;");
        Probe.due("fault() of the latest query()", p.x.fault(), 1);
        p.well("select a, b from s0 as p", 2);
        Probe.due("fault() of the latest query()", p.x.fault(), 0);
        Probe.due("changes behind query()", p.x.changes(), 0);
        Probe.due("the new answer", p.answer(), "5,6;7,8;9,10;");
    }
}
