import java.math.BigInteger;

/**
 * The edges of "1 STREAMS" and "3 WHAT IT MEANS", a method for each sentence that names one. The sentence stands above its
 * method. What numbers go round to is reckoned with BigInteger.
 */
public final class MeaningEdgesTest {
    private static final long LEAST = Long.MIN_VALUE;
    private static final long GREATEST = Long.MAX_VALUE;
    private static final long[] EDGES = {LEAST, LEAST + 1, LEAST + 2, LEAST / 2 - 1, LEAST / 2, -4294967296L, -3037000500L, -10,
        -3, -2, -1, 0, 1, 2, 3, 10, 3037000500L, 4294967296L, GREATEST / 2, GREATEST / 2 + 1, GREATEST - 1, GREATEST};
    private static final String[] TRUTHS = {"false", "true", "null"};

    public static void main(String[] args) {
        valuesOfEveryColumn();
        timesOfRows();
        watermarkAtFirst();
        watermarkIsTheGreatest();
        actsGoRound();
        signGoesRound();
        divisionCutsTowardZero();
        divisionByZero();
        spanIsTheGreatestMultiple();
        spanOfTheLeastLong();
        spanOfNotAboveZero();
        actsWithNull();
        comparedAtTheEdges();
        comparedWithNull();
        andOfThreeTruths();
        orOfThreeTruths();
        notOfThreeTruths();
        inOfNulls();
        isNullIsNeverNull();
        caseOfThreeTruths();
        whereAndHavingOfThreeTruths();
        onOfThreeTruths();
        rowsAlikeWithNull();
        keepNotBelow();
        keepBelowTheLeastLong();
        joinOfEmpty();
        leftJoinOfEmpty();
        leftJoinWithoutPartner();
        groupsOfEmpty();
        groupsWithNull();
        aggregatesOfNone();
        aggregatesLeaveNullsOut();
        sumGoesRound();
        distinctOfEmptyAndAlike();
        setsOfEmpty();
        setsOfAlike();
        orderOfNulls();
        orderThenByAllColumns();
        limitZeroAndBeyond();
        limitOfAHundred();
        limitWithin();
        truthsInOrder();
        answerByColumns();
        changesLessThenMore();
        changesByColumnsWithOrder();
        changesHowOften();
        changesManyAtOnce();
        Probe.end("MeaningEdgesTest");
    }

    /** A number as a text can have it: there is no least long among NUMBERS. */
    private static String literal(long v) {
        return v == LEAST ? "(-" + GREATEST + " - 1)" : v < 0 ? "(-" + -v + ")" : String.valueOf(v);
    }

    private static String shown(Long v) {
        return v == null ? "null" : String.valueOf(v);
    }

    /** The answer of one ITEM over one row with columns a, b. */
    private static void one(Probe p, String item, Long due) {
        p.answers("select " + item + " from s0 as p", shown(due) + ";");
    }

    /** 5 have 1 .. 4 COLUMNS and rows. A VALUE is a long, or NULL. */
    private static void valuesOfEveryColumn() {
        String[] names = {"a", "b", "c", "d"};
        for (long v : EDGES) {
            for (int column = 0; column < 4; column++) {
                Probe p = new Probe().streams(4);
                Object[] row = {null, null, null, null};
                row[column] = v;
                p.row(0, 0, row);
                for (int c = 0; c < 4; c++) {
                    one(p, names[c], c == column ? v : null);
                }
            }
        }
    }

    /** .. rows, each with a TIME. */
    private static void timesOfRows() {
        for (long t : EDGES) {
            for (int columns = 1; columns <= 4; columns++) {
                Probe p = new Probe().streams(columns);
                p.row(0, t, new Object[columns]);
                one(p, "time", t);
                one(p, "p.time", t);
                one(p, "time is null", 0L);
            }
        }
    }

    /** The WATERMARK is .. (at first the least long). */
    private static void watermarkAtFirst() {
        Probe p = new Probe().streams(1);
        p.row(0, LEAST, 1);
        p.row(0, LEAST + 1, 2);
        p.answers("select a from s0 as p keep 0", "1;2;");
        Probe.due("the least long is not above", p.x.watermark(LEAST), 0);
        Probe.due("answer", p.answer(), "1;2;");
        Probe.due("the next one is", p.x.watermark(LEAST + 1), 1);
        Probe.due("answer", p.answer(), "2;");
    }

    /** The WATERMARK is the greatest that was told. */
    private static void watermarkIsTheGreatest() {
        long[] told = {-7, 5, 5, 4, LEAST, 9, 8, 10, 0};
        long greatest = LEAST;
        Probe p = new Probe().streams(1);
        for (int i = 0; i < 8; i++) {
            p.row(0, i + 3, i + 3);
        }
        p.ask("select a from s0 as p keep 0");
        for (long t : told) {
            p.x.watermark(t);
            greatest = Math.max(greatest, t);
            StringBuilder due = new StringBuilder();
            for (long a = Math.max(greatest, 3); a <= 10; a++) {
                due.append(a).append(";");
            }
            Probe.due("answer behind watermark(" + t + ")", p.answer(), due.toString());
        }
    }

    private static BigInteger big(long v) {
        return BigInteger.valueOf(v);
    }

    /** One row of each two edges, in the columns a and b. */
    private static Probe pair(long x, long y) {
        Probe p = new Probe().streams(2);
        p.row(0, 0, x, y);
        return p;
    }

    /** Acts on numbers go round in 64 bits. */
    private static void actsGoRound() {
        for (long x : EDGES) {
            for (long y : EDGES) {
                Probe p = pair(x, y);
                String due = big(x).add(big(y)).longValue() + "," + big(x).subtract(big(y)).longValue() + ","
                    + big(x).multiply(big(y)).longValue() + ";";
                p.answers("select a + b, a - b, a * b from s0 as p", due);
                p.answers("select " + literal(x) + " + " + literal(y) + ", " + literal(x) + " - " + literal(y) + ", "
                    + literal(x) + " * " + literal(y) + " from s0 as p", due);
            }
        }
    }

    /** - as a sign goes round, too: of the least long. */
    private static void signGoesRound() {
        for (long x : EDGES) {
            Probe p = pair(x, 0);
            one(p, "-a", big(x).negate().longValue());
            one(p, "- - a", x);
            one(p, "-" + literal(x), big(x).negate().longValue());
        }
    }

    /** / and % cut toward 0. */
    private static void divisionCutsTowardZero() {
        for (long x : EDGES) {
            for (long y : EDGES) {
                if (y != 0) {
                    BigInteger[] parts = big(x).divideAndRemainder(big(y));
                    pair(x, y).answers("select a / b, a % b from s0 as p", parts[0].longValue() + "," + parts[1].longValue() + ";");
                }
            }
        }
        Probe p = pair(LEAST, -1);
        p.answers("select a / b, a % b, a / -1, a % -1 from s0 as p", LEAST + ",0," + LEAST + ",0;");
        pair(7, -2).answers("select a / b, a % b, -a / b, -a % b, -a / 2, -a % 2 from s0 as p", "-3,1,3,-1,-3,-1;");
    }

    /** / and % .. by 0 are NULL. */
    private static void divisionByZero() {
        for (long x : EDGES) {
            pair(x, 0).answers("select a / b, a % b, a / 0, a % 0, a / (b - b) from s0 as p", "null,null,null,null,null;");
        }
        // NULL and no fault also where the text's order meets it first.
        pair(1, 0).answers("select case when b = 0 then 5 else a / b end, a / b is null, 1 + a / b from s0 as p", "5,1,null;");
    }

    /** span(x, n) is the greatest multiple of n not above x. */
    private static void spanIsTheGreatestMultiple() {
        for (long x : EDGES) {
            for (long n : EDGES) {
                if (n > 0) {
                    BigInteger due = big(x).subtract(big(x).mod(big(n)));
                    one(pair(x, n), "span(a, b)", due.longValue());
                    one(pair(x, n), "span(" + literal(x) + ", " + literal(n) + ")", due.longValue());
                }
            }
        }
        long[][] dues = {{9, 5, 5}, {10, 5, 10}, {11, 5, 10}, {-1, 5, -5}, {-5, 5, -5}, {-6, 5, -10}, {0, 5, 0}, {4, 5, 0}, {7, 1, 7}};
        for (long[] d : dues) {
            one(pair(d[0], d[1]), "span(a, b)", d[2]);
        }
    }

    /** (below the least long it goes round, too). */
    private static void spanOfTheLeastLong() {
        one(pair(LEAST, 1), "span(a, b)", LEAST);
        one(pair(LEAST, 2), "span(a, b)", LEAST);
        one(pair(LEAST, 3), "span(a, b)", GREATEST);
        one(pair(LEAST + 1, 3), "span(a, b)", GREATEST);
        one(pair(LEAST + 2, 3), "span(a, b)", LEAST + 2);
        one(pair(LEAST, 10), "span(a, b)", 9223372036854775806L);
        one(pair(LEAST, GREATEST), "span(a, b)", 2L);
        one(pair(LEAST + 1, GREATEST), "span(a, b)", LEAST + 1);
        one(pair(LEAST, 1L << 62), "span(a, b)", LEAST);
    }

    /** NULL if n is not above 0. */
    private static void spanOfNotAboveZero() {
        for (long x : EDGES) {
            for (long n : EDGES) {
                if (n <= 0) {
                    one(pair(x, n), "span(a, b)", null);
                }
            }
        }
        one(pair(5, 1), "span(a, b)", 5L);
    }

    /** With a NULL they are NULL. */
    private static void actsWithNull() {
        Probe p = new Probe().streams(2);
        p.row(0, 0, null, 3);
        String[] acts = {"@ + b", "b + @", "@ - b", "b - @", "@ * b", "b * @", "@ * 0", "@ / b", "b / @", "@ / 0", "@ % b", "b % @",
            "0 % @", "span(@, b)", "span(b, @)", "span(@, 0)", "-@", "@ + @", "@ - @"};
        for (String act : acts) {
            one(p, act.replace("@", "a"), null);
            one(p, act.replace("@", "null"), null);
            one(p, "(" + act.replace("@", "a") + ") is null", 1L);
        }
    }

    /** < and the like, over all longs. */
    private static void comparedAtTheEdges() {
        for (long x : EDGES) {
            for (long y : EDGES) {
                String due = (x == y ? 1 : 0) + "," + (x != y ? 1 : 0) + "," + (x < y ? 1 : 0) + "," + (x <= y ? 1 : 0) + ","
                    + (x > y ? 1 : 0) + "," + (x >= y ? 1 : 0) + "," + (x == y ? 1 : 0) + "," + (x == y ? 0 : 1) + ";";
                pair(x, y).answers("select a = b, a <> b, a < b, a <= b, a > b, a >= b, a in (b), a not in (b) from s0 as p", due);
            }
        }
    }

    /** Compared with a NULL: NULL. */
    private static void comparedWithNull() {
        Probe p = new Probe().streams(2);
        p.row(0, 0, null, 3);
        String[] signs = {"=", "<>", "<", "<=", ">", ">="};
        for (String s : signs) {
            one(p, "a " + s + " b", null);
            one(p, "b " + s + " a", null);
            one(p, "a " + s + " a", null);
            one(p, "null " + s + " null", null);
            one(p, "0 " + s + " a", null);
        }
    }

    private static void truth(String expr, int due) {
        Probe p = new Probe().streams(1);
        p.row(0, 0, 0);
        one(p, expr, due == 2 ? null : Long.valueOf(due));
    }

    /** and: false if one is, else NULL if one is, else true. */
    private static void andOfThreeTruths() {
        for (int x = 0; x < 3; x++) {
            for (int y = 0; y < 3; y++) {
                truth(TRUTHS[x] + " and " + TRUTHS[y], x == 0 || y == 0 ? 0 : x == 2 || y == 2 ? 2 : 1);
                for (int z = 0; z < 3; z++) {
                    boolean isFalse = x == 0 || y == 0 || z == 0;
                    truth(TRUTHS[x] + " and " + TRUTHS[y] + " and " + TRUTHS[z], isFalse ? 0 : x == 1 && y == 1 && z == 1 ? 1 : 2);
                }
            }
        }
    }

    /** or likewise the other way. */
    private static void orOfThreeTruths() {
        for (int x = 0; x < 3; x++) {
            for (int y = 0; y < 3; y++) {
                truth(TRUTHS[x] + " or " + TRUTHS[y], x == 1 || y == 1 ? 1 : x == 2 || y == 2 ? 2 : 0);
                for (int z = 0; z < 3; z++) {
                    boolean isTrue = x == 1 || y == 1 || z == 1;
                    truth(TRUTHS[x] + " or " + TRUTHS[y] + " or " + TRUTHS[z], isTrue ? 1 : x == 0 && y == 0 && z == 0 ? 0 : 2);
                }
            }
        }
    }

    /** not NULL: NULL. */
    private static void notOfThreeTruths() {
        truth("not false", 1);
        truth("not true", 0);
        truth("not null", 2);
        truth("not not null", 2);
        truth("not (a = null)", 2);
        truth("not (null and false)", 1);
        truth("not (null or true)", 0);
    }

    /** x in (..): true if it is like one (a NULL is like none here), else NULL if one of them or x is NULL, else false. */
    private static void inOfNulls() {
        String[] values = {"1", "2", "null"};
        String[] nots = {"", "not "};
        for (String x : values) {
            for (String y : values) {
                for (String z : values) {
                    boolean isFound = !x.equals("null") && (x.equals(y) || x.equals(z));
                    boolean hasNull = x.equals("null") || y.equals("null") || z.equals("null");
                    for (String not : nots) {
                        int due = isFound ? 1 : hasNull ? 2 : 0;
                        truth(x + " " + not + "in (" + y + ", " + z + ")", not.isEmpty() || due == 2 ? due : 1 - due);
                    }
                }
            }
        }
        truth("null in (null)", 2);
        truth("1 in (null)", 2);
        truth("1 in (1)", 1);
        truth("1 in (2)", 0);
        // The last of eight counts as the first does.
        truth("5 in (1, 1, 1, 1, 1, 1, 1, 5)", 1);
        truth("5 in (5, 1, 1, 1, 1, 1, 1, null)", 1);
        truth("5 in (null, 1, 1, 1, 1, 1, 1, 5)", 1);
        truth("5 in (1, 1, 1, 1, 1, 1, 1, null)", 2);
        truth("5 in (1, 1, 1, 1, 1, 1, 1, 1)", 0);
    }

    /** is null is never NULL. */
    private static void isNullIsNeverNull() {
        String[] nulls = {"null", "null + 1", "null = null", "not null", "null and true", "null in (1)", "1 / 0", "span(1, 0)",
            "case when null then 1 else null end"};
        for (String n : nulls) {
            truth("(" + n + ") is null", 1);
            truth("(" + n + ") is not null", 0);
            truth("((" + n + ") is null) is null", 0);
        }
        String[] others = {"1", "0", "true", "false", "a", "time", "null is null", "null and false", "null or true"};
        for (String o : others) {
            truth("(" + o + ") is null", 0);
            truth("(" + o + ") is not null", 1);
        }
    }

    /** case: then, if when is true, else the other. */
    private static void caseOfThreeTruths() {
        truth("case when true then 1 else 0 end", 1);
        truth("case when false then 1 else 0 end", 0);
        truth("case when null then 1 else 0 end", 0);
        truth("case when not null then 1 else 0 end", 0);
        truth("case when true then null else 0 end", 2);
        truth("case when false then 1 else null end", 2);
        truth("case when null then 1 else null end", 2);
    }

    /** where, having: those for which it is true. */
    private static void whereAndHavingOfThreeTruths() {
        Probe p = new Probe().streams(1);
        p.row(0, 0, 1);
        p.row(0, 0, 2);
        p.row(0, 0, (Object) null);
        String[] clauses = {"where", "having"};
        for (String c : clauses) {
            p.answers("select a from s0 as p " + c + " true", "null;1;2;");
            p.answers("select a from s0 as p " + c + " false", "");
            p.answers("select a from s0 as p " + c + " null", "");
            p.answers("select a from s0 as p " + c + " a = 1", "1;");
            p.answers("select a from s0 as p " + c + " not a = 1", "2;");
            p.answers("select a from s0 as p " + c + " a = 1 or a is null", "null;1;");
            p.answers("select a + null from s0 as p " + c + " true", "null;null;null;");
            Probe.due("again", p.row(0, 0, 7) + p.answer(), "3null;null;null;null;");
            p.x.back(0, 3);
            p.answers("unbounded select count(*) from s0 as p where true " + (c.equals("where") ? "" : "having count(*) = null"),
                c.equals("where") ? "3;" : "");
        }
    }

    /** join: all pairs for which on is true. */
    private static void onOfThreeTruths() {
        Probe p = new Probe().streams(1, 1);
        p.row(0, 0, 1);
        p.row(0, 0, (Object) null);
        p.row(1, 0, 1);
        p.row(1, 0, (Object) null);
        String[] joins = {"join", "left join"};
        String[][] dues = {{"true", "null,null;null,1;1,null;1,1;", "null,null;null,1;1,null;1,1;"}, {"false", "", "null,null;1,null;"},
            {"null", "", "null,null;1,null;"}, {"p.a = q.a", "1,1;", "null,null;1,1;"}, {"not p.a = q.a", "", "null,null;1,null;"}};
        for (String[] d : dues) {
            for (int i = 0; i < joins.length; i++) {
                p.answers("unbounded select p.a, q.a from s0 as p " + joins[i] + " s1 as q on " + d[0], d[i + 1]);
            }
        }
    }

    /** (rows are alike with NULL like NULL). */
    private static void rowsAlikeWithNull() {
        Probe p = new Probe().streams(2);
        p.row(0, 0, null, 0);
        p.row(0, 0, null, 0);
        p.row(0, 0, 0, null);
        p.row(0, 0, 0, 0);
        p.answers("unbounded select distinct a, b from s0 as p", "null,0;0,null;0,0;");
        p.answers("unbounded select a, b from s0 as p intersect select a, b from s0 as q", "null,0;0,null;0,0;");
        p.answers("unbounded select a, b from s0 as p except select a, b from s0 as q", "");
        p.answers("unbounded select j, k, count(*) from s0 as p group by a as j, b as k", "null,0,2;0,null,1;0,0,1;");
        p.well("select a, b from s0 as p", 2);
        p.x.back(0, 0);
        Probe.due("one less of two alike", p.changes(), "-1:null,0;");
        Probe.due("the answer has one", p.answer(), "null,0;0,null;0,0;");
    }

    /** with keep n those of TIME not below WATERMARK less n. */
    private static void keepNotBelow() {
        Probe p = new Probe().streams(1);
        for (int i = 0; i < 8; i++) {
            p.row(0, i, i);
        }
        for (int mark = 0; mark <= 12; mark++) {
            p.x.watermark(mark);
            for (int keep = 0; keep <= 12; keep++) {
                StringBuilder due = new StringBuilder();
                for (int t = Math.max(0, mark - keep); t < 8; t++) {
                    due.append(t).append(";");
                }
                p.answers("select a from s0 as p keep " + keep, due.toString());
            }
        }
        p.answers("select a from s0 as p", "0;1;2;3;4;5;6;7;");
        p.x.watermark(GREATEST);
        p.answers("select a from s0 as p keep " + GREATEST, "0;1;2;3;4;5;6;7;");
        p.answers("select a from s0 as p keep 9223372036854775801", "6;7;");
        p.answers("select a from s0 as p keep 0", "");
    }

    /** (the least long, if that is less). */
    private static void keepBelowTheLeastLong() {
        long[] keeps = {0, 1, 4, 5, 6, 1000, GREATEST - 1, GREATEST};
        for (long mark : EDGES) {
            for (long keep : keeps) {
                BigInteger oldest = big(mark).subtract(big(keep)).max(big(LEAST));
                Probe p = new Probe().streams(1);
                long[] times = {LEAST, LEAST + 1, LEAST + 2, -5, -1, 0, 5, GREATEST};
                int seen = 0;
                for (long t : times) {
                    p.row(0, t, t);
                    seen += big(t).compareTo(oldest) >= 0 ? 1 : 0;
                }
                p.x.watermark(mark);
                p.well("select a from s0 as p keep " + keep, 1);
                Probe.due("rows() with keep " + keep + " at " + mark, p.x.rows(), seen);
                Probe.due("told(2) with keep " + keep + " at " + mark, p.x.told(2), seen);
            }
        }
    }

    /** Two streams, the second of them without rows. */
    private static Probe halfEmpty() {
        Probe p = new Probe().streams(2, 2);
        p.row(0, 1, 1, 10);
        p.row(0, 2, null, 20);
        return p;
    }

    /** join: all pairs: of an empty relation none. */
    private static void joinOfEmpty() {
        Probe p = halfEmpty();
        p.answers("unbounded select 1 from s0 as p join s1 as q on true", "");
        p.answers("unbounded select 1 from s1 as p join s0 as q on true", "");
        p.answers("unbounded select 1 from s1 as p join s1 as q on true", "");
        p.answers("unbounded select 1 from s0 as p join s0 as q on true join s1 as r on true", "");
        p.answers("unbounded select count(*) from s0 as p join s1 as q on true", "0;");
    }

    /** left join of an empty relation. */
    private static void leftJoinOfEmpty() {
        Probe p = halfEmpty();
        p.answers("unbounded select p.b, q.a, q.b, q.time from s0 as p left join s1 as q on true", "10,null,null,null;20,null,null,null;");
        p.answers("unbounded select q.b from s1 as p left join s0 as q on true", "");
        p.answers("unbounded select 1 from s1 as p left join s1 as q on true", "");
        p.answers("unbounded select p.b, q.b, r.b from s0 as p left join s1 as q on true left join s0 as r on r.b = 10",
            "10,null,10;20,null,10;");
        p.answers("unbounded select p.b, r.b from s0 as p left join s1 as q on true join s0 as r on q.a is null and r.b = p.b",
            "10,10;20,20;");
    }

    /** left join: and each row of the left one that has none, with NULLS. */
    private static void leftJoinWithoutPartner() {
        Probe p = halfEmpty();
        p.row(1, 5, 1, 100);
        p.row(1, 6, 1, 101);
        p.well("unbounded select p.b, q.b, q.time is null, q.t from s0 as p left join (select a, b, time, a = 1 as t from s1 as r)"
            + " as q on p.a = q.a", 4);
        Probe.due("answer", p.answer(), "10,100,0,1;10,101,0,1;20,null,1,null;");
        p.x.back(1, 0);
        Probe.due("one of two partners went", p.changes(), "-1:10,100,0,1;");
        p.x.back(1, 1);
        Probe.due("the last one went", p.changes(), "-1:10,101,0,1;+1:10,null,1,null;");
        p.row(1, 7, null, 102);
        Probe.due("NULL is no partner of NULL", p.changes(), "");
        p.row(1, 7, 1, 103);
        Probe.due("a partner came", p.changes(), "-1:10,null,1,null;+1:10,103,0,1;");
    }

    /** GROUPED: one row of each different VALUES of the EXPRS; without group by just one. */
    private static void groupsOfEmpty() {
        Probe p = halfEmpty();
        p.answers("unbounded select k from s1 as p group by a as k", "");
        p.answers("unbounded select count(*) from s1 as p group by 1 as k", "");
        p.answers("unbounded select count(*) from s1 as p", "0;");
        p.answers("unbounded select 7 from s1 as p having count(*) = 0", "7;");
        p.answers("unbounded select 7 from s1 as p having count(*) > 0", "");
        p.answers("unbounded select 7 from s0 as p having count(*) = 2", "7;");
        p.answers("unbounded select count(*) from s0 as p where false", "0;");
        p.answers("unbounded select count(*) from (select a from s1 as p) as q", "0;");
        p.answers("unbounded select n from (select count(*) as n from s1 as p) as q", "0;");
        p.answers("unbounded select 7 from s1 as p having true", "");
        // An aggregate of having makes its own SELECT a GROUPED one, and no other.
        p.answers("unbounded select 7 from (select a from s0 as p) as q having count(*) = 2", "7;");
        p.answers("unbounded select b from (select b from s0 as p) as q where b > 0", "10;20;");
        p.answers("unbounded select 7 from (select a from s1 as p union all select 5 from s0 as q having count(*) = 2) as r"
            + " having count(*) = 1", "7;");
    }

    /** (NULL like NULL). */
    private static void groupsWithNull() {
        Probe p = new Probe().streams(2);
        Object[][] rows = {{null, null}, {null, 0}, {null, null}, {0, null}, {0, 0}, {null, 0}};
        for (Object[] r : rows) {
            p.row(0, 0, r);
        }
        p.answers("unbounded select k, count(*) from s0 as p group by a as k", "null,4;0,2;");
        p.answers("unbounded select j, k, count(*) from s0 as p group by a as j, b as k", "null,null,2;null,0,2;0,null,1;0,0,1;");
        p.answers("unbounded select k, count(*) from s0 as p group by a = b as k", "null,5;1,1;");
        p.answers("unbounded select k, count(*) from s0 as p group by null as k", "null,6;");
        p.answers("unbounded select k, count(*) from s0 as p group by a is null as k", "0,2;1,4;");
        // A truth of group by is one.
        p.answers("unbounded select not k from s0 as p group by a is null as k having k", "0;");
        Probe.due("type of a truth of group by", p.x.type(0), 2);
    }

    /** count(*): how many; others .. (of none NULL). */
    private static void aggregatesOfNone() {
        Probe p = halfEmpty();
        String all = "unbounded select count(*), count(a), sum(a), min(a), max(a) from s1 as p";
        p.answers(all, "0,0,null,null,null;");
        p.row(1, 0, null, 5);
        Probe.due("of NULLS alone", p.answer(), "1,0,null,null,null;");
        p.row(1, 0, 0, 5);
        Probe.due("of NULL and 0", p.answer(), "2,1,0,0,0;");
        p.row(1, 0, -3, 5);
        Probe.due("of NULL, 0, -3", p.answer(), "3,2,-3,-3,0;");
        p.x.back(1, 1);
        p.x.back(1, 2);
        Probe.due("of NULLS alone again", p.answer(), "1,0,null,null,null;");
        p.x.back(1, 0);
        Probe.due("of none again", p.answer(), "0,0,null,null,null;");
        p.answers("unbounded select sum(a) + 1, min(a) is null, -max(a), count(a) + count(*) from s1 as p", "null,1,null,0;");
    }

    /** others leave NULLS out: count how many, sum, min, max. */
    private static void aggregatesLeaveNullsOut() {
        Probe p = new Probe().streams(2);
        p.row(0, 0, null, 1);
        p.row(0, 0, 5, null);
        p.row(0, 0, 7, 2);
        p.row(0, 0, null, null);
        p.answers("unbounded select count(*), count(a), sum(a), min(a), max(a) from s0 as p", "4,2,12,5,7;");
        p.answers("unbounded select count(a + b), sum(a + b), min(b - a), max(a * b) from s0 as p", "1,9,-5,14;");
        p.answers("unbounded select count(a = 5), count(a is null), count(true), count(null), count(not null) from s0 as p",
            "2,4,4,0,0;");
        p.row(0, 0, LEAST, GREATEST);
        p.answers("unbounded select min(a), max(a), min(b), max(b) from s0 as p", LEAST + ",7,1," + GREATEST + ";");
        p.answers("unbounded select min(-b), max(-b) from s0 as p", "-" + GREATEST + ",-1;");
        // In whatever order they stand.
        p.answers("unbounded select max(b), count(a), min(a), count(*), sum(b) from s0 as p where a is not null",
            GREATEST + ",3," + LEAST + ",3," + (GREATEST + 2) + ";");
        p.answers("unbounded select k, sum(b), count(*), max(b), count(*), min(b), count(*) from s0 as p group by a is null as k",
            "0," + (GREATEST + 2) + ",3," + GREATEST + ",3,2,3;1,1,2,1,2,1,2;");
    }

    /** sum goes round in 64 bits. */
    private static void sumGoesRound() {
        Probe p = new Probe().streams(1);
        p.ask("unbounded select sum(a) from s0 as p");
        long[] values = {GREATEST, 1, LEAST, LEAST, -1, GREATEST, GREATEST, GREATEST};
        BigInteger sum = BigInteger.ZERO;
        for (long v : values) {
            p.row(0, 0, v);
            sum = sum.add(big(v));
            Probe.due("sum", p.answer(), sum.longValue() + ";");
        }
    }

    /** distinct: each once. */
    private static void distinctOfEmptyAndAlike() {
        Probe p = new Probe().streams(1);
        p.well("unbounded select distinct a from s0 as p", 1);
        Probe.due("of none", p.answer(), "");
        for (int i = 0; i < 8; i++) {
            p.row(0, 0, i % 2 == 0 ? null : 3);
            Probe.due("rows", p.answer(), i == 0 ? "null;" : "null;3;");
        }
        p.answers("unbounded select distinct 5 from s0 as p", "5;");
        p.answers("unbounded select distinct a, a is null from s0 as p", "null,1;3,0;");
    }

    private static final String[] SETS = {"union all", "union", "except", "intersect"};

    /** The sets, of empty relations. */
    private static void setsOfEmpty() {
        Probe p = new Probe().streams(1, 1);
        p.row(0, 0, 2);
        p.row(0, 0, 2);
        p.row(0, 0, (Object) null);
        String[] rightEmpty = {"null;2;2;", "null;2;", "null;2;", ""};
        String[] leftEmpty = {"null;2;2;", "null;2;", "", ""};
        for (int i = 0; i < SETS.length; i++) {
            p.answers("unbounded select a from s0 as p " + SETS[i] + " select a from s1 as q", rightEmpty[i]);
            p.answers("unbounded select a from s1 as p " + SETS[i] + " select a from s0 as q", leftEmpty[i]);
            p.answers("unbounded select a from s1 as p " + SETS[i] + " select a from s1 as q", "");
        }
    }

    /** union all: both; union: each once that one has; except: each once that the first has and the second not; intersect: that both have. */
    private static void setsOfAlike() {
        Probe p = new Probe().streams(1, 1);
        Integer[] left = {1, 1, 2, 2, null, null};
        Integer[] right = {2, 3, 3, null};
        for (Integer v : left) {
            p.row(0, 0, v);
        }
        for (Integer v : right) {
            p.row(1, 0, v);
        }
        String[] dues = {"null;null;null;1;1;2;2;2;3;3;", "null;1;2;3;", "1;", "null;2;"};
        String[] others = {"null;null;null;1;1;2;2;2;3;3;", "null;1;2;3;", "3;", "null;2;"};
        for (int i = 0; i < SETS.length; i++) {
            p.answers("unbounded select a from s0 as p " + SETS[i] + " select a from s1 as q", dues[i]);
            p.answers("unbounded select a from s1 as p " + SETS[i] + " select a from s0 as q", others[i]);
        }
        // From the left.
        p.answers("unbounded select a from s0 as p except select a from s1 as q union select a from s1 as r", "null;1;2;3;");
        p.answers("unbounded select a from s0 as p union select a from s1 as q except select a from s1 as r", "1;");
        p.answers("unbounded select a from s0 as p union all select a from s1 as q intersect select a from s1 as r", "null;2;3;");
    }

    /** VALUES are in order NULL first, then by numbers; desc: the other way. */
    private static void orderOfNulls() {
        Probe p = new Probe().streams(1);
        Object[] values = {0, null, LEAST, GREATEST, -1, null, 1};
        for (Object v : values) {
            p.row(0, 0, v);
        }
        String up = "null;null;" + LEAST + ";-1;0;1;" + GREATEST + ";";
        String down = GREATEST + ";1;0;-1;" + LEAST + ";null;null;";
        p.answers("select a from s0 as p", up);
        p.answers("unbounded select a from s0 as p order by a limit 100", up);
        p.answers("unbounded select a from s0 as p order by a desc limit 100", down);
        p.answers("unbounded select a from s0 as p order by a is null, a desc limit 100", down);
        p.answers("unbounded select a from s0 as p order by a desc limit 6", down.substring(0, down.length() - 5));
    }

    /** order: sorted by the EXPRS .., then by all columns. */
    private static void orderThenByAllColumns() {
        Probe p = new Probe().streams(3);
        Object[][] rows = {{2, 1, 9}, {1, 2, 9}, {1, 1, 9}, {1, 1, 8}, {null, 5, 9}, {1, null, 9}};
        for (Object[] r : rows) {
            p.row(0, 0, r);
        }
        String all = "null,5,9;1,null,9;1,1,8;1,1,9;1,2,9;2,1,9;";
        p.answers("unbounded select a, b, c from s0 as p order by 0 limit 100", all);
        p.answers("unbounded select a, b, c from s0 as p order by 0 desc limit 100", all);
        p.answers("unbounded select a, b, c from s0 as p order by c limit 100", "1,1,8;null,5,9;1,null,9;1,1,9;1,2,9;2,1,9;");
        p.answers("unbounded select a, b, c from s0 as p order by c desc limit 100", "null,5,9;1,null,9;1,1,9;1,2,9;2,1,9;1,1,8;");
        p.answers("unbounded select a, b, c from s0 as p order by a desc, b limit 100", "2,1,9;1,null,9;1,1,8;1,1,9;1,2,9;null,5,9;");
        p.answers("unbounded select a, b, c from s0 as p order by a desc, b desc limit 100", "2,1,9;1,2,9;1,1,8;1,1,9;1,null,9;null,5,9;");
    }

    /** the first n of these: of none, of all, of more than there are. */
    private static void limitZeroAndBeyond() {
        Probe p = new Probe().streams(1);
        for (int i = 0; i < 8; i++) {
            p.row(0, 0, 7 - i);
        }
        for (int n = 0; n <= 10; n++) {
            StringBuilder due = new StringBuilder();
            for (int i = 0; i < Math.min(n, 8); i++) {
                due.append(i).append(";");
            }
            p.answers("unbounded select a from s0 as p order by a limit " + n, due.toString());
            Probe.due("rows() of limit " + n, p.x.rows(), Math.min(n, 8));
        }
        p.well("unbounded select a from s0 as p order by a limit 0", 1);
        p.x.back(0, 0);
        Probe.due("changes with limit 0", p.x.changes(), 0);
        p.row(0, 0, -5);
        Probe.due("changes with limit 0", p.x.changes(), 0);
        Probe.due("type(0) with limit 0", p.x.type(0), 1);
    }

    /** limit 100, of 512 rows. */
    private static void limitOfAHundred() {
        Probe p = new Probe().streams(1, 1, 1);
        for (int i = 0; i < 8; i++) {
            p.row(0, 0, i);
            p.row(1, 0, i);
            p.row(2, 0, i);
        }
        String from = " from s0 as p join s1 as q on true join s2 as r on true order by x ";
        int[] limits = {99, 100};
        for (int n : limits) {
            p.well("unbounded select p.a * 64 + q.a * 8 + r.a as x" + from + "limit " + n, 1);
            Probe.due("rows()", p.x.rows(), n);
            Probe.due("the first", p.x.at(0, 0), 0);
            Probe.due("the last", p.x.at(n - 1, 0), n - 1);
            Probe.due("behind the last", p.x.at(n, 0), 0);
            p.well("unbounded select p.a * 64 + q.a * 8 + r.a as x" + from + "desc limit " + n, 1);
            Probe.due("the first", p.x.at(0, 0), 511);
            Probe.due("the last", p.x.at(n - 1, 0), 512 - n);
        }
    }

    /** of all of it; a ( QUERY ) is cut, too. */
    private static void limitWithin() {
        Probe p = new Probe().streams(1, 1);
        for (int i = 0; i < 5; i++) {
            p.row(0, 0, i);
            p.row(1, 0, 10 * i);
        }
        p.answers("unbounded select count(*), sum(a) from (select a from s0 as p order by a desc limit 2) as q", "2,7;");
        p.answers("unbounded select count(*) from (select a from s0 as p order by a desc limit 0) as q", "0;");
        p.answers("unbounded select a from s0 as p union all select a from s1 as q order by a desc limit 2", "40;30;");
        p.answers("unbounded select a from (select a from s0 as p union select a from s1 as q order by a desc limit 3) as r", "20;30;40;");
        p.answers("unbounded select p.a, q.a from s0 as p left join (select a from s1 as r order by a limit 1) as q on p.a = q.a"
            + " order by 1 limit 1", "0,0;");
    }

    /** (false 0, true 1). */
    private static void truthsInOrder() {
        Probe p = new Probe().streams(1);
        p.row(0, 0, 1);
        p.row(0, 0, (Object) null);
        p.row(0, 0, 2);
        p.answers("select a = 1 from s0 as p", "null;0;1;");
        p.answers("unbounded select a = 1 as t, a from s0 as p order by t limit 9", "null,null;0,2;1,1;");
        p.answers("unbounded select a = 1 as t, a from s0 as p order by t desc limit 9", "1,1;0,2;null,null;");
        p.answers("unbounded select a = 1 as t, a from s0 as p order by not t limit 9", "null,null;1,1;0,2;");
    }

    /** THE ANSWER of the query is its rows, .. else by their columns from the first on. */
    private static void answerByColumns() {
        Probe p = new Probe().streams(2);
        Object[][] rows = {{1, 2}, {2, 1}, {1, null}, {null, 9}, {1, 2}, {LEAST, 0}};
        for (Object[] r : rows) {
            p.row(0, 0, r);
        }
        p.answers("select a, b from s0 as p", "null,9;" + LEAST + ",0;1,null;1,2;1,2;2,1;");
        p.answers("select b, a from s0 as p", "null,1;0," + LEAST + ";1,2;2,1;2,1;9,null;");
        // An order within does not make one of the answer.
        p.answers("unbounded select a, b from (select a, b from s0 as p order by a desc, b desc limit 3) as q", "1,2;1,2;2,1;");
    }

    /** WHAT CHANGES: .. the rows that are there less often than before .., then those that are there more often. */
    private static void changesLessThenMore() {
        Probe p = new Probe().streams(1);
        p.well("unbounded select count(*), -count(*) from s0 as p", 2);
        p.row(0, 0, 1);
        Probe.due("less, though later by columns, is told first", p.changes(), "-1:0,0;+1:1,-1;");
        p.x.back(0, 0);
        Probe.due("less, later by columns", p.changes(), "-1:1,-1;+1:0,0;");
        p.well("unbounded select case when count(*) > 1 then null else 5 end from s0 as p", 1);
        p.row(0, 0, 1);
        p.row(0, 0, 1);
        Probe.due("NULL came", p.changes(), "-1:5;+1:null;");
        p.x.back(0, 0);
        Probe.due("NULL went", p.changes(), "-1:null;+1:5;");
    }

    /** (by columns, also with order by ..). */
    private static void changesByColumnsWithOrder() {
        Probe p = new Probe().streams(1, 1);
        p.row(1, 0, 3);
        p.row(1, 0, (Object) null);
        p.row(1, 0, 7);
        p.well("unbounded select q.a as x from s0 as p join s1 as q on true order by x desc limit 100", 1);
        p.row(0, 0, 1);
        Probe.due("answer", p.answer(), "7;3;null;");
        Probe.due("they came", p.changes(), "+1:null;+1:3;+1:7;");
        p.x.back(0, 0);
        Probe.due("they went", p.changes(), "-1:null;-1:3;-1:7;");
    }

    /** the number below 0: how much less .. (likewise). */
    private static void changesHowOften() {
        Probe p = new Probe().streams(1, 1);
        p.well("unbounded select 5 from s0 as p join s1 as q on true", 1);
        p.row(0, 0, 1);
        Probe.due("none", p.changes(), "");
        for (int i = 1; i <= 8; i++) {
            p.row(1, 0, 1);
            Probe.due("one more", p.changes(), "+1:5;");
        }
        p.row(0, 0, 1);
        Probe.due("eight more", p.changes(), "+8:5;");
        p.x.back(0, 0);
        Probe.due("eight less", p.changes(), "-8:5;");
        p.x.back(0, 1);
        Probe.due("eight less, to none", p.changes(), "-8:5;");
        Probe.due("answer", p.answer(), "");
    }

    /** As many as can be: all of 512 rows go at once, and other 64 come. */
    private static void changesManyAtOnce() {
        Probe p = new Probe().streams(1, 1, 1);
        for (int i = 0; i < 8; i++) {
            p.row(0, 0, i);
            p.row(1, 0, i);
            p.row(2, 0, i);
        }
        p.well("unbounded select p.a, q.a, r.a from s0 as p join s1 as q on true left join s2 as r keep 0 on true", 3);
        p.x.watermark(0);
        Probe.due("rows()", p.x.rows(), 512);
        Probe.due("watermark(1)", p.x.watermark(1), 576);
        Probe.due("changes()", p.x.changes(), 576);
        for (int i = 0; i < 512; i++) {
            Probe.due("change(" + i + ")", p.x.change(i), -1);
            Probe.due("it", p.x.changed(i, 0) * 64 + p.x.changed(i, 1) * 8 + p.x.changed(i, 2), i);
        }
        for (int i = 512; i < 576; i++) {
            Probe.due("change(" + i + ")", p.x.change(i), 1);
            Probe.due("it", p.x.changed(i, 0) * 8 + p.x.changed(i, 1), i - 512);
            Probe.due("its last column", p.x.changedNull(i, 2), true);
        }
        Probe.due("change(576)", p.x.change(576), 0);
        Probe.due("changedNull(576, 2)", p.x.changedNull(576, 2), false);
        Probe.due("rows()", p.x.rows(), 64);
    }
}
