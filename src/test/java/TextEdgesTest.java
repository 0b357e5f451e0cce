/**
 * The edges of "2 TEXTS" up to the grammar's, a method for each sentence that names one: the last text that is well and
 * the first that is not, and where its fault is told. The sentence stands above its method.
 */
public final class TextEdgesTest {
    private static final String MAX = "9223372036854775807";
    private static final String[] TAKEN = ("select distinct from join left on where group by having union all except intersect"
        + " order desc limit as keep case when then else end is not null in and or true false count sum min max span"
        + " unbounded time").split(" ");

    public static void main(String[] args) {
        bytesBetweenTokens();
        bytesRightBehindTokens();
        bytesAsSigns();
        bytesBehindTheText();
        tokensAsLongAsCanBe();
        wordsBegin();
        wordsTwelveAtMost();
        wordsOfTwelveAreToldApart();
        numbersUpTo();
        numbersWithZerosInFront();
        numbersWithALetterBehind();
        takenWordsAreNoNames();
        almostTakenWordsAreNames();
        faultAtTheTextsLength();
        unboundedOnceInFront();
        limitUpTo100();
        orderSeesNamesAlone();
        orderByTime();
        streamsNumber();
        streamsThatAreThere();
        columnsOfAStream();
        keepOfAStreamAlone();
        itemsNamedAlone();
        namesOfSets();
        nullsWhereTruthsAreWanted();
        casesOfNulls();
        Probe.end("TextEdgesTest");
    }

    private static Probe probe() {
        return new Probe().streams(4, 1);
    }

    private static boolean isBlank(int b) {
        return b == 32 || b == 9 || b == 13 || b == 10;
    }

    private static boolean isLetter(int b) {
        return b >= 'a' && b <= 'z';
    }

    private static boolean isDigit(int b) {
        return b >= '0' && b <= '9';
    }

    /** Between TOKENS bytes 32, 9, 13, 10. .. another byte: FAULT 1, at its first byte. */
    private static void bytesBetweenTokens() {
        Probe p = probe();
        for (int b = 0; b < 256; b++) {
            String text = "select 5 " + (char) b + " from s0 as p";
            if (isBlank(b)) {
                p.well(text, 1);
            } else if (",+-*/%=<>".indexOf(b) >= 0) {
                p.bad(text, 1, 11);
            } else {
                p.bad(text, 1, 9);
            }
        }
    }

    /** TOKENS, each as long as can be: .. another byte: FAULT 1, at its first byte. */
    private static void bytesRightBehindTokens() {
        Probe p = probe();
        for (int b = 0; b < 256; b++) {
            String text = "select a" + (char) b + "from s0 as p";
            if (isBlank(b)) {
                p.well(text, 1);
            } else if (isLetter(b) || isDigit(b)) {
                p.bad(text, 1, 14);
            } else if (",+-*/%=<>.".indexOf(b) >= 0) {
                p.bad(text, 1, 9);
            } else {
                p.bad(text, 1, 8);
            }
        }
    }

    /** signs ( ) , . + - * / % = <> <= >= < >. Each of one byte is that byte, and no other one. */
    private static void bytesAsSigns() {
        for (int b = 0; b < 256; b++) {
            checkSign(b, "(", "select ", " a ) from s0 as p");
            checkSign(b, ")", "select ( a ", " from s0 as p");
            checkSign(b, ".", "select p ", " a from s0 as p");
            checkSign(b, ",", "select span ( a ", " 2 ) from s0 as p");
            checkSign(b, "*", "unbounded select count ( ", " ) from s0 as p");
            checkSign(b, "+-*/%,", "select 1 ", " ( 2 ) < 3 from s0 as p");
            checkSign(b, "=<>", "select 1 + 2 ", " 3 and true from s0 as p");
            checkSign(b, "=> \t\r\n-", "select 1 <", " 2 from s0 as p");
            checkSign(b, "= \t\r\n-", "select 1 >", " 2 from s0 as p");
        }
    }

    /** Well with one of the bytes between, else a FAULT at it, or, where it could be a part of an EXPR, some other one. */
    private static void checkSign(int b, String signs, String before, String behind) {
        Probe p = probe();
        String text = before + (char) b + behind;
        boolean isWell = p.ask(text) > 0;
        Probe.due("is well: " + text, isWell, signs.indexOf(b) >= 0 || isPart(b, before));
        boolean isAnyToken = b < 128 && (isBlank(b) || isLetter(b) || isDigit(b) || "(),.+-*/%=<>".indexOf(b) >= 0);
        if (!isAnyToken) {
            p.bad(text, 1, before.length());
        }
    }

    /** In count ( ) a NUMBER or a column may stand, too. */
    private static boolean isPart(int b, String before) {
        return before.endsWith("count ( ") && (isDigit(b) || b >= 'a' && b <= 'd');
    }

    /** Behind the last token, where a letter or digit makes its NAME longer. */
    private static void bytesBehindTheText() {
        Probe p = probe();
        for (int b = 0; b < 256; b++) {
            String text = "select a from s0 as p" + (char) b;
            if (isBlank(b) || isLetter(b) || isDigit(b)) {
                p.well(text, 1);
            } else {
                p.bad(text, 1, 21);
            }
        }
    }

    /** TOKENS, each as long as can be. */
    private static void tokensAsLongAsCanBe() {
        Probe p = probe();
        String[] longer = {"<>", "<=", ">="};
        for (String sign : longer) {
            p.well("select a" + sign + "b from s0 as p", 1);
            p.faulty(1, "select a" + sign.charAt(0) + " @" + sign.charAt(1) + "b from s0 as p");
            p.faulty(1, "select a" + sign + "@=b from s0 as p");
            p.faulty(1, "select a" + sign + "@>b from s0 as p");
        }
        String[] apart = {"=<", "=>", "==", "><", ">>", "<<", "=<>"};
        for (String signs : apart) {
            p.faulty(1, "select a" + signs.charAt(0) + "@" + signs.substring(1) + "b from s0 as p");
        }
        p.faulty(1, "@selecta from s0 as p");
        p.faulty(1, "select 1 @2 from s0 as p");
        p.well("select 12 from s0 as p", 1);
        p.faulty(1, "select a from s0 as p @unionall select a from s0 as p");
        p.faulty(1, "select a from s0 as p where a @isnull");
        p.faulty(1, "select a from s0 as p @orderby a limit 1");
        p.well("select(a)from s0 as p where(a)is null", 1);
        p.well("select-a,a-1,a--1 from s0 as p", 3);
    }

    /** WORDS: a .. z, then these or 0 .. 9. */
    private static void wordsBegin() {
        Probe p = probe();
        for (char c = 'a'; c <= 'z'; c++) {
            p.well("select a as " + c + " from s0 as p", 1);
            p.well("select a as " + c + "0" + c + "9 from s0 as p", 1);
        }
        for (char c = '0'; c <= '9'; c++) {
            p.faulty(1, "select a as @" + c + " from s0 as p");
            p.faulty(1, "select a as @" + c + "a from s0 as p");
            p.well("select a as a" + c + " from s0 as p", 1);
        }
    }

    /** 12 at most. A longer WORD: FAULT 1, at its first byte. */
    private static void wordsTwelveAtMost() {
        Probe p = probe();
        String[] twelves = {"abcdefghijkl", "zzzzzzzzzzzz", "z99999999999", "a00000000000", "selectselect", "unbounded123"};
        for (String w : twelves) {
            p.well("select a as " + w + " from s0 as p", 1);
            p.well("select " + w + ".a from s0 as " + w, 1);
            p.well("unbounded select " + w + " from s0 as p group by a as " + w, 1);
            p.well("unbounded select a as " + w + " from s0 as p order by " + w + " limit 1", 1);
            String[] longer = {w + "a", w + "0", w + "z9z", w.repeat(20)};
            for (String l : longer) {
                p.faulty(1, "select a as @" + l + " from s0 as p");
                p.faulty(1, "select @" + l + " from s0 as p");
                p.faulty(1, "select p.@" + l + " from s0 as p");
                p.faulty(1, "select a from @" + l + " as p");
                p.faulty(1, "select a from s0 as @" + l);
                p.faulty(1, "select a from s0 as p group by a as @" + l);
                p.faulty(1, "@" + l);
            }
        }
    }

    /** A NAME of twelve is another one if any byte is. */
    private static void wordsOfTwelveAreToldApart() {
        Probe p = probe();
        String name = "zzzzzzzzzzzz";
        for (int i = 0; i < 12; i++) {
            String other = name.substring(0, i) + "y" + name.substring(i + 1);
            p.well("select " + name + " from (select a as " + name + ", b as " + other + " from s0 as p) as q", 1);
            p.faulty(2, "select @" + other + " from (select a as " + name + " from s0 as p) as q");
        }
        String[] names = {"a", "aa", "a0", "a9", "aaa", "b", "z", "z9", "a00", "aaaaaaaaaaaa", "aaaaaaaaaaa", "z99999999999"};
        for (String one : names) {
            for (String another : names) {
                String text = "select 1 from (select a as " + one + ", b as " + another + " from s0 as p@) as q";
                if (one.equals(another)) {
                    p.faulty(2, text);
                } else {
                    p.well(text.replace("@", ""), 1);
                }
            }
        }
    }

    /** NUMBERS: digits, up to 9223372036854775807 .. a greater NUMBER: FAULT 1, at its first byte. */
    private static void numbersUpTo() {
        Probe p = probe();
        p.row(1, 0, 0);
        p.answers("select " + MAX + ", 9223372036854775806, 0 from s1 as p", MAX + ",9223372036854775806,0;");
        p.well("select a from s1 as p keep " + MAX, 1);
        String[] greater = {"9223372036854775808", "9223372036854775809", "9223372036854775810", "9223372036854775817",
            "9300000000000000000", "10000000000000000000", "18446744073709551615", "18446744073709551616",
            "18446744073709551617", "36893488147419103232", "92233720368547758070", "99999999999999999999",
            "340282366920938463463374607431768211456", "1" + "0".repeat(100)};
        for (String g : greater) {
            p.faulty(1, "select @" + g + " from s1 as p");
            p.faulty(1, "select -@" + g + " from s1 as p");
            p.faulty(1, "select a in (1, @" + g + ") from s1 as p");
            p.faulty(1, "select a from s1 as p keep @" + g);
            p.faulty(1, "select a from s1 as p order by a limit @" + g);
        }
    }

    /** (0s in front do not matter). */
    private static void numbersWithZerosInFront() {
        Probe p = probe();
        p.row(1, 5, 0);
        p.x.watermark(8);
        String[] zeros = {"0", "00", "0".repeat(18), "0".repeat(19), "0".repeat(20), "0".repeat(500)};
        for (String z : zeros) {
            p.answers("select " + z + ", " + z + "7, " + z + MAX + " from s1 as p", "0,7," + MAX + ";");
            p.faulty(1, "select @" + z + "9223372036854775808 from s1 as p");
            p.faulty(1, "select @" + z + "7a from s1 as p");
            p.answers("select a from s1 as p keep " + z + "3", "0;");
            p.answers("select a from s1 as p keep " + z + "2", "");
            p.well("unbounded select a from s1 as p order by a limit " + z + "100", 1);
            p.faulty(1, "unbounded select a from s1 as p order by a limit @" + z + "101");
        }
    }

    /** A NUMBER with a letter right behind it: FAULT 1, at its first byte. */
    private static void numbersWithALetterBehind() {
        Probe p = probe();
        for (char c = 'a'; c <= 'z'; c++) {
            p.faulty(1, "select @5" + c + " from s0 as p");
            p.faulty(1, "select a + @120" + c + "1 from s0 as p");
            p.faulty(1, "select a from s0 as p keep @5" + c);
            p.faulty(1, "unbounded select a from s0 as p order by a limit @5" + c);
        }
        for (String word : TAKEN) {
            p.faulty(1, "select @5" + word + " from s0 as p");
        }
        p.faulty(1, "select @" + MAX + "a from s0 as p");
        p.well("select 5 from s0 as p", 1);
        p.well("select(5)from s0 as p", 1);
        p.well("select 5+5 from s0 as p", 1);
    }

    /** These WORDS are taken .. NAMES: all others. */
    private static void takenWordsAreNoNames() {
        Probe p = probe();
        Probe.due("taken words", TAKEN.length, 39);
        for (String w : TAKEN) {
            p.faulty(1, "select a as @" + w + " from s0 as p");
            p.faulty(1, "select a from s0 as @" + w);
            p.faulty(1, "select a from (select a from s0 as p) as @" + w);
            p.faulty(1, "unbounded select 1 from s0 as p group by a as @" + w);
            p.faulty(1, "select a from @" + w + " as p");
            if (w.equals("time")) {
                p.well("select p.time from s0 as p", 1);
                p.faulty(1, "select time@.a from s0 as p");
            } else {
                p.faulty(1, "select p.@" + w + " from s0 as p");
            }
        }
    }

    /** NAMES: all others, also those that a byte more or less would make taken. */
    private static void almostTakenWordsAreNames() {
        Probe p = probe();
        for (String w : TAKEN) {
            String[] others = {w + "x", w + "0", "x" + w, w.substring(0, w.length() - 1)};
            for (String o : others) {
                p.well("select " + o + ".a as " + o + " from s0 as " + o, 1);
                p.well("unbounded select " + o + " from s0 as p group by a as " + o, 1);
            }
        }
    }

    /** 1 TOKEN: what is none, or can not stand there (at it, or the text's length). */
    private static void faultAtTheTextsLength() {
        Probe p = probe();
        String[] tokens = ("unbounded select distinct case when a = 1 then - ( a ) else span ( a , 2 ) end as k , count ( * )"
            + " + sum ( p . a ) from s0 as").split(" ");
        StringBuilder text = new StringBuilder();
        for (String token : tokens) {
            p.bad(text.toString(), 1, text.length());
            p.bad(text + " \t\r\n", 1, text.length() + 4);
            text.append(token).append(" ");
        }
        String head = "select a from s0 as p ";
        String[] open = {"keep", "join", "left", "left join", "join s1", "join s1 as", "join s1 as q", "join s1 as q on",
            "join (", "join ( select", "join ( select a", "join ( select a from", "join ( select a from s1",
            "join ( select a from s1 as", "join ( select a from s1 as q", "join ( select a from s1 as q )",
            "join ( select a from s1 as q ) as", "where", "where not", "where -", "where (", "where ( true", "where a =",
            "where a is", "where a is not", "where a not", "where a in", "where a in (", "where a in ( 1", "where a in ( 1 ,",
            "where p .", "where case", "where case when", "where case when true", "where case when true then",
            "where case when true then true", "where case when true then true else",
            "where case when true then true else true", "where span", "where span (", "where span ( 1",
            "where span ( 1 ,", "where span ( 1 , 2", "where a +", "where a *", "where true and", "where true or", "group",
            "group by", "group by a", "group by a as", "group by a as k ,", "having", "having count", "having count (",
            "having count ( *", "having sum ( a", "union", "union all", "except", "intersect", "union select", "order",
            "order by", "order by a", "order by a desc", "order by a ,", "order by a limit"};
        for (String o : open) {
            p.bad(head + o, 1, head.length() + o.length());
            p.bad(head + o + "   ", 1, head.length() + o.length() + 3);
        }
    }

    /** TEXT: [unbounded] QUERY. */
    private static void unboundedOnceInFront() {
        Probe p = probe();
        p.well("unbounded select distinct a from s0 as p", 1);
        p.faulty(5, "select @distinct a from s0 as p");
        p.faulty(1, "unbounded @unbounded select a from s0 as p");
        p.faulty(1, "unbounded@");
        p.faulty(1, "select @unbounded a from s0 as p");
        p.faulty(1, "select a from (@unbounded select a from s0 as p) as q");
        p.faulty(1, "select a from s0 as p union all @unbounded select a from s0 as p");
        p.faulty(1, "select a from s0 as p @unbounded");
    }

    /** limit n (0 .. 100; another one is FAULT 1). */
    private static void limitUpTo100() {
        Probe p = probe();
        for (int n = 0; n <= 130; n++) {
            String text = "unbounded select a from s0 as p order by a limit ";
            if (n <= 100) {
                p.well(text + n, 1);
            } else {
                p.faulty(1, text + "@" + n);
            }
        }
        String[] others = {"255", "256", "1000", "2147483647", "2147483648", "4294967295", "4294967296", "4294967301", MAX,
            "-1", "- 1", "a", "null", "true", "(1)", "+1", "?"};
        for (String o : others) {
            p.faulty(1, "unbounded select a from s0 as p order by a limit @" + o);
            p.faulty(1, "unbounded select a from (select a from s0 as p order by a limit @" + o + ") as q");
        }
        p.faulty(1, "unbounded select a from s0 as p order by a limit 1 @+ 1");
        p.faulty(1, "unbounded select a from s0 as p order by a limit 1 @, 2");
        p.faulty(1, "unbounded select a from s0 as p order by a@");
        p.faulty(1, "unbounded select a from s0 as p @limit 5");
    }

    /** EXPRS there see its columns' NAMES alone. */
    private static void orderSeesNamesAlone() {
        Probe p = probe();
        p.well("unbounded select a as x, b from s0 as p order by x, b limit 1", 2);
        p.faulty(2, "unbounded select a as x, b from s0 as p order by x, @a limit 1");
        p.faulty(2, "unbounded select a as x, b from s0 as p order by x, @c limit 1");
        p.faulty(2, "unbounded select a as x, b from s0 as p order by @p.b limit 1");
        p.faulty(2, "unbounded select a as x, b from s0 as p order by @x.b limit 1");
        p.faulty(2, "unbounded select j from s0 as p group by a as j, b as k order by @k limit 1");
        p.faulty(2, "unbounded select a, (b) from s0 as p order by @b limit 1");
        p.well("unbounded select a, (b), b + 1, b as a2 from s0 as p order by a2, a limit 1", 4);
    }

    /** (time: one that is NAMED so). */
    private static void orderByTime() {
        Probe p = probe();
        p.well("unbounded select time from s0 as p order by time limit 1", 1);
        p.well("unbounded select p.time, a from s0 as p order by -time limit 1", 2);
        p.faulty(2, "unbounded select a from s0 as p order by @time limit 1");
        p.faulty(2, "unbounded select (time) from s0 as p order by @time limit 1");
        p.faulty(2, "unbounded select time as t from s0 as p order by @time limit 1");
        p.faulty(2, "unbounded select time + 0 from s0 as p order by @time limit 1");
        p.faulty(2, "unbounded select p.time from s0 as p order by @p.time limit 1");
        p.faulty(3, "unbounded select time, p.time from s0 as p order by @time limit 1");
    }

    /** sn (s and one digit, a stream's number; another NAME is FAULT 1). */
    private static void streamsNumber() {
        Probe p = new Probe().streams(1, 1, 1, 1, 1, 1);
        for (int s = 0; s <= 9; s++) {
            if (s <= 5) {
                p.well("select a from s" + s + " as p", 1);
            } else {
                p.faulty(2, "select a from @s" + s + " as p");
            }
            p.faulty(1, "select a from @s" + s + s + " as p");
            p.faulty(1, "select a from @s" + s + "a as p");
            p.faulty(1, "select a from @r" + s + " as p");
            p.faulty(1, "select a from @t" + s + " as p");
            p.faulty(1, "select a from @a" + s + " as p");
            p.faulty(1, "select a from @ss" + s + " as p");
            p.faulty(1, "select a from @" + s + " as p");
        }
        for (char c = 'a'; c <= 'z'; c++) {
            p.faulty(1, "select a from @s" + c + " as p");
            p.faulty(1, "select a from @" + c + " as p");
        }
        for (int n = 0; n <= 1000; n++) {
            p.faulty(1, "select a from @" + n + " as p");
        }
    }

    /** no such stream (at sn): the streams that are there when the query comes. */
    private static void streamsThatAreThere() {
        Probe p = new Probe();
        for (int count = 0; count <= 6; count++) {
            for (int s = 0; s <= 9; s++) {
                if (s < count) {
                    p.well("select a from s" + s + " as p", 1);
                } else {
                    p.faulty(2, "select a from @s" + s + " as p");
                }
            }
            p.x.stream(1);
        }
    }

    /** its columns a, b, c, d, and time. */
    private static void columnsOfAStream() {
        for (int columns = 1; columns <= 4; columns++) {
            Probe p = new Probe().streams(columns);
            for (char c = 'a'; c <= 'z'; c++) {
                if (c - 'a' < columns) {
                    p.well("select " + c + ", p." + c + " from s0 as p", 2);
                } else {
                    p.faulty(2, "select @" + c + " from s0 as p");
                    p.faulty(2, "select @p." + c + " from s0 as p");
                }
            }
            p.well("select time, p.time from s0 as p", 2);
        }
    }

    /** SOURCE: sn as NAME [keep n] .. or ( QUERY ) as NAME. */
    private static void keepOfAStreamAlone() {
        Probe p = probe();
        p.well("select a from s0 as p keep 0", 1);
        p.well("select a from s0 as p keep " + MAX, 1);
        p.well("select a from (select a from s0 as p keep 5) as q", 1);
        p.faulty(1, "select a from (select a from s0 as p) as q @keep 5");
        p.faulty(1, "select a from s0 as p keep @-1");
        p.faulty(1, "select a from s0 as p keep 5 @keep 5");
        p.faulty(1, "select a from s0 @keep 5 as p");
    }

    /** An ITEM that is NAME or NAME . NAME alone (without brackets) is NAMED so (the last one), time or NAME . time alone time. */
    private static void itemsNamedAlone() {
        Probe p = probe();
        String[][] named = {{"b", "b"}, {"p.b", "b"}, {"p . b", "b"}, {"time", "time"}, {"p.time", "time"}, {"b as x", "x"},
            {"p.b as x", "x"}, {"time as x", "x"}, {"(b) as x", "x"}, {"5 as x", "x"}, {"b as a", "a"}};
        for (String[] n : named) {
            p.well("select " + n[1] + " from (select " + n[0] + " from s0 as p) as q", 1);
            p.well("select q." + n[1] + " from (select " + n[0] + " from s0 as p) as q", 1);
        }
        p.faulty(2, "select @b from (select b as x from s0 as p) as q");
        p.faulty(2, "select @time from (select time as x from s0 as p) as q");
        String[] unnamed = {"(b)", "((b))", "(p.b)", "(time)", "(p.time)", "-b", "b + 0", "5", "null", "true", "b is null",
            "case when true then b else b end", "span(b, 1)"};
        for (String u : unnamed) {
            p.faulty(2, "select 1 from (select " + u + " from s0 as p@) as q");
            p.faulty(2, "select 1 from (select a, " + u + " from s0 as p@) as q");
            p.well("select " + u + " from s0 as p", 1);
        }
        p.faulty(2, "unbounded select 1 from (select count(*) from s0 as p@) as q");
        p.faulty(2, "unbounded select 1 from (select max(b) from s0 as p@) as q");
    }

    /** its columns as its ITEMS are NAMED (of sets, the first SELECT's). */
    private static void namesOfSets() {
        Probe p = probe();
        p.well("select x from (select a as x from s0 as p union all select b as y from s0 as p) as q", 1);
        p.faulty(2, "select @y from (select a as x from s0 as p union all select b as y from s0 as p) as q");
        p.well("select x from (select a as x from s0 as p union all select 5 from s0 as p) as q", 1);
        p.well("select x, z from (select a as x, b as z from s0 as p union all select b as y, a as y from s0 as p) as q", 2);
        p.faulty(2, "select 1 from (select 5 from s0 as p union all select a as x from s0 as p@) as q");
        p.faulty(2, "unbounded select a as x from s0 as p union select b as y from s0 as p order by @y limit 1");
        p.well("unbounded select a as x from s0 as p union select b as y from s0 as p order by x limit 1", 1);
    }

    /** null alone is a number (it may stand where a truth is wanted, too ..). */
    private static void nullsWhereTruthsAreWanted() {
        Probe p = probe();
        String[] truths = {"not @", "@ and true", "true and @", "@ or true", "true or @", "case when @ then 1 else 2 end"};
        String[] numbers = {"@ + 1", "1 - @", "@ * 1", "1 / @", "@ % 1", "- @", "span(@, 1)", "span(1, @)", "@ = 1",
            "1 <> @", "@ < 1", "1 <= @", "@ > 1", "1 >= @", "@ in (1)", "1 in (1, @)", "1 not in (@)"};
        for (String t : truths) {
            p.well("select " + t.replace("@", "null") + " from s0 as p", 1);
            p.well("select " + t.replace("@", "(null)") + " from s0 as p", 1);
            p.faulty(4, "select " + t.replace("@", "@5") + " from s0 as p");
            p.faulty(4, "select " + t.replace("@", "(@- null)") + " from s0 as p");
            p.faulty(4, "select " + t.replace("@", "(@null + null)") + " from s0 as p");
        }
        for (String n : numbers) {
            p.well("select " + n.replace("@", "null") + " from s0 as p", 1);
            p.faulty(4, "select " + n.replace("@", "@true") + " from s0 as p");
            p.faulty(4, "select " + n.replace("@", "(@not null)") + " from s0 as p");
            p.faulty(4, "select " + n.replace("@", "(@null is null)") + " from s0 as p");
        }
        p.well("select a from s0 as p where null having null", 1);
        p.well("select p.a from s0 as p keep 1 join s1 as q keep 1 on null", 1);
        p.well("select null from s0 as p", 1);
        Probe.due("type of null", p.x.type(0), 1);
        p.faulty(4, "select 1 from (select null as n from s0 as p) as q where @n");
        p.faulty(4, "unbounded select n from s0 as p group by null as n having @n");
        p.faulty(4, "unbounded select null as n from s0 as p order by not @n limit 1");
        p.faulty(6, "select null from s0 as p @union all select true from s0 as p");
        p.faulty(6, "select true from s0 as p @union all select null from s0 as p");
        p.well("select null from s0 as p union all select 5 from s0 as p", 1);
        p.well("unbounded select sum(null), min(null), max(null), count(null), count(true) from s0 as p", 5);
        String[] numbersAlone = {"sum", "min", "max"};
        for (String n : numbersAlone) {
            p.faulty(4, "unbounded select " + n + "(@true) from s0 as p");
        }
    }

    /** .. so may a case of which both are such; the two of then, else are one type (null is any). */
    private static void casesOfNulls() {
        Probe p = probe();
        String nulls = "case when true then null else null end";
        String deep = "case when true then (" + nulls + ") else null end";
        String[] any = {nulls, deep, "case when false then null else " + deep + " end"};
        for (String n : any) {
            p.well("select not " + n + ", " + n + " + 1, " + n + " and true, " + n + " = 1 from s0 as p where " + n, 4);
            p.well("select " + n + " from s0 as p", 1);
            Probe.due("type of " + n, p.x.type(0), 1);
            p.well("select case when true then " + n + " else true end from s0 as p", 1);
            Probe.due("type with a truth", p.x.type(0), 2);
            p.well("select case when true then 1 else " + n + " end from s0 as p", 1);
            Probe.due("type with a number", p.x.type(0), 1);
        }
        p.faulty(4, "select not @case when true then null else 1 end from s0 as p");
        p.faulty(4, "select not @case when true then 1 else null end from s0 as p");
        p.faulty(4, "select 1 + @case when true then null else true end from s0 as p");
        p.faulty(4, "select 1 + @case when true then true else null end from s0 as p");
        p.faulty(4, "select case when true then 1 else @true end from s0 as p");
        p.faulty(4, "select case when true then true else @1 end from s0 as p");
        p.faulty(4, "select case when @1 then true else 1 end from s0 as p");
    }
}
