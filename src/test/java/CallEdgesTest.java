/**
 * The promises' own edges, a method for each sentence that names one: the last value that is allowed and the first that
 * is not. The sentence stands above its method. That a refused call changes nothing is RefusedTest's.
 */
public final class CallEdgesTest {
    private static final int LEAST = Integer.MIN_VALUE;
    private static final int GREATEST = Integer.MAX_VALUE;

    public static void main(String[] args) {
        newObjectHasNoStreams();
        newObjectHasNoQuery();
        newObjectHasEmptyTapeAndDraft();
        feedHighestFirst();
        feedNotBeyond2000();
        cutKeepsTheFirst();
        cutNotBelow0NorBeyond();
        streamOneToFourColumns();
        streamSixAtMost();
        queryTellsColumnsOrPlace();
        queryAnswersForRowsThatAreThere();
        queryWithFaultLeavesTheOneBefore();
        queryUsesTheTapeUp();
        faultOfTheLatestQuery();
        valueFourAtMost();
        nothingFourAtMost();
        rowEmptiesTheDraft();
        rowTakesTheLeastFreePlace();
        rowOfNoSuchStream();
        rowOfOtherManyValues();
        rowEightAtMost();
        backOfNone();
        watermarkNotAbove();
        changesOfTheLatestAct();
        changeOfNone();
        changedOfNone();
        changedNullOfNone();
        rowsOfTheAnswer();
        atOfNone();
        isNullOfNone();
        typeOfNone();
        threeOfOtherNumbers();
        threeOfAnotherAct();
        toldOfAnother();
        toldWithoutAQuery();
        toldByKeepTwice();
        fiveHundredAndTwelveCalls();
        Probe.end("CallEdgesTest");
    }

    /** Promise 1: No streams .. */
    private static void newObjectHasNoStreams() {
        Probe p = new Probe();
        Probe.due("told(0)", p.x.told(0), 0);
        Probe.due("told(1)", p.x.told(1), 0);
        for (int s = -1; s <= 6; s++) {
            Probe.due("row of stream " + s, p.row(s, 0, 1), -1);
            Probe.due("back of stream " + s, p.x.back(s, 0), false);
        }
        for (int s = 0; s <= 9; s++) {
            p.faulty(2, "select time from @s" + s + " as p");
        }
        Probe.due("the first stream", p.x.stream(1), 0);
    }

    /** Promise 1: .. no query. */
    private static void newObjectHasNoQuery() {
        StreamQueries x = new StreamQueries();
        Probe.due("told(5)", x.told(5), 0);
        Probe.due("fault()", x.fault(), 0);
        Probe.due("rows()", x.rows(), 0);
        Probe.due("type(0)", x.type(0), 0);
        Probe.due("at(0, 0)", x.at(0, 0), 0);
        Probe.due("isNull(0, 0)", x.isNull(0, 0), false);
        x.stream(1);
        x.nothing();
        Probe.due("row without a query", x.row(0, 5), 0);
        Probe.due("its changes()", x.changes(), 0);
        Probe.due("its change(0)", x.change(0), 0);
        Probe.due("its changedNull(0, 0)", x.changedNull(0, 0), false);
        Probe.due("rows() without a query", x.rows(), 0);
        Probe.due("isNull(0, 0) without a query", x.isNull(0, 0), false);
        Probe.due("watermark without a query", x.watermark(100), 0);
        Probe.due("back without a query", x.back(0, 0), true);
        Probe.due("its changes()", x.changes(), 0);
    }

    /** Promise 1, and what the others rest on: nothing is on the tape, nor in the draft. */
    private static void newObjectHasEmptyTapeAndDraft() {
        Probe.due("cut(0)", new StreamQueries().cut(0), 0);
        Probe.due("cut(1)", new StreamQueries().cut(1), -1);
        Probe.due("query()", new StreamQueries().query(), -10);
        Probe.due("value", new StreamQueries().value(9), 1);
        Probe.due("nothing", new StreamQueries().nothing(), 1);
        Probe.due("feed", new StreamQueries().feed(0, 0, 0, 0, 0), 20);
    }

    /** Promise 2: Twenty bytes come behind the tape, each number's highest first: how many it has. */
    private static void feedHighestFirst() {
        // A byte that is none of a text, alone among blanks: its place in the tape is the fault's.
        for (int place = 0; place < 40; place++) {
            StreamQueries x = new StreamQueries();
            int[] ten = new int[10];
            for (int i = 0; i < 40; i++) {
                ten[i / 4] = ten[i / 4] << 8 | (i == place ? 0xff : 0x20);
            }
            Probe.due("feed", x.feed(ten[0], ten[1], ten[2], ten[3], ten[4]), 20);
            Probe.due("feed", x.feed(ten[5], ten[6], ten[7], ten[8], ten[9]), 40);
            Probe.due("query() with a wrong byte at " + place, x.query(), -10 - place);
        }
    }

    /** Promise 2: NONE: there would be more than 2000. */
    private static void feedNotBeyond2000() {
        for (int size = 1961; size <= 2000; size++) {
            StreamQueries x = new StreamQueries();
            for (int i = 1; i <= 100; i++) {
                Probe.due("feed to " + 20 * i, x.feed(i, i, i, i, i), 20 * i);
            }
            Probe.due("cut(" + size + ")", x.cut(size), 2000 - size);
            Probe.due("feed behind " + size, x.feed(0, 0, 0, 0, 0), size <= 1980 ? size + 20 : -1);
            Probe.due("the tape then", x.cut(0), size <= 1980 ? size + 20 : size);
        }
    }

    /** Promise 3: The tape's first n bytes stay: how many went. */
    private static void cutKeepsTheFirst() {
        String text = "select 12345 from s0 as p";
        for (int digits = 1; digits <= 5; digits++) {
            Probe p = new Probe().streams(1);
            p.row(0, 0, 0);
            p.tape(text);
            Probe.due("cut behind " + digits, p.x.cut(7 + digits), text.length() - 7 - digits);
            p.tape(" from s0 as p");
            Probe.due("query()", p.x.query(), 1);
            Probe.due("answer", p.answer(), "12345".substring(0, digits) + ";");
        }
    }

    /** Promise 3: NONE: n is below 0, or it has fewer. */
    private static void cutNotBelow0NorBeyond() {
        StreamQueries x = new StreamQueries();
        for (int size = 0; size <= 2000; size += 20) {
            Probe.due("cut(-1) of " + size, x.cut(-1), -1);
            Probe.due("one more than " + size, x.cut(size + 1), -1);
            Probe.due("all of " + size, x.cut(size), 0);
            x.feed(1, 2, 3, 4, 5);
        }
        Probe.due("cut(least)", x.cut(LEAST), -1);
        Probe.due("cut(greatest)", x.cut(GREATEST), -1);
        Probe.due("all but one", x.cut(1), 1999);
        Probe.due("the last one", x.cut(0), 1);
        Probe.due("none any more", x.cut(1), -1);
    }

    /** Promise 4: NONE: not 1 to 4 columns .. */
    private static void streamOneToFourColumns() {
        int[] others = {0, 5, -1, 6, 257, LEAST, GREATEST};
        StreamQueries x = new StreamQueries();
        for (int columns : others) {
            Probe.due("stream(" + columns + ")", x.stream(columns), -1);
            Probe.due("streams then", x.told(0), 0);
        }
        for (int columns = 1; columns <= 4; columns++) {
            Probe.due("stream(" + columns + ")", x.stream(columns), columns - 1);
        }
        // Its columns are as many as were asked for.
        for (int s = 0; s < 4; s++) {
            for (int values = 0; values <= 4; values++) {
                for (int i = 0; i < values; i++) {
                    x.value(i);
                }
                Probe.due(values + " values in stream " + s, x.row(s, 0), values == s + 1 ? 0 : -1);
            }
        }
    }

    /** Promise 4: .. 6 are there. */
    private static void streamSixAtMost() {
        Probe p = new Probe();
        for (int i = 0; i < 6; i++) {
            Probe.due("stream", p.x.stream(4), i);
        }
        for (int columns = -1; columns <= 5; columns++) {
            Probe.due("a seventh with " + columns, p.x.stream(columns), -1);
        }
        Probe.due("told(0)", p.x.told(0), 6);
        p.well("select a from s5 as p", 1);
        p.faulty(2, "select a from @s6 as p");
    }

    /** Promise 5: how many columns; -10 less the place of its FAULT. */
    private static void queryTellsColumnsOrPlace() {
        Probe p = new Probe().streams(1);
        StringBuilder items = new StringBuilder("a");
        for (int columns = 1; columns <= 8; columns++) {
            p.well("select " + items + " from s0 as p", columns);
            items.append(", a");
        }
        p.bad(items.toString(), 1, 0);
        p.bad("", 1, 0);
        p.bad(" ".repeat(1999) + "?", 1, 1999);
        p.bad(" ".repeat(2000), 1, 2000);
    }

    /** Promise 5: its ANSWER that of all rows that are there, no changes. */
    private static void queryAnswersForRowsThatAreThere() {
        Probe p = new Probe().streams(1);
        p.row(0, 1, 11);
        p.row(0, 2, 12);
        p.row(0, 3, 13);
        p.x.back(0, 1);
        p.x.watermark(3);
        p.well("select a from s0 as p", 1);
        Probe.due("answer", p.answer(), "11;13;");
        Probe.due("no changes", p.x.changes(), 0);
        p.row(0, 4, 14);
        Probe.due("a change", p.x.changes(), 1);
        p.well("select a from s0 as p keep 1", 1);
        Probe.due("answer of what is kept", p.answer(), "13;14;");
        Probe.due("no changes", p.x.changes(), 0);
        Probe.due("change(0)", p.x.change(0), 0);
    }

    /** Promise 5: (then the one before stays). */
    private static void queryWithFaultLeavesTheOneBefore() {
        Probe p = new Probe().streams(2, 1);
        p.row(0, 1, 11, 21);
        p.well("select b, a = 11 from s0 as p", 2);
        String[] faulty = {"@", "select x from @s9 as p", "unbounded select @a from s0 as p join s1 as q on true",
            "select @true + 1 from s0 as p", "select @distinct a from s0 as p",
            "select a from s0 as p @union all select a, a from s1 as q", "select a, a, a, a, a, a, a, a, @a from s0 as p"};
        int[] faults = {1, 2, 3, 4, 5, 6, 7};
        for (int i = 0; i < faulty.length; i++) {
            p.faulty(faults[i], faulty[i]);
            Probe.due("told(5)", p.x.told(5), 1);
            Probe.due("the answer stays", p.answer(), "21,1;");
            Probe.due("type(1) stays", p.x.type(1), 2);
            p.row(0, 2, 12, 22);
            Probe.due("the query stays", p.changes(), "+1:22,0;");
            p.x.back(0, 1);
        }
    }

    /** What reads the TAPE uses it up. */
    private static void queryUsesTheTapeUp() {
        Probe p = new Probe().streams(1);
        p.well("select a from s0 as p", 1);
        Probe.due("the tape behind a query", p.x.cut(1), -1);
        Probe.due("query() of nothing", p.x.query(), -10);
        Probe.due("its fault", p.x.fault(), 1);
        p.bad("select x from s0 as p", 2, 7);
        Probe.due("the tape behind a fault", p.x.cut(1), -1);
        Probe.due("feed behind a fault", p.x.feed(0, 0, 0, 0, 0), 20);
    }

    /** Promise 6: The FAULT of the latest query(); 0 none. */
    private static void faultOfTheLatestQuery() {
        Probe p = new Probe().streams(1);
        p.faulty(7, "select a, a, a, a, a, a, a, a, @a from s0 as p");
        p.x.row(5, 5);
        p.x.back(5, 5);
        p.x.watermark(5);
        p.x.stream(1);
        p.x.cut(0);
        Probe.due("fault() of the latest query()", p.x.fault(), 7);
        p.faulty(2, "select @b from s0 as p");
        p.well("select a from s0 as p", 1);
        p.x.query();
        Probe.due("fault() of an empty tape", p.x.fault(), 1);
    }

    /** Promise 7: THE DRAFT has a VALUE more: how many. NONE: it has 4. */
    private static void valueFourAtMost() {
        Probe p = new Probe().streams(4);
        for (int i = 1; i <= 4; i++) {
            Probe.due("value", p.x.value(i), i);
        }
        Probe.due("a fifth value", p.x.value(5), -1);
        Probe.due("a sixth value", p.x.value(Long.MIN_VALUE), -1);
        Probe.due("the row", p.x.row(0, 0), 0);
        p.answers("select a, b, c, d from s0 as p", "1,2,3,4;");
    }

    /** Promise 8: Likewise NULL. */
    private static void nothingFourAtMost() {
        Probe p = new Probe().streams(4);
        for (int i = 1; i <= 4; i++) {
            Probe.due("nothing", p.x.nothing(), i);
        }
        Probe.due("a fifth", p.x.nothing(), -1);
        Probe.due("a fifth value", p.x.value(5), -1);
        Probe.due("the row", p.x.row(0, 0), 0);
        p.answers("select a, b, c, d from s0 as p", "null,null,null,null;");
        // Each of the four may be either.
        for (int bits = 0; bits < 16; bits++) {
            Probe q = new Probe().streams(4);
            StringBuilder want = new StringBuilder();
            for (int i = 0; i < 4; i++) {
                boolean isValue = (bits >> i & 1) != 0;
                Probe.due("how many", isValue ? q.x.value(i) : q.x.nothing(), i + 1);
                want.append(i > 0 ? "," : "").append(isValue ? String.valueOf(i) : "null");
            }
            q.x.row(0, 0);
            q.answers("select a, b, c, d from s0 as p", want + ";");
        }
    }

    /** Promise 9: THE DRAFT (empty then, in any case) is a row of a stream. */
    private static void rowEmptiesTheDraft() {
        Probe p = new Probe().streams(2);
        Probe.due("a row", p.row(0, 0, 1, 2), 0);
        Probe.due("the draft then", p.x.value(1), 1);
        Probe.due("other many values", p.x.row(0, 0), -1);
        Probe.due("the draft then", p.x.value(1), 1);
        Probe.due("no such stream", p.x.row(1, 0), -1);
        Probe.due("the draft then", p.x.nothing(), 1);
        p.x.row(0, 0);
        for (int i = 1; i < 8; i++) {
            Probe.due("a row", p.row(0, 0, i, i), i);
        }
        Probe.due("a ninth row", p.row(0, 0, 8, 8), -1);
        Probe.due("the draft then", p.x.value(1), 1);
    }

    /** Promise 9: its place, the least free one of 0 .. 7. */
    private static void rowTakesTheLeastFreePlace() {
        for (int free = 0; free < 256; free++) {
            Probe p = new Probe().streams(1, 1);
            for (int i = 0; i < 8; i++) {
                p.row(1, 0, i);
            }
            for (int i = 0; i < 8; i++) {
                if ((free >> i & 1) != 0) {
                    p.x.back(1, i);
                }
            }
            Probe.due("the least free place of " + free, p.row(1, 0, 9),
                free == 0 ? -1 : Integer.numberOfTrailingZeros(free));
        }
    }

    /** Promise 9: NONE: no such stream .. */
    private static void rowOfNoSuchStream() {
        Probe p = new Probe();
        for (int count = 0; count <= 6; count++) {
            Probe.due("the stream behind the last", p.row(count, 0, 1), -1);
            Probe.due("stream -1", p.row(-1, 0, 1), -1);
            if (count > 0) {
                Probe.due("the last stream", p.row(count - 1, 0, 1), 0);
            }
            p.x.stream(1);
        }
        Probe.due("the greatest", p.row(GREATEST, 0, 1), -1);
        Probe.due("the least", p.row(LEAST, 0, 1), -1);
        Probe.due("rows", p.x.told(1), 6);
    }

    /** Promise 9: .. other many VALUES .. */
    private static void rowOfOtherManyValues() {
        for (int columns = 1; columns <= 4; columns++) {
            for (int values = 0; values <= 4; values++) {
                Probe p = new Probe().streams(columns);
                for (int i = 0; i < values; i++) {
                    p.x.nothing();
                }
                Probe.due(values + " of " + columns, p.x.row(0, 0), values == columns ? 0 : -1);
                Probe.due("rows", p.x.told(1), values == columns ? 1 : 0);
            }
        }
    }

    /** Promise 9: .. 8 rows. */
    private static void rowEightAtMost() {
        Probe p = new Probe().streams(1, 1, 1, 1, 1, 1);
        for (int s = 0; s < 6; s++) {
            for (int i = 0; i < 8; i++) {
                Probe.due("row of " + s, p.row(s, i, i), i);
            }
            Probe.due("a ninth row of " + s, p.row(s, 8, 8), -1);
            Probe.due("rows of all", p.x.told(1), 8 * s + 8);
        }
        // A row that is too old to be seen has its place still.
        p.well("select a from s0 as p keep 0", 1);
        p.x.watermark(1000);
        Probe.due("none is seen", p.x.rows(), 0);
        Probe.due("a ninth row", p.row(0, 1000, 8), -1);
        Probe.due("its changes()", p.x.changes(), 0);
        p.x.back(0, 7);
        Probe.due("an eighth row", p.row(0, 1000, 8), 7);
        Probe.due("answer", p.answer(), "8;");
    }

    /** Promise 10: False: none such. */
    private static void backOfNone() {
        Probe p = new Probe().streams(1, 1);
        for (int i = 0; i < 8; i++) {
            p.row(0, i, i);
        }
        p.row(1, 0, 0);
        int[][] none = {{-1, 0}, {2, 0}, {5, 0}, {6, 0}, {LEAST, 0}, {GREATEST, 0}, {0, -1}, {0, 8}, {0, LEAST},
            {0, GREATEST}, {1, 1}, {1, 7}, {1, -1}, {1, -8}, {1, 8}};
        for (int[] n : none) {
            Probe.due("back(" + n[0] + ", " + n[1] + ")", p.x.back(n[0], n[1]), false);
            Probe.due("rows of all", p.x.told(1), 9);
        }
        for (int i = 0; i < 8; i++) {
            Probe.due("back(0, " + i + ")", p.x.back(0, i), true);
            Probe.due("back(0, " + i + ") again", p.x.back(0, i), false);
            Probe.due("rows of all", p.x.told(1), 8 - i);
        }
        Probe.due("back(1, 0)", p.x.back(1, 0), true);
    }

    /** Promise 11: The WATERMARK is told (one that is not above it changes nothing: 0): how many changes. */
    private static void watermarkNotAbove() {
        long[] marks = {Long.MIN_VALUE + 1, -1, 0, 1, Long.MAX_VALUE};
        for (long mark : marks) {
            Probe p = new Probe().streams(1);
            p.row(0, mark - 1, 1);
            p.row(0, mark - 1, 2);
            p.row(0, mark, 3);
            p.well("select a from s0 as p keep 0", 1);
            Probe.due("watermark(" + (mark - 1) + ")", p.x.watermark(mark - 1), 0);
            Probe.due("answer", p.answer(), "1;2;3;");
            Probe.due("watermark(" + mark + ")", p.x.watermark(mark), 2);
            Probe.due("answer", p.answer(), "3;");
            long[] notAbove = {mark, mark - 1, Long.MIN_VALUE};
            for (long lower : notAbove) {
                Probe.due("watermark(" + lower + ")", p.x.watermark(lower), 0);
                Probe.due("answer stays", p.answer(), "3;");
                Probe.due("told(2) stays", p.x.told(2), 1);
            }
        }
        Probe.due("the least of a new object", new StreamQueries().watermark(Long.MIN_VALUE), 0);
    }

    private static final String CHANGED = "-1:4,null,1;-1:5,null,1;+1:6,null,1;+1:7,null,1;";

    /** A query of two rows, each of which the last act made another one. */
    private static Probe changed() {
        Probe p = new Probe().streams(1, 1);
        p.row(0, 5, 3);
        p.row(0, 5, 4);
        p.row(1, 5, 1);
        p.well("unbounded select a + n, null, true from s0 as p join (select sum(a) as n from s1 as q) as r on true", 3);
        p.row(1, 5, 2);
        Probe.due("changes", p.changes(), CHANGED);
        return p;
    }

    /** Promise 12: (0 if it was refused, behind query(), one with a FAULT, too). */
    private static void changesOfTheLatestAct() {
        Probe p = changed();
        p.x.row(2, 0);
        Probe.due("behind a refused row()", p.x.changes(), 0);
        p = changed();
        p.x.row(0, 0);
        Probe.due("behind a row() of no values", p.x.changes(), 0);
        p = changed();
        p.x.back(0, 7);
        Probe.due("behind a refused back()", p.x.changes(), 0);
        p = changed();
        p.x.watermark(Long.MIN_VALUE);
        Probe.due("behind a watermark() not above", p.x.changes(), 0);
        p = changed();
        p.x.watermark(5);
        Probe.due("behind a watermark() that changes nothing", p.x.changes(), 0);
        p = changed();
        p.well("select a from s0 as p", 1);
        Probe.due("behind query()", p.x.changes(), 0);
        p = changed();
        p.bad("select", 1, 6);
        Probe.due("behind one with a FAULT", p.x.changes(), 0);
        p = changed();
        p.x.value(5);
        p.x.nothing();
        p.x.feed(0, 0, 0, 0, 0);
        p.x.cut(0);
        p.x.stream(1);
        p.x.stream(9);
        p.x.three(0, 0, 0);
        p.x.told(1);
        Probe.due("behind what is no such act", p.changes(), CHANGED);
    }

    private static final int[] NO_ROWS = {-1, 4, 5, -4, 100, LEAST, GREATEST};
    private static final int[] NO_COLUMNS = {-1, 3, 4, -3, 8, LEAST, GREATEST};

    /** Promise 13: Of a change: how often more (below 0: less). 0: none such. */
    private static void changeOfNone() {
        Probe p = changed();
        for (int i = 0; i < 4; i++) {
            Probe.due("change(" + i + ")", p.x.change(i), i < 2 ? -1 : 1);
        }
        for (int i : NO_ROWS) {
            Probe.due("change(" + i + ")", p.x.change(i), 0);
        }
        p.x.back(0, 7);
        Probe.due("change(0) of a refused act", p.x.change(0), 0);
    }

    /** Promise 14: VALUE of a column of a change (truths 0, 1; NULL 0). 0: none such. */
    private static void changedOfNone() {
        Probe p = changed();
        for (int i = 0; i < 4; i++) {
            Probe.due("changed(" + i + ", 0)", p.x.changed(i, 0), 4 + i);
            Probe.due("changed(" + i + ", 1) of NULL", p.x.changed(i, 1), 0);
            Probe.due("changed(" + i + ", 2) of a truth", p.x.changed(i, 2), 1);
            for (int c : NO_COLUMNS) {
                Probe.due("changed(" + i + ", " + c + ")", p.x.changed(i, c), 0);
            }
        }
        for (int i : NO_ROWS) {
            for (int c = -4; c <= 4; c++) {
                Probe.due("changed(" + i + ", " + c + ")", p.x.changed(i, c), 0);
            }
        }
        p.x.back(0, 7);
        Probe.due("changed(0, 0) of a refused act", p.x.changed(0, 0), 0);
    }

    /** Promise 15: Whether that is NULL. */
    private static void changedNullOfNone() {
        Probe p = changed();
        for (int i = 0; i < 4; i++) {
            for (int c = 0; c < 3; c++) {
                Probe.due("changedNull(" + i + ", " + c + ")", p.x.changedNull(i, c), c == 1);
            }
            for (int c : NO_COLUMNS) {
                Probe.due("changedNull(" + i + ", " + c + ")", p.x.changedNull(i, c), false);
            }
        }
        for (int i : NO_ROWS) {
            for (int c = -4; c <= 4; c++) {
                Probe.due("changedNull(" + i + ", " + c + ")", p.x.changedNull(i, c), false);
            }
        }
        p.x.back(0, 7);
        Probe.due("changedNull(0, 1) of a refused act", p.x.changedNull(0, 1), false);
    }

    /** Promise 16: How many rows THE ANSWER has (each as often as it is there). */
    private static void rowsOfTheAnswer() {
        Probe p = new Probe().streams(1, 1, 1);
        p.well("unbounded select 1 from s0 as p join s1 as q on true join s2 as r on true", 1);
        Probe.due("rows() of none", p.x.rows(), 0);
        for (int n = 1; n <= 8; n++) {
            for (int s = 0; s < 3; s++) {
                p.row(s, 0, 1);
            }
            Probe.due("rows() of " + n + " each", p.x.rows(), n * n * n);
        }
        Probe.due("at(511, 0)", p.x.at(511, 0), 1);
        Probe.due("at(512, 0)", p.x.at(512, 0), 0);
    }

    /** A query with two rows: 6 and NULL and true, 7 and NULL and false. */
    private static Probe answered() {
        Probe p = new Probe().streams(1);
        p.row(0, 0, 7);
        p.row(0, 0, 6);
        p.well("select a, null, a = 6 from s0 as p", 3);
        return p;
    }

    /** Promise 17: VALUE of a column of its row i. 0: none such. */
    private static void atOfNone() {
        Probe p = answered();
        for (int i = 0; i < 2; i++) {
            Probe.due("at(" + i + ", 0)", p.x.at(i, 0), 6 + i);
            Probe.due("at(" + i + ", 1) of NULL", p.x.at(i, 1), 0);
            Probe.due("at(" + i + ", 2) of a truth", p.x.at(i, 2), 1 - i);
            for (int c : NO_COLUMNS) {
                Probe.due("at(" + i + ", " + c + ")", p.x.at(i, c), 0);
            }
        }
        for (int c = -4; c <= 4; c++) {
            Probe.due("at(2, " + c + "), the first that is none", p.x.at(2, c), 0);
            for (int i : NO_ROWS) {
                Probe.due("at(" + i + ", " + c + ")", p.x.at(i, c), 0);
            }
        }
    }

    /** Promise 18: Whether that is NULL. */
    private static void isNullOfNone() {
        Probe p = answered();
        for (int i = 0; i < 2; i++) {
            for (int c = 0; c < 3; c++) {
                Probe.due("isNull(" + i + ", " + c + ")", p.x.isNull(i, c), c == 1);
            }
            for (int c : NO_COLUMNS) {
                Probe.due("isNull(" + i + ", " + c + ")", p.x.isNull(i, c), false);
            }
        }
        for (int c = -4; c <= 4; c++) {
            Probe.due("isNull(2, " + c + "), the first that is none", p.x.isNull(2, c), false);
            for (int i : NO_ROWS) {
                Probe.due("isNull(" + i + ", " + c + ")", p.x.isNull(i, c), false);
            }
        }
    }

    /** Promise 19: Of a column of the query: 1 a number, 2 a truth. 0: none such. */
    private static void typeOfNone() {
        Probe p = answered();
        int[] due = {1, 1, 2, 0, 0, 0, 0, 0, 0};
        for (int i = 0; i < due.length; i++) {
            Probe.due("type(" + i + ")", p.x.type(i), due[i]);
        }
        Probe.due("type(-1)", p.x.type(-1), 0);
        Probe.due("type(least)", p.x.type(LEAST), 0);
        Probe.due("type(greatest)", p.x.type(GREATEST), 0);
        p.well("select true, 1, true, 1, true, 1, true, true from s0 as p", 8);
        Probe.due("type(7)", p.x.type(7), 2);
        Probe.due("type(8)", p.x.type(8), 0);
    }

    /** Promise 20: of a and b (each 0, 1, or NULL for other numbers): 0, 1, 2 (plus), NONE for NULL. */
    private static void threeOfOtherNumbers() {
        StreamQueries x = new StreamQueries();
        int[] nulls = {-1, 2, -2, 3, LEAST, GREATEST};
        for (int n : nulls) {
            Probe.due("0 and " + n, x.three(0, 0, n), 0);
            Probe.due(n + " and 0", x.three(0, n, 0), 0);
            Probe.due("1 and " + n, x.three(0, 1, n), -1);
            Probe.due(n + " and 1", x.three(0, n, 1), -1);
            Probe.due("1 or " + n, x.three(1, 1, n), 1);
            Probe.due(n + " or 1", x.three(1, n, 1), 1);
            Probe.due("0 or " + n, x.three(1, 0, n), -1);
            Probe.due(n + " or 0", x.three(1, n, 0), -1);
            Probe.due("not " + n, x.three(2, n, 0), -1);
            Probe.due("not 0, beside " + n, x.three(2, 0, n), 1);
            Probe.due("not 1, beside " + n, x.three(2, 1, n), 0);
            for (int act = 3; act <= 5; act++) {
                for (int other = 0; other <= 2; other++) {
                    Probe.due("act " + act + " of " + n + ", " + other, x.three(act, n, other), -1);
                    Probe.due("act " + act + " of " + other + ", " + n, x.three(act, other, n), -1);
                }
            }
        }
        Probe.due("0 = 0", x.three(3, 0, 0), 1);
        Probe.due("0 = 1", x.three(3, 0, 1), 0);
        Probe.due("1 less 0", x.three(4, 1, 0), 0);
        Probe.due("0 less 1", x.three(4, 0, 1), 1);
        Probe.due("1 less 1", x.three(4, 1, 1), 0);
        Probe.due("0 plus 0", x.three(5, 0, 0), 0);
        Probe.due("1 plus 1", x.three(5, 1, 1), 2);
    }

    /** Promise 20: -2: another act. */
    private static void threeOfAnotherAct() {
        StreamQueries x = new StreamQueries();
        int[] others = {-1, 6, -2, 7, LEAST, GREATEST};
        for (int act : others) {
            Probe.due("three(" + act + ", 0, 1)", x.three(act, 0, 1), -2);
            Probe.due("three(" + act + ", 2, 2)", x.three(act, 2, 2), -2);
        }
        for (int act = 0; act <= 5; act++) {
            Probe.due("act " + act + " is one", x.three(act, 0, 1) != -2, true);
        }
    }

    /** Promise 21: NONE: another what. */
    private static void toldOfAnother() {
        int[] others = {-1, 6, -2, 7, LEAST, GREATEST};
        StreamQueries x = new StreamQueries();
        Probe p = answered();
        for (int what : others) {
            Probe.due("told(" + what + ")", x.told(what), -1);
            Probe.due("told(" + what + ") with a query", p.x.told(what), -1);
        }
    }

    /** Promise 21: 2 to 4 without one 0 (behind a FAULT of the one that stays). */
    private static void toldWithoutAQuery() {
        Probe p = new Probe().streams(1, 1);
        p.row(0, 0, 1);
        p.row(0, 0, 2);
        p.row(1, 0, 3);
        p.bad("select a + 1 from s0 as p join s1 as q on true ?", 1, 47);
        for (int what = 2; what <= 5; what++) {
            Probe.due("told(" + what + ") without one", p.x.told(what), 0);
        }
        p.well("select a from s0 as p", 1);
        int[] due = {2, 3, 2, 1, 1, 1};
        p.bad("select p.a + q.a from s0 as p join s1 as q on true", 5, 30);
        for (int what = 0; what < due.length; what++) {
            Probe.due("told(" + what + ") of the one that stays", p.x.told(what), due[what]);
        }
    }

    /** Promise 21: rows of the QUERY's streams by keep (of each sn in it: a stream that is told twice counts twice). */
    private static void toldByKeepTwice() {
        Probe p = new Probe().streams(1, 1);
        for (int i = 0; i < 8; i++) {
            p.row(0, i, i);
            p.row(1, i, i);
        }
        p.well("select p.a from s0 as p keep 3 join s0 as q keep 4 on true join s0 as r keep 9 on false", 1);
        Probe.due("told(2), all seen", p.x.told(2), 24);
        p.x.watermark(7);
        Probe.due("told(2) by keep", p.x.told(2), 4 + 5 + 8);
        Probe.due("told(4)", p.x.told(4), 3);
        p.x.watermark(10);
        Probe.due("told(2) by keep", p.x.told(2), 1 + 2 + 7);
        Probe.due("rows of all", p.x.told(1), 16);
        p.x.watermark(1000);
        Probe.due("told(2), none seen", p.x.told(2), 0);
    }

    /** An object is used for at most 512 calls after it has been made: the last of them is answered like the first. */
    private static void fiveHundredAndTwelveCalls() {
        StreamQueries x = new StreamQueries();
        int calls = 0;
        x.stream(1);
        x.feed(0x73656c65, 0x63742061, 0x2066726f, 0x6d207330, 0x20617320);
        x.feed(0x70202020, 0x20202020, 0x20202020, 0x20202020, 0x20202020);
        Probe.due("query()", x.query(), 1);
        calls += 4;
        while (calls + 6 <= 512) {
            Probe.due("value", x.value(calls), 1);
            Probe.due("row", x.row(0, calls), 0);
            Probe.due("changed", x.changed(0, 0), calls);
            Probe.due("at", x.at(0, 0), calls);
            Probe.due("back", x.back(0, 0), true);
            Probe.due("changes", x.changes(), 1);
            calls += 6;
        }
        Probe.due("calls before the last four", calls, 508);
        Probe.due("value", x.value(-5), 1);
        Probe.due("row", x.row(0, 0), 0);
        Probe.due("rows", x.rows(), 1);
        Probe.due("the 512th call", x.at(0, 0), -5);
    }
}
