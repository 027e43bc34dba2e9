/** The sentences of promises 31 to 34, and of the Terms under them, that name a boundary case. */
public final class RowsEdgesTest {
    private static final Check CHECK = new Check("RowsEdgesTest");
    private static final int MIN = Integer.MIN_VALUE, MAX = Integer.MAX_VALUE;

    private static void due(String call, long got, long want) {
        CHECK.due(call, got, want);
    }

    private static void refused(String call, Look.Made made, Look.Asked asked, long want) {
        CHECK.refused(call, made, asked, want);
    }

    public static void main(String[] args) {
        prove();
        row();
        alterRow();
        judge();
        whichRow();
        tooEarlyTooLate();
        CHECK.close();
    }

    /** CLAIM 0 is shared by 0 (1/8), 1 (3/4) and 2 (1/8), CLAIM 1 is 3's alone; ROWS are those of CLAIM 0. */
    private static OneIsTwo proved() {
        OneIsTwo x = new OneIsTwo();
        x.born();
        x.claim(0, 0, 9);
        Check.law(x, "owes shared;");
        x.copied(0, 3, 3, 0, true);
        x.copied(0, 2, 1, 0, true);
        x.born();
        x.claim(1, 3, 9);
        x.prove(0);
        return x;
    }

    private static OneIsTwo lost() {
        OneIsTwo x = proved();
        x.end(3);
        return x;
    }

    private static OneIsTwo twelve() {
        OneIsTwo x = new OneIsTwo();
        x.born();
        x.claim(0, 0, 9);
        Check.law(x, "owes all;");
        for (int p = 1; p < 12; p++) x.copied(0, 2, 1, 0, true);
        return x;
    }

    private static void prove() {
        CHECK.sentence(31, "ROWS of a CLAIM: how many. BAD.");
        for (int c : new int[] {MIN, -1, 2, MAX}) {
            refused("prove(" + c + ")", RowsEdgesTest::proved, x -> x.prove(c), -1);
        }
        refused("no CLAIM at all", OneIsTwo::new, x -> x.prove(0), -1);
        due("three", proved().prove(0), 3);
        due("one", proved().prove(1), 1);
        due("none", lost().prove(1), 0);
        due("all twelve", twelve().prove(0), 12);
        OneIsTwo x = twelve();
        x.prove(0);
        for (int p = 0; p < 12; p++) due("by numbers", x.row(p, 0), p);
        x.end(11);
        x.end(5);
        due("who has none any more has no ROW", x.prove(0), 10);
        due("by numbers", x.row(5, 0), 6);
        due("the last", x.row(9, 0), 10);
        due("behind the last", x.row(10, 0), -9);
    }

    private static void row() {
        CHECK.sentence(32, "-9: there is none such, another what.");
        for (int i : new int[] {MIN, -1, 3, 4, 11, 12, MAX}) {
            refused("row(" + i + ", 0)", RowsEdgesTest::proved, x -> x.row(i, 0), -9);
        }
        for (int what : new int[] {MIN, -1, 3, MAX}) {
            refused("row(0, " + what + ")", RowsEdgesTest::proved, x -> x.row(0, what), -9);
        }
        refused("no ROWS at all", OneIsTwo::new, x -> x.row(0, 0), -9);
        long[][] rows = {{0, 1, 8}, {1, 3, 4}, {2, 1, 8}};
        OneIsTwo x = proved();
        for (int i = 0; i < 3; i++) {
            for (int what = 0; what < 3; what++) due("row(" + i + ", " + what + ")", x.row(i, what), rows[i][what]);
        }
    }

    private static void alterRow() {
        CHECK.sentence(33, "It becomes v: what it was. -9 likewise.");
        for (int i : new int[] {MIN, -1, 3, 4, 11, 12, MAX}) {
            refused("alterRow(" + i + ", 0, 5)", RowsEdgesTest::proved, x -> x.alterRow(i, 0, 5), -9);
        }
        for (int what : new int[] {MIN, -1, 3, MAX}) {
            refused("alterRow(0, " + what + ", 5)", RowsEdgesTest::proved, x -> x.alterRow(0, what, 5), -9);
        }
        refused("no ROWS at all", OneIsTwo::new, x -> x.alterRow(0, 0, 5), -9);
        long[][] rows = {{0, 1, 8}, {1, 3, 4}, {2, 1, 8}};
        OneIsTwo x = proved();
        for (int i = 0; i < 3; i++) {
            for (int what = 0; what < 3; what++) {
                due("what it was", x.alterRow(i, what, Long.MIN_VALUE), rows[i][what]);
                due("what it was then", x.alterRow(i, what, Long.MAX_VALUE), Long.MIN_VALUE);
                due("what it is", x.row(i, what), Long.MAX_VALUE);
            }
        }
        due("as low as a refusal", x.alterRow(0, 0, -9), Long.MAX_VALUE);
        due("as low as a refusal", x.row(0, 0), -9);
    }

    private static void judge() {
        CHECK.sentence(34, "THE READER takes ROWS as those of a CLAIM: 0 all is right");
        due("right", proved().judge(0), 0);
        due("no ROWS, no SHARES", lost().prove(1) * 100 + lostAndProved().judge(1), 0);
        CHECK.sentence(34, "222: they end too early. BAD.");
        for (int c : new int[] {MIN, -1, 2, MAX}) {
            refused("judge(" + c + ")", RowsEdgesTest::proved, x -> x.judge(c), -1);
        }
        refused("no CLAIM at all", OneIsTwo::new, x -> x.judge(0), -1);
    }

    private static OneIsTwo lostAndProved() {
        OneIsTwo x = lost();
        x.prove(1);
        return x;
    }

    private static void whichRow() {
        CHECK.sentence(34, "else the first ROW that isn't, and 1 more");
        for (int i = 0; i < 3; i++) {
            for (int what = 0; what < 3; what++) {
                for (long by : new long[] {-1, 1, 1L << 32, Long.MIN_VALUE}) {
                    OneIsTwo x = proved();
                    x.alterRow(i, what, x.row(i, what) + by);
                    due("ROW " + i + ", " + what + ", altered by " + by, x.judge(0), i + 1);
                }
            }
        }
        OneIsTwo x = proved();
        x.alterRow(2, 0, 5);
        x.alterRow(1, 0, 5);
        due("the first of two", x.judge(0), 2);
        due("and the last of twelve", lastOfTwelve(), 12);
        CHECK.sentence(Document.TERMS, "their SHARE in lowest terms.");
        OneIsTwo y = proved();
        y.alterRow(1, 1, 6);
        y.alterRow(1, 2, 8);
        due("6/8 for 3/4", y.judge(0), 2);
    }

    private static int lastOfTwelve() {
        OneIsTwo x = twelve();
        x.prove(0);
        x.alterRow(11, 1, 2);
        return x.judge(0);
    }

    private static void tooEarlyTooLate() {
        CHECK.sentence(Document.TERMS, "if all are, but there are more such PERSONS: 222.");
        OneIsTwo x = lost();
        x.prove(1);
        due("no ROWS, three such PERSONS", x.judge(0), 222);
        OneIsTwo y = twelve();
        y.end(11);
        y.prove(0);
        due("eleven ROWS, eleven PERSONS", y.judge(0), 0);
        y.end(10);
        due("eleven ROWS, ten PERSONS", y.judge(0), 11);
        y.prove(0);
        due("ten ROWS, ten PERSONS", y.judge(0), 0);
        OneIsTwo z = twelve();
        z.keep();
        z.end(11);
        z.prove(0);
        z.again();
        due("eleven ROWS, twelve PERSONS", z.judge(0), 222);
        z.alterRow(10, 0, 11);
        due("one of them not right", z.judge(0), 11);
        due("a new object", fresh().judge(0), 222);
    }

    private static OneIsTwo fresh() {
        OneIsTwo x = new OneIsTwo();
        x.born();
        x.claim(0, 0, 1);
        return x;
    }
}
