/** Promises 31 to 34. */
public final class RowsTest {
    private static final Check CHECK = new Check("RowsTest");

    private static void due(String call, long got, long want) {
        CHECK.due(call, got, want);
    }

    public static void main(String[] args) {
        proofs();
        readers();
        CHECK.close();
    }

    private static OneIsTwo shared() {
        OneIsTwo x = new OneIsTwo();
        x.born();
        x.born();
        x.claim(0, 1, 9);
        x.claim(1, 0, 9);
        Check.law(x, "owes shared;");
        x.copied(1, 3, 3, 0, true);
        x.copied(1, 2, 1, 0, true);
        return x;
    }

    private static void proofs() {
        OneIsTwo x = shared();
        due("31: below", x.prove(-1), -1);
        due("31: above", x.prove(2), -1);
        due("31: rows", x.prove(0), 3);
        long[][] rows = {{1, 1, 8}, {2, 3, 4}, {3, 1, 8}};
        for (int i = 0; i < 3; i++) {
            for (int what = 0; what < 3; what++) due("32: " + i + ", " + what, x.row(i, what), rows[i][what]);
        }
        due("32: i below", x.row(-1, 0), -9);
        due("32: i above", x.row(3, 0), -9);
        due("32: what below", x.row(0, -1), -9);
        due("32: what above", x.row(0, 3), -9);
        due("33: i below", x.alterRow(-1, 0, 5), -9);
        due("33: i above", x.alterRow(3, 0, 5), -9);
        due("33: what below", x.alterRow(0, -1, 5), -9);
        due("33: what above", x.alterRow(0, 3, 5), -9);
        due("33: was", x.alterRow(1, 1, Long.MIN_VALUE), 3);
        due("33: becomes", x.row(1, 1), Long.MIN_VALUE);
        due("33: becomes", x.alterRow(1, 1, 7), Long.MIN_VALUE);
        due("31: BAD changes nothing", x.prove(5), -1);
        due("31: they stay", x.row(1, 1), 7);
        due("31: rows of another", x.prove(1), 1);
        due("32: none such any more", x.row(1, 1), -9);
        due("32: person", x.row(0, 0), 0);
        due("31: many", x.many(7), 1);
        x.end(0);
        due("31: none has a share", x.prove(1), 0);
        due("31: many", x.many(7), 0);

        OneIsTwo y = new OneIsTwo();
        y.born();
        y.claim(0, 0, 1);
        Check.law(y, "owes shared;");
        for (int i = 1; i < 12; i++) y.copied(i - 1, 3, 2, 0, true);
        due("31: twelve", y.prove(0), 12);
        due("32: the last", y.row(11, 2), 2048);
        due("34: twelve", y.judge(0), 0);
    }

    private static void readers() {
        OneIsTwo x = shared();
        due("34: below", x.judge(-1), -1);
        due("34: above", x.judge(2), -1);
        due("34: no rows yet", x.judge(0), 222);
        x.prove(0);
        due("34: right", x.judge(0), 0);
        due("34: of another", x.judge(1), 1);
        for (int i = 0; i < 3; i++) {
            for (int what = 0; what < 3; what++) {
                long was = x.alterRow(i, what, 99);
                due("34: altered " + i + ", " + what, x.judge(0), i + 1);
                x.alterRow(i, what, was + (1L << 32));
                due("34: altered far " + i + ", " + what, x.judge(0), i + 1);
                x.alterRow(i, what, was);
            }
        }
        x.alterRow(1, 1, 6);
        x.alterRow(1, 2, 8);
        due("34: not in lowest terms", x.judge(0), 2);
        x.prove(0);
        x.end(3);
        due("34: the first that isn't right", x.judge(0), 1);
        x.prove(0);
        due("34: right anew", x.judge(0), 0);
        x.claim(1, 1, 4);
        x.claim(1, 1, 4);
        Check.law(x, "owns all if held = 3;");
        x.copied(1, 2, 1, 0, true);
        x.prove(2);
        due("34: one alone", x.judge(2), 0);
        due("34: they end too early", x.judge(3), 222);
        x.prove(3);
        due("34: one too many", x.judge(2), 2);
        Check.law(x, "");
        due("34: by the law now", x.judge(3), 2);
        x.end(0);
        due("34: of a claim that is lost", x.judge(1), 1);
        x.prove(1);
        due("34: nothing is right", x.judge(1), 0);
        due("34: nothing ends too early", x.judge(2), 222);
    }
}
