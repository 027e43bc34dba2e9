/** Promises 27 to 30. */
public final class PaysTest {
    private static final Check CHECK = new Check("PaysTest");

    private static void due(String call, long got, long want) {
        CHECK.due(call, got, want);
    }

    public static void main(String[] args) {
        wrongAsked();
        whatPays();
        whatWasAheadOfIt();
        withoutRoom();
        joinedWith();
        lenders();
        seeds();
        calls();
        CHECK.close();
    }

    private static void wrongAsked() {
        OneIsTwo x = new OneIsTwo();
        due("27: nobody", x.pays(0, 0), -1);
        due("28: nobody", x.lender(0, 0, 0), -1);
        x.born();
        x.copied(0, 5, 1, 0, true);
        due("27: below", x.pays(-1, 0), -1);
        due("27: what", x.pays(0, 2), -1);
        due("27: what below", x.pays(0, -1), -1);
        due("27: asleep", x.pays(1, 0), -4);
        due("27: BAD ahead of STATE", x.pays(1, 2), -1);
        due("28: below", x.lender(-1, 0, 0), -1);
        due("28: n below", x.lender(0, -1, 0), -1);
        due("28: n above", x.lender(0, 5, 0), -1);
        due("28: part", x.lender(0, 0, 2), -1);
        due("28: part below", x.lender(0, 0, -1), -1);
        due("28: asleep", x.lender(1, 0, 0), -4);
        due("28: BAD ahead of STATE", x.lender(1, 5, 0), -1);
    }

    private static void pays(OneIsTwo x, String what, int p, int which, long sum) {
        due(what + ", which", x.pays(p, 0), which);
        due(what + ", how much", x.pays(p, 1), sum);
    }

    private static void whatPays() {
        OneIsTwo x = new OneIsTwo();
        x.born();
        pays(x, "27: without debts", 0, 0, 0);
        x.claim(1, 0, 10);
        pays(x, "27: things count nothing", 0, 0, 0);
        x.claim(0, 0, 10);
        pays(x, "27: ended", 0, 3, 0);
        Check.law(x, "owes copy;");
        pays(x, "27: copied", 0, 1, 0);
        Check.law(x, "owes copy if kind = 3;");
        pays(x, "27: by half", 0, 2, 0);
        Check.law(x, "owes copy if kind = 3 and gap = 0;");
        x.later(3);
        pays(x, "27: moment this day", 0, 2, 0);
        Check.law(x, "owes copy; leave needed;");
        pays(x, "27: with leave", 0, 1, 0);
        due("27: nothing is done", x.many(0), 1);
        due("27: nothing is done", x.many(2), 1);
        due("27: nothing is done", x.share(0, 1, 0), 1);

        OneIsTwo y = new OneIsTwo();
        y.born();
        y.claim(0, 0, 1);
        Check.law(y, "owes shared;");
        pays(y, "27: a half is cut to 0", 0, 1, 0);
        y.copied(0, 2, 1, 0, true);
        pays(y, "27: cut ahead of all", 0, 0, 0);

        // What was tried before leaves nothing behind for what is tried next.
        OneIsTwo w = new OneIsTwo();
        w.born();
        w.later(5);
        w.claim(0, 0, 40);
        w.deed(0);
        Check.law(w, "owes copy if kind = 5; owes shared if kind = 3; leave needed if kind = 2; sleep bears if gap > 3;");
        pays(w, "27: ended", 0, 3, 0);
        w.born();
        pays(w, "27: without debts", 1, 0, 0);
        w.copied(0, 3, 3, 5, true);
        w.copied(0, 5, 1, 5, true);
        w.end(2);
        w.copied(0, 2, 1, 5, false);
        lender(w, "28: rests and void", 0, 0, 1, 1);
        w.wake(3);
        pays(w, "27: he has all", 3, 3, 0);
        pays(w, "27: he has none", 0, 0, 0);
        due("28: nobody has more", w.lender(3, 1, 1), 1);
    }

    private static OneIsTwo owing(String law, int days) {
        OneIsTwo x = new OneIsTwo();
        x.born();
        x.claim(0, 0, 40);
        Check.law(x, law);
        if (days > 0) x.later(days);
        return x;
    }

    private static void whatWasAheadOfIt() {
        OneIsTwo x = owing("owes copy if kind = 5 and day = 1;", 0);
        x.copied(0, 5, 1, 0, true);
        x.later(1);
        x.wake(1);
        pays(x, "27: one who rested and woke", 1, 3, 0);
        x = owing("owes copy if kind = 3;", 0);
        x.copied(0, 3, 1, 0, true);
        x.end(1);
        pays(x, "27: one who got it back", 0, 2, 0);
        x = owing("owes shared if kind = 3;", 0);
        x.copied(0, 3, 3, 0, true);
        pays(x, "27: one who has three fourths", 1, 3, 0);
        x = owing("owes copy if gap = 2;", 2);
        x.copied(0, 2, 1, 0, true);
        pays(x, "27: one of an earlier moment", 1, 3, 0);
        x = owing("owes copy; leave needed;", 0);
        x.copied(0, 2, 1, 0, false);
        pays(x, "27: maker of one who is void", 0, 1, 0);
    }

    private static void withoutRoom() {
        OneIsTwo x = new OneIsTwo();
        x.born();
        x.claim(0, 0, 101);
        for (int i = 1; i < 12; i++) x.born();
        Check.law(x, "owes copy;");
        pays(x, "27: no room for persons", 0, 3, 0);
        for (int i = 0; i < 6; i++) x.end(11 - i);
        due("27: events", x.many(2), 18);
        pays(x, "27: no room at all", 0, 0, 101);

        OneIsTwo y = new OneIsTwo();
        y.born();
        y.claim(0, 0, 101);
        for (int i = 0; i < 8; i++) {
            y.copied(0, 2, 1, 0, true);
            y.end(i + 1);
        }
        Check.law(y, "owes shared;");
        due("27: one event left", y.many(2), 17);
        y.born();
        due("27: no event left", y.many(2), 18);
        pays(y, "27: no room for events", 0, 0, 101);
    }

    private static void joinedWith() {
        OneIsTwo x = new OneIsTwo();
        x.born();
        x.born();
        x.born();
        x.claim(0, 1, 50);
        x.claim(0, 0, 20);
        Check.law(x, "owes all;");
        pays(x, "27: ended ahead of all joined", 0, 3, 0);
        x.copied(0, 5, 1, 0, true);
        x.end(2);
        pays(x, "27: neither asleep nor ended ones", 0, 3, 0);

        // Two halves of each of two debts: only joined with one who has none are they as they were.
        OneIsTwo y = new OneIsTwo();
        y.born();
        y.claim(0, 0, 9);
        y.copied(0, 2, 1, 0, true);
        Check.law(y, "owes all;");
        pays(y, "27: joined has 1 at most", 0, 3, 0);
    }

    private static void lender(OneIsTwo x, String what, int p, int n, long above, long below) {
        due(what + ", above", x.lender(p, n, 0), above);
        due(what + ", below", x.lender(p, n, 1), below);
    }

    private static void lenders() {
        OneIsTwo x = new OneIsTwo();
        x.born();
        lender(x, "28: nobody copied", 0, 0, 1, 1);
        lender(x, "28: first", 0, 4, 1, 1);
        Check.law(x, "owes shared;");
        lender(x, "28: once", 0, 1, 1, 2);
        lender(x, "28: four times", 0, 4, 1, 2);
        Check.law(x, "owes shared if made < 4; owes copy if made = 4;");
        lender(x, "28: three times", 0, 3, 1, 2);
        Check.law(x, "owes shared if amount = 1 and kind = 2 and gap = 0 and held = 0;");
        lender(x, "28: facts", 0, 1, 1, 2);
        x.claim(1, 0, 5);
        lender(x, "28: the number of the debt", 0, 1, 1, 1);
        Check.law(x, "owes shared if held = 1 and day = 7; leave needed;");
        x.later(7);
        lender(x, "28: the number of the debt, the day", 0, 1, 1, 2);
        due("28: nothing is done", x.many(0), 1);
        due("28: nothing is done", x.many(3), 1);
        for (int i = 1; i < 12; i++) x.claim(0, 0, 5);
        due("28: no room for a claim", x.lender(0, 0, 0), -2);
        due("28: STATE ahead of FULL", x.end(0) * 0 + x.lender(0, 0, 0), -4);

        OneIsTwo y = new OneIsTwo();
        for (int i = 0; i < 9; i++) y.born();
        lender(y, "28: just room", 0, 3, 1, 1);
        due("28: no room for persons", y.lender(0, 4, 0), -2);
        for (int i = 0; i < 6; i++) y.end(8 - i);
        due("28: room for three events", y.lender(0, 3, 0), 1);
        y.end(2);
        due("28: no room for events", y.lender(0, 3, 0), -2);
        due("28: room for two", y.lender(0, 2, 0), 1);
    }

    private static void seeds() {
        OneIsTwo x = new OneIsTwo();
        due("29: at first", x.seed(7), 1);
        due("29: becomes", x.seed(Integer.MIN_VALUE), 7);
        due("29: becomes", x.seed(-1), Integer.MIN_VALUE);
        due("29: becomes", x.seed(0), -1);
    }

    private static void calls() {
        OneIsTwo x = new OneIsTwo();
        due("30: nobody", x.call(), -3);
        due("30: z stays", x.seed(1), 1);
        for (int i = 0; i < 5; i++) x.born();
        x.end(0);
        x.copied(1, 5, 1, 0, true);
        int[] awake = {1, 2, 3, 4};
        int z = 1;
        for (int i = 0; i < 50; i++) {
            z = z * 1103515245 + 12345;
            due("30: call " + i, x.call(), awake[(z >>> 16) % 4]);
        }
        due("30: z goes on", x.seed(-77), z);
        x.end(1);
        z = -77 * 1103515245 + 12345;
        int[] left = {2, 3, 4};
        due("30: of three", x.call(), left[(z >>> 16) % 3]);
        x.end(2);
        x.end(3);
        due("30: one alone", x.call(), 4);
        x.end(4);
        z = z * 1103515245 + 12345;
        due("30: none awake", x.call(), -3);
        due("30: z stays", x.seed(0), z);
    }
}
