/** Promises 14 to 17. */
public final class ClaimsTest {
    private static final Check CHECK = new Check("ClaimsTest");

    private static void due(String call, long got, long want) {
        CHECK.due(call, got, want);
    }

    private static void share(OneIsTwo x, String what, int p, int claim, long above, long below) {
        due(what + ", above", x.share(p, claim, 0), above);
        due(what + ", below", x.share(p, claim, 1), below);
    }

    public static void main(String[] args) {
        claimsCome();
        wrongAsked();
        theFourWays();
        partsOfHalves();
        momentAndVoid();
        sleepers();
        joinedAndEnded();
        ofWhomAwakeThen();
        factsOfTheEvent();
        theLawNow();
        totals();
        CHECK.close();
    }

    private static void claimsCome() {
        OneIsTwo x = new OneIsTwo();
        due("14: nobody", x.claim(0, 0, 1), -1);
        x.born();
        x.copied(0, 5, 1, 0, true);
        x.later(4);
        due("14: sort below", x.claim(-1, 0, 1), -1);
        due("14: sort above", x.claim(2, 0, 1), -1);
        due("14: worth 0", x.claim(0, 0, 0), -1);
        due("14: worth 10000", x.claim(0, 0, 10000), -1);
        due("14: asleep", x.claim(0, 1, 1), -4);
        due("14: BAD ahead of STATE", x.claim(0, 1, 0), -1);
        due("14: comes", x.claim(1, 0, 9999), 0);
        due("15: sort", x.claimOf(0, 0), 1);
        due("15: whose", x.claimOf(0, 1), 0);
        due("15: worth", x.claimOf(0, 2), 9999);
        due("15: day", x.claimOf(0, 3), 4);
        due("15: what below", x.claimOf(0, -1), -1);
        due("15: what above", x.claimOf(0, 4), -1);
        due("15: none", x.claimOf(1, 0), -1);
        due("15: below", x.claimOf(-1, 0), -1);
        for (int i = 1; i < 12; i++) due("14: comes", x.claim(0, 0, i), i);
        due("14: full", x.claim(0, 0, 1), -2);
        due("14: STATE ahead of FULL", x.claim(0, 1, 1), -4);
        due("14: many", x.many(3), 12);
        due("15: whose it was at first", x.claimOf(11, 1), 0);
        x.copied(0, 2, 1, 4, true);
        due("15: stays whose it was", x.claimOf(11, 1), 0);
    }

    private static void wrongAsked() {
        OneIsTwo x = new OneIsTwo();
        x.born();
        x.claim(0, 0, 5);
        due("16: nobody", x.share(1, 0, 0), -1);
        due("16: below", x.share(-1, 0, 0), -1);
        due("16: no claim", x.share(0, 1, 0), -1);
        due("16: claim below", x.share(0, -1, 0), -1);
        due("16: part 2", x.share(0, 0, 2), -1);
        due("16: part below", x.share(0, 0, -1), -1);
        due("17: nobody", x.total(1, 0, 0), -1);
        due("17: below", x.total(-1, 0, 0), -1);
        due("17: sort", x.total(0, 2, 0), -1);
        due("17: sort below", x.total(0, -1, 0), -1);
        due("17: part", x.total(0, 0, 2), -1);
        due("17: part below", x.total(0, 0, -1), -1);
    }

    private static OneIsTwo withClaims(String law) {
        OneIsTwo x = new OneIsTwo();
        x.born();
        x.claim(0, 0, 100);
        x.claim(1, 0, 10);
        Check.law(x, law);
        return x;
    }

    private static void theFourWays() {
        OneIsTwo x = withClaims("");
        x.copied(0, 2, 1, 0, true);
        share(x, "16: first, maker", 0, 0, 1, 1);
        share(x, "16: first, copy", 1, 0, 0, 1);

        x = withClaims("owes copy;");
        x.copied(0, 2, 1, 0, true);
        share(x, "16: copy, maker", 0, 0, 0, 1);
        share(x, "16: copy, copy", 1, 0, 1, 1);
        share(x, "16: owns is another key", 0, 1, 1, 1);

        x = withClaims("owns shared;");
        x.copied(0, 2, 1, 0, true);
        share(x, "16: shared, maker", 0, 1, 1, 2);
        share(x, "16: shared, copy", 1, 1, 1, 2);
        share(x, "16: owes is another key", 0, 0, 1, 1);

        x = withClaims("owes all; owns copy;");
        x.copied(0, 2, 1, 0, true);
        share(x, "16: all, maker", 0, 0, 1, 1);
        share(x, "16: all, copy", 1, 0, 1, 1);
        share(x, "16: owns copy", 1, 1, 1, 1);
    }

    private static void partsOfHalves() {
        OneIsTwo x = withClaims("owes shared;");
        x.copied(0, 3, 1, 0, true);
        share(x, "16: a fourth goes", 1, 0, 1, 4);
        share(x, "16: three stay", 0, 0, 3, 4);
        x.copied(0, 3, 3, 0, true);
        share(x, "16: three fourths of these", 2, 0, 9, 16);
        share(x, "16: a fourth of these", 0, 0, 3, 16);
        for (int i = 3; i < 12; i++) x.copied(i - 1, 3, 1, 0, true);
        share(x, "16: the last of all", 11, 0, 9, 1 << 22);
        x.end(0);
        share(x, "16: lost", 0, 0, 0, 1);
        for (int i = 11; i > 6; i--) x.end(i);
        share(x, "16: back to the one he came from", 6, 0, 9, 4096);
    }

    private static void momentAndVoid() {
        OneIsTwo x = new OneIsTwo();
        x.born();
        x.later(5);
        x.copied(0, 2, 1, 5, true);
        x.claim(0, 0, 100);
        Check.law(x, "owes shared; leave needed;");
        share(x, "16: came ahead of the claim", 1, 0, 0, 1);
        x.later(1);
        x.copied(0, 2, 1, 4, true);
        share(x, "16: moment ahead of the day", 2, 0, 0, 1);
        x.copied(0, 2, 1, 5, true);
        share(x, "16: moment on the day", 3, 0, 1, 2);
        x.copied(0, 2, 1, 6, false);
        share(x, "16: void", 4, 0, 0, 1);
        share(x, "16: maker of one who is void", 0, 0, 1, 2);
        due("14: one who is void may claim", x.claim(0, 4, 8), 1);
        x.copied(4, 3, 1, 6, true);
        share(x, "16: from one who is void", 5, 1, 1, 4);
        x.end(5);
        share(x, "16: back to one who is void", 4, 1, 1, 1);
    }

    private static void sleepers() {
        OneIsTwo x = withClaims("owes shared; sleep bears;");
        x.copied(0, 5, 3, 0, true);
        share(x, "16: bears at once", 1, 0, 1, 2);
        x.wake(1);
        share(x, "16: but not once more", 1, 0, 1, 2);
        Check.law(x, "owes shared;");
        share(x, "16: rests till he wakes", 1, 0, 1, 2);
        x.copied(0, 5, 1, 0, true);
        share(x, "16: rests", 2, 0, 0, 1);
        share(x, "16: of whom he came", 0, 0, 1, 2);
        x.end(2);
        share(x, "16: never woke", 0, 0, 1, 2);

        OneIsTwo y = withClaims("owes shared; sleep bears if day > 3;");
        y.copied(0, 5, 1, 0, true);
        y.later(4);
        y.wake(1);
        share(y, "16: sleep as said on the day of coming", 1, 0, 1, 2);
        y.copied(0, 5, 1, 2, true);
        share(y, "16: bears by then", 2, 0, 1, 4);
        y.end(2);
        share(y, "16: asleep ones give back, too", 0, 0, 1, 2);

        OneIsTwo z = withClaims("owes copy if day = 2 and gap = 0 and kind = 5 and made = 1; owes all if day = 0;");
        z.copied(0, 5, 1, 0, true);
        z.later(2);
        z.wake(1);
        share(z, "16: by the event of waking", 1, 0, 1, 1);
        share(z, "16: by the event of waking", 0, 0, 0, 1);

        OneIsTwo w = new OneIsTwo();
        w.born();
        w.copied(0, 5, 1, 0, true);
        w.claim(0, 0, 10);
        Check.law(w, "owes all;");
        w.wake(1);
        share(w, "16: came ahead of the claim, wakes behind it", 1, 0, 1, 1);
        w.copied(0, 5, 1, 0, true);
        w.end(0);
        w.wake(2);
        share(w, "16: of whom he came has none any more", 2, 0, 0, 1);
    }

    private static void joinedAndEnded() {
        OneIsTwo x = withClaims("owes all; owns shared;");
        x.copied(0, 2, 1, 0, true);
        x.copied(0, 3, 1, 0, true);
        share(x, "16: things", 0, 1, 3, 8);
        x.join(0, 1);
        share(x, "16: both, 1 at most", 3, 0, 1, 1);
        share(x, "16: both together", 3, 1, 7, 8);
        share(x, "16: has none any more", 0, 1, 0, 1);
        share(x, "16: has none any more", 1, 0, 0, 1);
        x.end(2);
        share(x, "16: to none who is joined away", 3, 1, 7, 8);
        share(x, "16: lost", 2, 1, 0, 1);
        share(x, "16: lost", 0, 1, 0, 1);
        x.end(3);
        share(x, "16: a joined one is no copy", 3, 1, 0, 1);

        OneIsTwo y = withClaims("owes all;");
        y.copied(0, 2, 1, 0, true);
        y.end(1);
        share(y, "16: both together, 1 at most", 0, 0, 1, 1);
        y.copied(0, 2, 1, 0, true);
        y.end(0);
        share(y, "16: a first is no copy", 2, 0, 1, 1);
        share(y, "16: lost", 0, 0, 0, 1);
        y.end(2);
        share(y, "16: to one who is ended", 0, 0, 0, 1);
    }

    private static void ofWhomAwakeThen() {
        OneIsTwo x = new OneIsTwo();
        x.born();
        x.copied(0, 2, 1, 0, true);
        x.copied(0, 2, 1, 0, true);
        x.claim(0, 1, 10);
        x.claim(0, 2, 10);
        x.end(1);
        share(x, "16: he was awake then", 0, 0, 1, 1);
        x.end(0);
        share(x, "16: ended with it", 0, 0, 0, 1);
        x.claim(0, 2, 10);
        x.end(2);
        share(x, "16: he was ended then", 0, 1, 0, 1);
        share(x, "16: he was ended ahead of the claim", 0, 2, 0, 1);
    }

    private static void factsOfTheEvent() {
        OneIsTwo x = new OneIsTwo();
        x.born();
        x.claim(0, 0, 100);
        x.claim(0, 0, 200);
        x.claim(1, 0, 100);
        x.later(9);
        x.copied(0, 3, 2, 6, true);
        share(x, "16: first", 1, 0, 0, 1);
        String[] holds = {"day = 9", "made = 1", "gap = 3", "kind = 3", "amount = 100", "held = 0"};
        for (String cond : holds) {
            Check.law(x, "owes shared if " + cond + ";");
            share(x, "16: " + cond, 1, 0, 1, 2);
        }
        x.later(1);
        x.copied(0, 2, 1, 0, true);
        for (String cond : holds) {
            Check.law(x, "owes shared if " + cond + ";");
            share(x, "16: still, " + cond, 1, 0, 1, 2);
        }
        Check.law(x, "owes all if amount = 200; owns all if held = 2;");
        share(x, "16: amount of each claim", 1, 0, 0, 1);
        share(x, "16: amount of each claim", 1, 1, 1, 1);
        share(x, "16: number of the claim", 1, 2, 1, 1);
        Check.law(x, "owes all if held = 1;");
        share(x, "16: number of the claim", 1, 1, 1, 1);
        share(x, "16: number of the claim", 1, 0, 0, 1);
    }

    private static void theLawNow() {
        OneIsTwo x = withClaims("owes all;");
        x.copied(0, 2, 1, 0, true);
        share(x, "16: by this law", 1, 0, 1, 1);
        Check.law(x, "owes shared;");
        share(x, "16: by that law", 1, 0, 1, 2);
        Check.law(x, "");
        share(x, "16: by none", 1, 0, 0, 1);
        x.end(1);
        Check.law(x, "owes copy;");
        share(x, "16: there and back", 0, 0, 1, 1);
    }

    private static void totals() {
        OneIsTwo x = new OneIsTwo();
        x.born();
        due("17: none", x.total(0, 0, 0), 0);
        due("17: none", x.total(0, 0, 1), 1);
        x.claim(0, 0, 7);
        x.claim(0, 0, 4);
        x.claim(1, 0, 5);
        due("17: debts", x.total(0, 0, 0), 11);
        due("17: things", x.total(0, 1, 0), 5);
        Check.law(x, "owes shared if held = 0; owes all if held = 1; owns shared;");
        x.copied(0, 3, 3, 0, true);
        due("17: his, above", x.total(0, 0, 0), 23);
        due("17: his, below", x.total(0, 0, 1), 4);
        due("17: copy, above", x.total(1, 0, 0), 37);
        due("17: copy, below", x.total(1, 0, 1), 4);
        due("17: things, above", x.total(1, 1, 0), 15);
        due("17: things, below", x.total(1, 1, 1), 4);
        for (int i = 3; i < 12; i++) x.claim(0, 1, 9999);
        due("17: all that there are, above", x.total(1, 0, 0), 37 + 9 * 9999 * 4);
    }
}
