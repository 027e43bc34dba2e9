/** Promises 11 to 13. */
public final class LawTest {
    private static final Check CHECK = new Check("LawTest");

    private static void due(String call, long got, long want) {
        CHECK.due(call, got, want);
    }

    public static void main(String[] args) {
        theTape();
        texts();
        faults();
        lastThatHolds();
        facts();
        conditions();
        CHECK.close();
    }

    private static void theTape() {
        OneIsTwo x = new OneIsTwo();
        due("11: n 0", x.feed(0, 0), -1);
        due("11: n 9", x.feed(0, 9), -1);
        due("11: n below", x.feed(0, -3), -1);
        for (int i = 1; i <= 24; i++) due("11: feed", x.feed(0x2020202020202020L, 8), 8 * i);
        due("11: seven", x.feed(0x2020202020202020L, 7), 199);
        due("11: two more", x.feed(0x2020, 2), -2);
        due("11: BAD ahead", x.feed(0x2020, 9), -1);
        due("11: one more", x.feed(0x20, 1), 200);
        due("11: full", x.feed(0x20, 1), -2);
        due("11: many", x.many(8), 200);
        due("12: blanks", x.law(), 0);
        due("12: used up", x.many(8), 0);
        due("11: anew", x.feed(0, 1), 1);
        due("12: a byte that is no sign", x.law(), -100);
        due("12: used up by a fault", x.many(8), 0);
    }

    private static void texts() {
        OneIsTwo x = new OneIsTwo();
        due("12: empty", x.law(), 0);
        due("12: one", Check.law(x, "owes all;"), 1);
        due("12: many", x.many(6), 1);
        due("12: blanks", Check.law(x, "   owes   all   ;  "), 1);
        due("12: ten", Check.law(x, "owes all;".repeat(10)), 10);
        due("12: eleven", Check.law(x, "owes all;".repeat(11)), -190);
        due("12: a fault leaves THE LAW", x.many(6), 10);
        due("12: every value", Check.law(x,
                "owns first;owns copy;owns shared;owns all;blame body;blame memory;blame root;vote each;"), 8);
        due("12: every value", Check.law(x,
                "vote root;vote share;wed maker;wed copy;wed both;wed none;leave free;leave needed;sleep rests;"), 9);
        due("12: sleep", Check.law(x, "sleep bears;"), 1);
        due("12: no blanks", Check.law(x, "owes all if day<5and made=9999or gap>0and(kind<3);"), 1);
        due("12: three open", Check.law(x, "vote root if (((1=1)));"), 1);
        due("12: three open twice", Check.law(x, "vote root if (((1=1)) and ((1=1))) or (1 = 1);"), 1);
        due("12: nots", Check.law(x, "vote root if not not not 1 = 1 and not (not 2 = 2);"), 1);
        due("12: 0000", Check.law(x, "vote root if 0000 = day;"), 1);
        due("12: leaves nothing", Check.law(x, ""), 0);
        due("12: many", x.many(6), 0);
    }

    private static void fault(String text, int place) {
        OneIsTwo x = new OneIsTwo();
        due("12: '" + text + "'", Check.law(x, text), -100 - place);
    }

    private static void faults() {
        fault("owed all;", 0);
        fault(" all owes;", 1);
        fault("owesz all;", 0);
        fault("owes all0;", 8);
        fault("owes all9;", 8);
        fault("owes", 4);
        fault("owes  ", 6);
        fault("owes all", 8);
        fault("owes all  ", 10);
        fault("owes body;", 5);
        fault("owes 5;", 5);
        fault("owes al;", 5);
        fault("owes alls;", 5);
        fault("owesall;", 0);
        fault("owes all all;", 9);
        fault("owes all owes all;", 9);
        fault(";", 0);
        fault("owes all;;", 9);
        fault("owes ; ", 5);
        fault("wed shared;", 4);
        fault("vote memory;", 5);
        fault("blame each;", 6);
        fault("leave rests;", 6);
        fault("sleep free;", 6);
        fault("Owes all;", 0);
        fault("owes\tall;", 4);
        fault("owes\nall;", 4);
        fault("owes all\u00e9;", 8);
        fault("owes all if;", 11);
        fault("owes all if day;", 15);
        fault("owes all if day <;", 17);
        fault("owes all if day < 5", 19);
        fault("owes all if day < 5 ", 20);
        fault("owes all if day < 12345;", 18);
        fault("owes all if 00001 < day;", 12);
        fault("owes all if day < 1 2;", 20);
        fault("owes all if day < 5x;", 19);
        fault("owes all if days < 5;", 12);
        fault("owes all if owes < 5;", 12);
        fault("owes all if day ! 5;", 16);
        fault("owes all if day ? 5;", 16);
        fault("owes all if day ; 5;", 16);
        fault("owes all if day <= 5;", 17);
        fault("owes all if day < 5 and;", 23);
        fault("owes all if day < 5 or", 22);
        fault("owes all if and day < 5;", 12);
        fault("owes all if day < not 5;", 18);
        fault("owes all if not;", 15);
        fault("owes all if notday < 5;", 12);
        fault("owes all if day < 5 if day < 5;", 20);
        fault("owes all if (day < 5;", 20);
        fault("owes all if day < 5);", 19);
        fault("owes all if ();", 13);
        fault("owes all if (day) < 5;", 16);
        fault("owes all if ((((day < 5))));", 15);
        fault("owes all if (1=1 and (2=2 or (3=3 and not (4=4))));", 42);
        fault("owes all if (1=1", 16);
        fault("vote each;owes all if 1 = ;", 26);
        fault("owes all;".repeat(10) + "x", 90);
        fault("owes all;".repeat(10) + "  ;", 92);
    }

    private static void lastThatHolds() {
        OneIsTwo x = new OneIsTwo();
        x.born();
        for (int key = 0; key <= 6; key++) due("13: without a law", x.says(key, 0), 0);
        due("13: key below", x.says(-1, 0), -1);
        due("13: key above", x.says(7, 0), -1);
        due("13: nobody", x.says(0, 1), -1);
        due("13: below", x.says(0, -1), -1);
        Check.law(x, "owes copy;owns all;blame root;vote share;wed none;leave needed;sleep bears;");
        int[] last = {1, 3, 2, 2, 3, 1, 1};
        for (int key = 0; key <= 6; key++) due("13: key " + key, x.says(key, 0), last[key]);
        Check.law(x, "owes shared;blame memory;vote root;wed both;wed copy;owns shared;owes all if 1 = 2;");
        due("13: the last that holds", x.says(0, 0), 2);
        due("13: owns", x.says(1, 0), 2);
        due("13: blame", x.says(2, 0), 1);
        due("13: vote", x.says(3, 0), 1);
        due("13: the last", x.says(4, 0), 1);
        due("13: no clause any more", x.says(5, 0), 0);
        Check.law(x, "owes all if day = 0;owes copy if day > 0;");
        due("13: the first holds", x.says(0, 0), 3);
        x.later(1);
        due("13: the second holds", x.says(0, 0), 1);
        Check.law(x, "owes bad;");
        due("13: a fault changes nothing", x.says(0, 0), 1);
    }

    private static int says(OneIsTwo x, String cond, int p) {
        Check.law(x, "vote root if " + cond + ";");
        return x.says(3, p);
    }

    private static void facts() {
        OneIsTwo x = new OneIsTwo();
        x.born();
        x.born();
        x.later(9);
        x.copied(0, 3, 1, 2, false);
        x.copied(0, 5, 1, 2, false);
        x.claim(0, 2, 50);
        due("13: day now", says(x, "day = 9", 0), 1);
        due("13: made is how many", says(x, "made = 4", 2), 1);
        due("13: gap is 0", says(x, "gap = 0", 2), 1);
        due("13: amount is 0", says(x, "amount = 0", 2), 1);
        due("13: held is 0", says(x, "held = 0", 2), 1);
        x.claim(0, 0, 60);
        x.copied(0, 2, 1, 9, true);
        x.share(0, 1, 0);
        due("13: amount is 0, though a claim was asked about", x.says(3, 0), 1);
        Check.law(x, "vote root if amount = 0; owes all if amount > 0 and gap = 0;");
        due("16: a claim is asked about", x.share(4, 1, 0), 1);
        due("13: amount is 0, though a claim was asked about", x.says(3, 0), 1);
        Check.law(x, "vote root if gap = 0 and held = 0; owes all if gap > 0 or held > 0;");
        due("16: a claim is asked about", x.share(4, 1, 0), 1);
        due("13: held is 0, though a claim was asked about", x.says(3, 0), 1);
        due("13: kind first", says(x, "kind = 1", 0), 1);
        due("13: kind half", says(x, "kind = 3", 2), 1);
        due("13: kind asleep", says(x, "kind = 5", 3), 1);
        x.wake(3);
        due("13: kind now", says(x, "kind = 2", 3), 1);
        x.end(3);
        due("13: kind ended", says(x, "kind = 6", 3), 1);
        x.join(0, 1);
        due("13: kind joined", says(x, "kind = 4", 5), 1);
        due("13: kind joined away", says(x, "kind = 6", 1), 1);
    }

    private static void conditions() {
        OneIsTwo x = new OneIsTwo();
        x.born();
        due("13: <", says(x, "1 < 2", 0), 1);
        due("13: <", says(x, "2 < 2", 0), 0);
        due("13: =", says(x, "2 = 2", 0), 1);
        due("13: =", says(x, "1 = 2", 0), 0);
        due("13: >", says(x, "3 > 2", 0), 1);
        due("13: >", says(x, "2 > 2", 0), 0);
        due("13: 9999", says(x, "9998 < 9999", 0), 1);
        due("13: fact on the right", says(x, "1 = kind", 0), 1);
        due("13: two facts", says(x, "made = kind", 0), 1);
        due("13: not", says(x, "not 1 = 2", 0), 1);
        due("13: not", says(x, "not 1 = 1", 0), 0);
        due("13: not not", says(x, "not not 1 = 2", 0), 0);
        due("13: not goes with one alone", says(x, "not 1 = 2 and 1 = 2", 0), 0);
        due("13: not of both", says(x, "not (1 = 2 and 1 = 2)", 0), 1);
        due("13: and ahead of or", says(x, "1 = 1 or 1 = 1 and 1 = 2", 0), 1);
        due("13: and ahead of or", says(x, "1 = 2 and 1 = 1 or 1 = 1", 0), 1);
        due("13: brackets", says(x, "(1 = 1 or 1 = 1) and 1 = 2", 0), 0);
        due("13: or of three", says(x, "1 = 2 or 1 = 3 or 1 = 1", 0), 1);
        due("13: or of three", says(x, "1 = 2 or 1 = 3 or 1 = 4", 0), 0);
        due("13: and of three", says(x, "1 = 1 and 2 = 2 and 3 = 4", 0), 0);
        due("13: and of three", says(x, "1 = 1 and 2 = 2 and 3 = 3", 0), 1);
        due("13: deep", says(x, "1 = 2 or 1 = 1 and (1 = 2 or 1 = 1 and (1 = 2 or 1 = 1 and (1 = 2 or 3 = 3)))", 0), 1);
        due("13: deep", says(x, "1 = 1 and (1 = 1 and (1 = 1 and (1 = 2 or 2 = 3)))", 0), 0);
    }
}
