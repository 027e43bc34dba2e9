/** Promises 35 to 43. */
public final class HostTest {
    private static final Check CHECK = new Check("HostTest");

    private static void due(String call, long got, long want) {
        CHECK.due(call, got, want);
    }

    public static void main(String[] args) {
        sheets();
        items();
        debtsFromSheets();
        shelves();
        takenAs();
        acts();
        traces();
        counts();
        CHECK.close();
    }

    private static void sheets() {
        OneIsTwo x = new OneIsTwo();
        due("35: below", x.sheet(-1, 0, 1), -1);
        due("35: above", x.sheet(4, 0, 1), -1);
        due("35: sort below", x.sheet(0, -2, 1), -1);
        due("35: sort above", x.sheet(0, 5, 1), -1);
        due("35: 41", x.sheet(0, 0, 41), -1);
        due("35: below 0", x.sheet(0, 0, -1), -14);
        due("35: far below 0", x.sheet(0, 0, Integer.MIN_VALUE), -14);
        due("35: BAD ahead of -14", x.sheet(0, 5, -1), -1);
        due("35: nothing changed", x.put(0, 0, 0), -11);
        due("35: 40", x.sheet(0, 0, 40), 1);
        due("36: last", x.put(0, 39, 3), 1);
        due("35: none", x.sheet(0, 1, 0), 1);
        due("36: no place", x.put(0, 0, 3), -12);
        due("35: 40 again", x.sheet(0, 0, 40), 1);
        due("35: all 0", x.item(0, 0, 39), 0);
        x.put(0, 0, 7);
        due("36: first", x.item(0, 0, 0), 7);
        x.sheet(0, 0, 40);
        due("35: all 0", x.item(0, 0, 0), 0);
        x.put(0, 1, 5);
        due("35: a refusal changes nothing", x.sheet(0, 2, -1), -14);
        due("37: stays", x.item(0, 0, 1), 5);
        due("35: missing", x.sheet(0, -1, -99), 1);
        due("37: missing", x.item(0, 0, 1), -11);
        due("35: missing once more", x.sheet(0, -1, 99), 1);
    }

    private static void items() {
        OneIsTwo x = new OneIsTwo();
        int[] puts = {0, 1, -1, 127, 128, 255, 256, 32767, 32768, 65536, 70000, Integer.MAX_VALUE, Integer.MIN_VALUE};
        for (int sort = 0; sort <= 4; sort++) {
            x.sheet(3, sort, 2);
            for (int v : puts) {
                due("36: put", x.put(3, 1, v), 1);
                int want = sort == 0 ? (byte) v : sort == 1 ? (short) v : sort == 4 ? (v != 0 ? 1 : 0) : v;
                due("37: sort " + sort + " of " + v, x.item(3, sort, 1), want);
            }
            due("37: the other stays", x.item(3, sort, 0), 0);
            for (int other = 0; other <= 4; other++) {
                if (other != sort) due("37: another sort", x.item(3, other, 0), -13);
            }
            due("37: another sort ahead of outside", x.item(3, (sort + 1) % 5, 9), -13);
            due("37: outside", x.item(3, sort, 2), -12);
            due("37: outside", x.item(3, sort, -1), -12);
        }
        due("36: below", x.put(-1, 0, 1), -1);
        due("36: above", x.put(4, 0, 1), -1);
        due("36: missing", x.put(0, 0, 1), -11);
        due("36: missing ahead of outside", x.put(0, -1, 1), -11);
        due("36: outside", x.put(3, 2, 1), -12);
        due("36: outside", x.put(3, -1, 1), -12);
        due("37: below", x.item(-1, 0, 0), -1);
        due("37: above", x.item(4, 0, 0), -1);
        due("37: sort below", x.item(0, -1, 0), -1);
        due("37: sort above", x.item(0, 5, 0), -1);
        due("37: missing", x.item(0, 0, -1), -11);
    }

    private static void debtsFromSheets() {
        OneIsTwo x = new OneIsTwo();
        x.sheet(0, 1, 40);
        due("38: nobody", x.debts(0, 0, 0, 1), -1);
        x.born();
        x.copied(0, 5, 1, 0, true);
        for (int i = 0; i < 40; i++) x.put(0, i, i % 5 * 10);
        due("38: below", x.debts(0, -1, 0, 1), -1);
        due("38: above", x.debts(0, 4, 0, 1), -1);
        due("38: n below", x.debts(0, 0, 0, -1), -1);
        due("38: n above", x.debts(0, 0, 0, 13), -1);
        due("38: missing", x.debts(0, 1, 0, 1), -11);
        x.sheet(1, 2, 4);
        due("38: another sort", x.debts(0, 1, 0, 1), -13);
        due("38: another sort, asked for none", x.debts(0, 1, 0, 0), -13);
        due("38: none", x.debts(0, 0, 40, 0), 0);
        due("38: asleep", x.debts(1, 0, 0, 4), 0);
        due("38: two of three", x.debts(0, 0, 0, 3), 2);
        due("38: many", x.many(3), 2);
        due("38: worth", x.claimOf(0, 2), 10);
        due("38: worth", x.claimOf(1, 2), 20);
        due("38: a debt", x.claimOf(1, 0), 0);
        due("38: his", x.claimOf(1, 1), 0);
        due("38: what stood ahead came", x.debts(0, 0, 38, 12), -12);
        due("38: many", x.many(3), 4);
        due("38: outside at once", x.debts(0, 0, -1, 12), -12);
        due("38: outside at once", x.debts(0, 0, Integer.MAX_VALUE, 12), -12);
        due("38: outside at once", x.debts(0, 0, Integer.MIN_VALUE, 12), -12);
        due("38: many", x.many(3), 4);
        due("38: ten", x.debts(0, 0, 1, 12), 8);
        due("38: full", x.many(3), 12);
        due("38: left out", x.debts(0, 0, 1, 12), 0);
        due("38: left out and outside", x.debts(0, 0, 39, 2), -12);
        due("38: asleep and outside", x.debts(1, 0, 39, 2), -12);
    }

    private static void shelves() {
        OneIsTwo x = new OneIsTwo();
        due("39: no person", x.shelf(0, 0, 0), -1);
        due("39: no claim", x.shelf(0, 1, 0), -1);
        x.born();
        x.claim(0, 0, 5);
        due("39: below", x.shelf(-1, 3, 0), -1);
        due("39: above", x.shelf(4, 3, 0), -1);
        due("39: what below", x.shelf(0, -1, 0), -1);
        due("39: what above", x.shelf(0, 4, 0), -1);
        due("39: person below", x.shelf(0, 0, -1), -1);
        due("39: person above", x.shelf(0, 0, 1), -1);
        due("39: claim above", x.shelf(0, 1, 1), -1);
        due("39: sheet below", x.shelf(0, 2, -1), -1);
        due("39: sheet above", x.shelf(0, 2, 4), -1);
        due("39: person", x.shelf(0, 0, 0), 1);
        due("39: claim", x.shelf(1, 1, 0), 1);
        due("39: missing", x.shelf(2, 2, 3), 1);
        due("40: missing", x.taken(2, 10), -11);
        due("39: BAD changes nothing", x.shelf(0, 2, 4), -1);
        due("40: still there", x.taken(0, 1), 0);
        due("39: nothing", x.shelf(0, 3, 77), 1);
        due("40: nothing", x.taken(0, 1), -11);
        x.sheet(3, 4, 6);
        x.shelf(2, 2, 3);
        due("40: row", x.taken(2, 14), 6);
        x.sheet(3, 0, 2);
        due("40: the row that was laid there", x.taken(2, 14), 6);
        x.sheet(3, -1, 0);
        due("40: the row that was laid there", x.taken(2, 14), 6);
        due("40: of no other sort", x.taken(2, 10), -13);
        x.shelf(2, 2, 3);
        due("40: nothing now", x.taken(2, 14), -11);
    }

    private static void takenAs() {
        OneIsTwo x = new OneIsTwo();
        x.born();
        x.copied(0, 2, 1, 0, true);
        x.copied(0, 3, 1, 0, true);
        x.copied(0, 5, 1, 0, true);
        x.born();
        x.born();
        x.join(4, 5);
        x.claim(1, 0, 5);
        x.claim(1, 0, 5);
        due("40: below", x.taken(-1, 0), -1);
        due("40: above", x.taken(4, 0), -1);
        for (int as : new int[] {-1, 8, 9, 15, 99}) due("40: as " + as, x.taken(0, as), -1);
        for (int as = 0; as <= 14; as++) {
            if (as <= 7 || as >= 10) due("40: nothing", x.taken(0, as), -11);
        }
        String[] fit = {"01", "02", "023", "025", "06", "", "04"};
        for (int p = 0; p < 7; p++) {
            x.shelf(0, 0, p);
            String kinds = fit[p].isEmpty() ? "06" : fit[p];
            for (int as = 0; as <= 7; as++) {
                due("40: " + p + " as " + as, x.taken(0, as), kinds.indexOf('0' + as) >= 0 ? p : -13);
            }
            for (int as = 10; as <= 14; as++) due("40: no row", x.taken(0, as), -13);
        }
        x.shelf(1, 1, 1);
        for (int as = 0; as <= 7; as++) due("40: claim as " + as, x.taken(1, as), as == 7 ? 1 : -13);
        due("40: claim as a row", x.taken(1, 12), -13);
        for (int sort = 0; sort <= 4; sort++) {
            x.sheet(0, sort, sort + 3);
            x.shelf(2, 2, 0);
            for (int as = 10; as <= 14; as++) due("40: row", x.taken(2, as), as == 10 + sort ? sort + 3 : -13);
            for (int as = 0; as <= 7; as++) due("40: row as a kind", x.taken(2, as), -13);
        }
        x.shelf(0, 0, 3);
        due("40: asleep", x.taken(0, 5), 3);
        x.wake(3);
        due("40: awake", x.taken(0, 5), -13);
        due("40: awake", x.taken(0, 2), 3);
        x.end(3);
        due("40: ended", x.taken(0, 2), -13);
        due("40: ended", x.taken(0, 6), 3);
    }

    private static OneIsTwo everyKind() {
        OneIsTwo x = new OneIsTwo();
        x.later(10);
        x.born();
        x.copied(0, 2, 1, 0, true);
        x.later(10);
        x.copied(0, 3, 1, 0, true);
        x.copied(0, 5, 1, 0, true);
        x.born();
        x.born();
        x.later(20);
        x.join(4, 5);
        x.claim(0, 0, 500);
        x.claim(0, 0, 600);
        return x;
    }

    private static void actsOf(OneIsTwo x, int what, int n, int arg, int[] want, int[][] bodies) {
        x.shelf(0, what, n);
        for (int act = 0; act < 4; act++) {
            String name = "41: " + what + "/" + n + " act " + act;
            due(name, x.act(0, act, arg), want[act]);
            due(name + ", bodies", x.many(9), bodies[act].length);
            for (int i = 0; i < bodies[act].length; i++) due(name + ", body " + i, x.trace(i), bodies[act][i]);
            due(name + ", behind the last", x.trace(bodies[act].length), -3);
        }
    }

    private static void acts() {
        OneIsTwo x = everyKind();
        actsOf(x, 0, 0, 25, new int[] {35, 66, 2, 66},
                new int[][] {{10}, {20, 11, 10}, {12}, {13, 20, 11, 10}});
        actsOf(x, 0, 1, 25, new int[] {105, 210, 2, 211},
                new int[][] {{30, 10}, {11, 30, 10}, {12}, {31, 13, 11, 30, 10, 12}});
        actsOf(x, 0, 2, 25, new int[] {133, 266, 1, 264},
                new int[][] {{40, 30, 10}, {11, 40, 30, 10}, {12}, {31, 13, 11, 40, 30, 10, 12}});
        actsOf(x, 0, 3, 25, new int[] {135, -270, 1, (-270 ^ 3) + 4 / 17},
                new int[][] {{30, 10}, {51, 11, 30, 10}, {50, 12}, {31, 13, 51, 11, 30, 10, 50, 12}});
        actsOf(x, 0, 6, 25, new int[] {65, 130 ^ 40, 0, 130 ^ 40 ^ 6},
                new int[][] {{10}, {60, 11, 10}, {12}, {13, 60, 11, 10}});
        actsOf(x, 0, 4, 33, new int[] {53, 106, 2, (106 ^ 4) * 2},
                new int[][] {{10}, {11, 10}, {12}, {70, 13, 11, 10}});
        actsOf(x, 1, 1, 25, new int[] {575, 575, 25 | 600, 575 - (1 | 600)},
                new int[][] {{80}, {81, 80}, {82}, {83, 81, 80, 82}});
        actsOf(x, 0, 0, Integer.MAX_VALUE, new int[] {
                Integer.MAX_VALUE + 10, (Integer.MAX_VALUE + 10) * 2 - 4, Integer.MAX_VALUE / 10,
                (Integer.MAX_VALUE + 10) * 2 - 4},
                new int[][] {{10}, {20, 11, 10}, {12}, {13, 20, 11, 10}});
        actsOf(x, 0, 1, -25, new int[] {-45, -90, -2, (-90 ^ 1)},
                new int[][] {{30, 10}, {11, 30, 10}, {12}, {31, 13, 11, 30, 10, 12}});

        OneIsTwo y = new OneIsTwo();
        y.born();
        y.born();
        actsOf(y, 0, 1, Integer.MIN_VALUE, new int[] {Integer.MIN_VALUE, -4, Integer.MIN_VALUE, -4 ^ 1},
                new int[][] {{10}, {20, 11, 10}, {12}, {13, 20, 11, 10}});
        actsOf(y, 0, 0, 9, new int[] {9, 14, -15, 14},
                new int[][] {{10}, {20, 11, 10}, {12}, {13, 20, 11, 10}});
        y.later(2);
        y.copied(0, 2, 1, 0, true);
        actsOf(y, 0, 2, 9, new int[] {33, 66, -15, -15},
                new int[][] {{30, 10}, {11, 30, 10}, {12}, {31, 13, 11, 30, 10, 12}});
        y.later(1);
        y.copied(0, 5, 1, 0, true);
        actsOf(y, 0, 3, 9, new int[] {36, -72, -15, -15},
                new int[][] {{30, 10}, {51, 11, 30, 10}, {50, 12}, {31, 13, 51, 11, 30, 10, 50, 12}});
        y.copied(0, 5, 1, 0, true);
        actsOf(y, 0, 4, Integer.MAX_VALUE, new int[] {
                (Integer.MAX_VALUE + 3) * 3, 0 - (Integer.MAX_VALUE + 3) * 6, Integer.MIN_VALUE / -1,
                (0 - (Integer.MAX_VALUE + 3) * 6 ^ 4) + 5 / -1},
                new int[][] {{30, 10}, {51, 11, 30, 10}, {50, 12}, {31, 13, 51, 11, 30, 10, 50, 12}});
    }

    private static void traces() {
        OneIsTwo x = everyKind();
        x.shelf(0, 0, 3);
        x.sheet(0, 0, 3);
        x.shelf(1, 2, 0);
        x.act(0, 3, 5);
        due("42: below", x.trace(-1), -3);
        due("42: above", x.trace(30), -3);
        due("42: far above", x.trace(Integer.MAX_VALUE), -3);
        due("42: first", x.trace(0), 31);
        int[][] none = {{-1, 0}, {4, 0}, {0, -1}, {0, 4}, {2, 0}, {1, 0}};
        for (int[] call : none) {
            x.act(0, 3, 5);
            due("41: no such", x.act(call[0], call[1], 5), 0);
            due("42: no trace", x.trace(0), -3);
            due("43: no trace", x.many(9), 0);
        }
    }

    private static void counts() {
        OneIsTwo x = everyKind();
        due("43: below", x.many(-1), -1);
        due("43: above", x.many(11), -1);
        x.deed(0);
        x.wed(0, 1);
        Check.law(x, "owes all;owes all;owes all;");
        x.feed(0, 5);
        x.prove(0);
        x.shelf(0, 0, 0);
        x.act(0, 1, 1);
        int[] want = {7, 4, 7, 2, 1, 1, 3, 1, 5, 3, 40};
        for (int what = 0; what <= 10; what++) due("43: " + what, x.many(what), want[what]);
    }
}
