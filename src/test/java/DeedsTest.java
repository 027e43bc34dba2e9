/** Promises 18 to 26. */
public final class DeedsTest {
    private static final Check CHECK = new Check("DeedsTest");

    private static void due(String call, long got, long want) {
        CHECK.due(call, got, want);
    }

    public static void main(String[] args) {
        deedsCome();
        whoRemembers();
        whoAnswers();
        weddingsCome();
        copiesOnSides();
        sidesGoOn();
        sleepersOnSides();
        whoVotes();
        votesByRoot();
        leastApart();
        theFewest();
        CHECK.close();
    }

    private static void deedsCome() {
        OneIsTwo x = new OneIsTwo();
        due("18: nobody", x.deed(0), -1);
        x.born();
        x.copied(0, 5, 1, 0, true);
        due("18: below", x.deed(-1), -1);
        due("18: asleep", x.deed(1), -4);
        for (int i = 0; i < 10; i++) due("18: deed", x.deed(0), i);
        due("18: full", x.deed(0), -2);
        due("18: STATE ahead of FULL", x.deed(1), -4);
        due("18: many", x.many(4), 10);
        x.end(0);
        due("18: ended", x.deed(0), -4);
    }

    private static void whoRemembers() {
        OneIsTwo x = new OneIsTwo();
        x.born();
        due("19: no deed", x.remembers(0, 0), -1);
        x.later(2);
        x.deed(0);
        x.deed(0);
        x.later(2);
        x.deed(0);
        x.copied(0, 2, 1, 2, true);
        x.copied(0, 3, 1, 4, true);
        x.copied(0, 5, 1, 1, true);
        due("19: nobody", x.remembers(4, 0), -1);
        due("19: below", x.remembers(-1, 0), -1);
        due("19: deed below", x.remembers(0, -1), -1);
        due("19: deed above", x.remembers(0, 3), -1);
        int[][] known = {{1, 1, 1}, {1, 1, 0}, {1, 0, 1}, {0, 0, 0}};
        for (int p = 0; p < 4; p++) {
            for (int d = 0; d < 3; d++) due("19: " + p + " of " + d, x.remembers(p, d), known[p][d]);
        }
        x.deed(2);
        due("19: what a half did himself", x.remembers(2, 3), 1);
        due("19: and his maker not", x.remembers(0, 3), 0);
        x.copied(2, 2, 1, 4, true);
        due("19: of a half", x.remembers(4, 3), 1);
        due("19: of a half", x.remembers(4, 1), 0);
        x.copied(1, 2, 1, 4, true);
        due("19: only what he came from remembers", x.remembers(5, 2), 0);
        x.join(1, 2);
        int[] both = {1, 1, 1, 1};
        for (int d = 0; d < 4; d++) due("19: joined, of " + d, x.remembers(6, d), both[d]);
        due("19: ended ones, too", x.remembers(1, 1), 1);
        x.wake(3);
        due("19: awake", x.remembers(3, 0), 0);
        x.deed(0);
        due("19: done on the day of his moment, behind him", x.remembers(2, 4), 1);
        due("19: done on a day behind his moment", x.remembers(1, 4), 0);
    }

    private static void whoAnswers() {
        OneIsTwo x = new OneIsTwo();
        due("20: none", x.blame(0), -1);
        x.born();
        x.deed(0);
        x.copied(0, 2, 1, 0, true);
        x.copied(0, 2, 1, 0, false);
        x.copied(0, 5, 1, 0, true);
        x.deed(1);
        due("20: below", x.blame(-1), -1);
        due("20: body", x.blame(0), 0b1);
        due("20: body", x.blame(1), 0b10);
        Check.law(x, "blame memory;");
        due("20: memory", x.blame(0), 0b111);
        due("20: one who doesn't remember", x.blame(1), 0b10);
        Check.law(x, "blame memory; leave needed;");
        due("20: memory, not the void one", x.blame(0), 0b11);
        Check.law(x, "blame root;");
        due("20: root", x.blame(1), 0b1);
        Check.law(x, "blame root if kind = 2 and made = 4 and day = 0;");
        due("20: about who did it", x.blame(1), 0b1);
        Check.law(x, "blame root if kind = 2; blame memory if kind = 1;");
        due("20: about who did it", x.blame(0), 0b111);
        x.join(1, 2);
        Check.law(x, "");
        due("20: into whom", x.blame(1), 0b10000);
        x.join(4, 0);
        due("20: and so on", x.blame(1), 0b100000);
        due("20: and so on", x.blame(0), 0b100000);
        Check.law(x, "blame root;");
        due("20: his root is ended", x.blame(1), 0);
        x.end(5);
        Check.law(x, "");
        due("20: nobody", x.blame(1), 0);
        Check.law(x, "blame memory if kind = 6;");
        due("20: nobody awake", x.blame(1), 0);
        x.wake(3);
        due("20: one is awake", x.blame(0), 0b1000);
    }

    private static void weddingsCome() {
        OneIsTwo x = new OneIsTwo();
        due("21: nobody", x.wed(0, 1), -1);
        due("22: nobody", x.wedTo(0), -1);
        for (int i = 0; i < 6; i++) x.born();
        x.copied(0, 5, 1, 0, true);
        due("21: below", x.wed(-1, 0), -1);
        due("21: above", x.wed(0, 7), -1);
        due("21: one and the same", x.wed(0, 0), -1);
        due("21: asleep", x.wed(0, 6), -4);
        due("21: asleep", x.wed(6, 0), -4);
        due("21: wed", x.wed(0, 1), 0);
        due("21: wed already", x.wed(0, 1), -4);
        due("21: wed already", x.wed(1, 0), -4);
        due("21: to a third", x.wed(0, 2), 1);
        due("21: both to others", x.wed(1, 2), 2);
        due("22: all", x.wedTo(0), 0b110);
        due("22: all", x.wedTo(1), 0b101);
        due("22: nobody", x.wedTo(5), 0);
        due("22: below", x.wedTo(-1), -1);
        due("22: above", x.wedTo(7), -1);
        for (int i = 3; i < 8; i++) due("21: wed", x.wed(i % 3, 3 + i / 3), i);
        due("21: full", x.wed(0, 3), -2);
        due("21: STATE ahead of FULL", x.wed(0, 1), -4);
        due("21: many", x.many(5), 8);
    }

    private static OneIsTwo wedded(String law) {
        OneIsTwo x = new OneIsTwo();
        x.born();
        x.born();
        x.later(5);
        x.copied(0, 2, 1, 5, true);
        x.wed(0, 1);
        Check.law(x, law);
        return x;
    }

    private static void copiesOnSides() {
        String[] laws = {"", "wed copy;", "wed both;", "wed none;"};
        int[][] wedTo = {{0b10, 0b1, 0, 0}, {0, 0b1000, 0, 0b10}, {0b10, 0b1001, 0, 0b10}, {0, 0, 0, 0}};
        for (int i = 0; i < laws.length; i++) {
            OneIsTwo x = wedded(laws[i] + "leave needed;");
            x.copied(0, 3, 1, 5, true);
            for (int p = 0; p < 4; p++) due("22: '" + laws[i] + "', " + p, x.wedTo(p), wedTo[i][p]);
            x = wedded(laws[i] + "leave needed;");
            x.copied(0, 3, 1, 4, true);
            due("22: moment ahead of the day", x.wedTo(1), 1);
            x = wedded(laws[i] + "leave needed;");
            x.copied(0, 3, 1, 5, false);
            due("22: void", x.wedTo(1), 1);
            x = wedded(laws[i]);
            x.copied(2, 2, 1, 5, true);
            due("22: of one on no side", x.wedTo(1), 1);
        }
        OneIsTwo x = wedded("wed both if day = 5 and made = 3 and gap = 0 and kind = 2 and amount = 0 and held = 0;");
        x.claim(0, 0, 9);
        x.copied(1, 2, 1, 5, true);
        due("22: facts of the event, the other side", x.wedTo(0), 0b1010);
        x.later(1);
        due("22: they stay", x.wedTo(0), 0b1010);
        due("21: wed already by the other side", x.wed(3, 0), -4);
        due("21: two on one side", x.wed(1, 3), 1);
        due("22: on a side and on another", x.wedTo(3), 0b11);
    }

    private static void sidesGoOn() {
        OneIsTwo x = wedded("wed both;");
        x.copied(0, 2, 1, 5, true);
        x.join(0, 3);
        due("22: joined on one side", x.wedTo(1), 0b10000);
        x.join(4, 1);
        due("22: joined over both sides: but himself", x.wedTo(5), 0);
        x.copied(5, 2, 1, 5, true);
        due("22: on both sides", x.wedTo(5), 0b1000000);
        due("22: on both sides", x.wedTo(6), 0b100000);
        x.end(5);
        due("22: an ended one", x.wedTo(6), 0);
        due("22: an ended one", x.wedTo(5), 0);

        OneIsTwo y = wedded("");
        y.join(2, 1);
        due("22: joined with one on a side", y.wedTo(0), 0b1000);
        due("22: himself no more", y.wedTo(1), 0);
        y.end(0);
        due("22: ended", y.wedTo(3), 0);
        due("21: ended", y.wed(0, 3), -4);
    }

    private static void sleepersOnSides() {
        OneIsTwo x = wedded("wed both;");
        x.copied(0, 5, 1, 5, true);
        due("22: rests", x.wedTo(1), 0b1);
        x.wake(3);
        due("22: wakes", x.wedTo(1), 0b1001);
        Check.law(x, "wed both; sleep bears;");
        due("22: bears", x.wedTo(1), 0b1001);
        x.copied(0, 5, 1, 5, true);
        due("22: asleep and there", x.wedTo(1), 0b11001);
        x.end(4);
        due("22: ended asleep", x.wedTo(1), 0b1001);
        Check.law(x, "wed both if day > 5;");
        x.copied(0, 5, 1, 5, true);
        x.later(1);
        x.wake(5);
        due("22: by the event of waking", x.wedTo(1), 0b100001);
    }

    private static void whoVotes() {
        OneIsTwo x = new OneIsTwo();
        due("23: nobody", x.votes(0, 0), -1);
        x.born();
        x.born();
        x.copied(0, 2, 1, 0, true);
        x.copied(0, 2, 1, 0, false);
        x.copied(0, 5, 1, 0, true);
        due("23: below", x.votes(-1, 0), -1);
        due("23: above", x.votes(5, 0), -1);
        due("23: part", x.votes(0, 2), -1);
        due("23: part below", x.votes(0, -1), -1);
        for (int p = 0; p < 4; p++) due("23: each", x.votes(p, 0), 1);
        due("23: each", x.votes(0, 1), 1);
        due("23: asleep", x.votes(4, 0), 0);
        due("23: asleep, below", x.votes(4, 1), 1);
        Check.law(x, "vote root;");
        int[] root = {1, 1, 0, 0, 0};
        for (int p = 0; p < 5; p++) due("23: root " + p, x.votes(p, 0), root[p]);
        Check.law(x, "vote share;");
        int[] below = {3, 1, 3, 3, 1};
        for (int p = 0; p < 5; p++) due("23: share " + p, x.votes(p, 1), below[p]);
        Check.law(x, "vote share; leave needed;");
        due("23: the void one has none", x.votes(3, 0), 0);
        due("23: nor counts", x.votes(0, 1), 2);
        Check.law(x, "vote root if kind = 2 and made = 5;");
        due("23: the law about him", x.votes(0, 0), 1);
        due("23: the law about him", x.votes(2, 0), 0);
        x.end(0);
        due("23: ended", x.votes(0, 0), 0);
        due("23: the least now", x.votes(2, 0), 1);
        due("23: not the least", x.votes(3, 0), 0);
        Check.law(x, "leave needed; vote root;");
        x.end(2);
        due("23: void", x.votes(3, 0), 0);
        x.wake(4);
        due("23: the least but for the void one", x.votes(4, 0), 1);
    }

    private static void votesByRoot() {
        OneIsTwo x = new OneIsTwo();
        due("24: nobody", x.rooted(0), -1);
        x.born();
        x.born();
        x.copied(0, 2, 1, 0, true);
        x.copied(2, 3, 1, 0, true);
        due("24: below", x.rooted(-1), -1);
        due("24: a copy", x.rooted(2), -3);
        due("24: each", x.rooted(0), 3);
        due("24: each", x.rooted(1), 1);
        Check.law(x, "vote share;");
        due("24: share", x.rooted(0), 1);
        Check.law(x, "vote share if kind = 2 or kind = 3;");
        due("24: two thirds are cut", x.rooted(0), 1);
        Check.law(x, "vote share if kind = 2; vote root if kind = 3;");
        due("24: a third is cut", x.rooted(0), 1);
        x.join(2, 1);
        due("24: a joined one", x.rooted(4), -3);
        due("24: joined, root of the first one told", x.rooted(0), 2);
        due("24: none left", x.rooted(1), 0);
        x.end(0);
        due("24: an ended first", x.rooted(0), 2);
        Check.law(x, "vote share; vote root if kind = 4;");
        due("24: a half is cut", x.rooted(0), 0);
    }

    private static void leastApart() {
        OneIsTwo x = new OneIsTwo();
        due("25: nobody", x.apart(0, 0), -1);
        x.born();
        x.deed(0);
        x.deed(0);
        x.copied(0, 3, 1, 0, true);
        x.copied(0, 2, 1, 0, true);
        x.later(1);
        x.deed(2);
        due("25: below", x.apart(-1, 0), -1);
        due("25: above", x.apart(0, 3), -1);
        due("25: a half", x.apart(0, 1), 1);
        due("25: a half", x.apart(1, 0), 1);
        due("25: what he did", x.apart(0, 2), 2);
        due("25: the least", x.apart(1, 2), 1);
        due("25: himself", x.apart(2, 2), -9);
        x.copied(0, 2, 1, 0, true);
        due("25: none", x.apart(0, 3), -9);
        x.end(1);
        due("25: ended ones, too", x.apart(0, 1), 1);
    }

    private static void theFewest() {
        OneIsTwo x = new OneIsTwo();
        due("26: below", x.fewest(-1), -1);
        due("26: above", x.fewest(2), -1);
        due("26: nobody", x.fewest(0), 0);
        due("26: nobody", x.fewest(1), 0);
        for (int i = 0; i < 4; i++) x.born();
        due("26: no deeds", x.fewest(0), 0);
        x.deed(0);
        due("26: one, others alike", x.fewest(1), 1);
        x.deed(1);
        x.deed(2);
        due("26: two of three would not do", x.fewest(1), 0b111);
        x.deed(3);
        due("26: any three of four: the least as bits", x.fewest(1), 0b111);
        due("26: how many", x.fewest(0), 3);
        x.end(3);
        due("26: three left", x.fewest(1), 0b11);
        x.end(2);
        due("26: two left", x.fewest(1), 0b1);
        x.copied(0, 5, 1, 0, true);
        due("26: alike to whom he came from", x.fewest(1), 0b1);
        x.later(1);
        x.deed(0);
        due("26: asleep ones count", x.fewest(1), 0b10001);
        x.end(1);
        due("26: the least that does", x.fewest(1), 0b10000);

        OneIsTwo y = new OneIsTwo();
        y.born();
        for (int i = 0; i < 10; i++) y.deed(0);
        y.copied(0, 3, 1, 0, true);
        due("26: a half lacks the odd ones", y.fewest(1), 0b10);
        y.born();
        due("26: one more who knows nothing", y.fewest(1), 0b11);
        y.copied(1, 2, 1, 0, true);
        y.later(1);
        y.end(1);
        y.end(2);
        due("26: one as the half was", y.fewest(1), 0b10);
    }
}
