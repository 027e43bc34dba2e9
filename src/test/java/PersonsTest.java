/** Promises 1 to 10. */
public final class PersonsTest {
    private static final Check CHECK = new Check("PersonsTest");

    private static void due(String call, long got, long want) {
        CHECK.due(call, got, want);
    }

    public static void main(String[] args) {
        aNewObject();
        laterGoesOn();
        bornAndRoom();
        copiesCome();
        asleepOnesWake();
        twoAreJoined();
        onesAreEnded();
        whatAPersonIs();
        voidByTheLaw();
        kinAndCommon();
        CHECK.close();
    }

    private static void aNewObject() {
        OneIsTwo x = new OneIsTwo();
        for (int what = 0; what <= 10; what++) due("1: many(" + what + ")", x.many(what), 0);
        due("1: again", x.again(), OneIsTwo.NONE);
        due("1: seed", x.seed(5), 1);
        due("1: row", x.row(0, 0), -9);
        due("1: trace", x.trace(0), -3);
        for (int i = 0; i < 4; i++) due("1: sheet missing", x.put(i, 0, 1), -11);
        for (int i = 0; i < 4; i++) due("1: shelf empty", x.taken(i, 0), -11);
    }

    private static void laterGoesOn() {
        OneIsTwo x = new OneIsTwo();
        due("2: later(0)", x.later(0), -1);
        due("2: later(-5)", x.later(-5), -1);
        due("2: later(100)", x.later(100), -1);
        due("2: later(min)", x.later(Integer.MIN_VALUE), -1);
        due("2: later(max)", x.later(Integer.MAX_VALUE), -1);
        due("2: later(1)", x.later(1), 1);
        for (int i = 1; i <= 10; i++) due("2: later(99)", x.later(99), 1 + 99 * i);
        due("2: later(9)", x.later(9), -2);
        due("2: many(10)", x.many(10), 991);
        due("2: later(8)", x.later(8), 999);
        due("2: later(1) at the end", x.later(1), -2);
        due("2: BAD ahead of FULL", x.later(100), -1);
        due("2: many(10)", x.many(10), 999);
    }

    private static void bornAndRoom() {
        OneIsTwo x = new OneIsTwo();
        for (int i = 0; i < 12; i++) due("3: born", x.born(), i);
        due("3: no room", x.born(), -2);
        due("3: persons", x.many(0), 12);
        due("3: events", x.many(2), 12);
        due("4: no room", x.copied(0, 2, 0, 0, true), -2);
        due("6: no room for persons", x.join(0, 1), -2);
        for (int i = 0; i < 6; i++) due("7: end", x.end(i), 11 - i);
        due("7: no room for events", x.end(6), -2);
        due("7: still awake", x.many(1), 6);
        due("7: STATE ahead of FULL", x.end(0), -4);
        due("4: STATE ahead of FULL", x.copied(0, 2, 0, 0, true), -4);
        due("6: STATE ahead of FULL", x.join(0, 1), -4);

        OneIsTwo y = new OneIsTwo();
        y.born();
        for (int i = 0; i < 8; i++) {
            y.copied(0, 2, 0, 0, true);
            y.end(i + 1);
        }
        due("3: one event left", y.many(2), 17);
        due("4: sleeps", y.copied(0, 5, 0, 0, true), 9);
        due("3: no room for events", y.born(), -2);
        due("5: no room for events", y.wake(9), -2);
        due("5: STATE ahead of FULL", y.wake(0), -4);
        due("3: persons", y.many(0), 10);
    }

    private static void copiesCome() {
        OneIsTwo x = new OneIsTwo();
        due("4: nobody there", x.copied(0, 2, 1, 0, true), -1);
        x.born();
        x.later(3);
        due("4: below", x.copied(-1, 2, 1, 0, true), -1);
        for (int kind : new int[] {-1, 0, 1, 4, 6, 7}) due("4: kind " + kind, x.copied(0, kind, 1, 0, true), -1);
        due("4: part 0", x.copied(0, 3, 0, 0, true), -1);
        due("4: part 4", x.copied(0, 3, 4, 0, true), -1);
        due("4: moment below", x.copied(0, 2, 1, -1, true), -1);
        due("4: moment to come", x.copied(0, 2, 1, 4, true), -1);
        due("4: nothing came", x.many(0), 1);
        due("4: moment today", x.copied(0, 2, 99, 3, true), 1);
        due("4: part of a copy", x.person(1, 5), 2);
        due("4: half", x.copied(0, 3, 3, 0, true), 2);
        due("4: part of a half", x.person(2, 5), 3);
        due("4: asleep", x.copied(0, 5, -7, 1, false), 3);
        due("4: part of one asleep", x.person(3, 5), 2);
        due("4: from one asleep", x.copied(3, 2, 1, 0, true), -4);
        due("4: BAD ahead of STATE", x.copied(3, 2, 1, 4, true), -1);
        due("4: of a copy", x.copied(1, 3, 1, 2, true), 4);
        due("4: events", x.many(2), 5);
        due("4: awake", x.many(1), 4);
    }

    private static void asleepOnesWake() {
        OneIsTwo x = new OneIsTwo();
        due("5: nobody", x.wake(0), -1);
        x.born();
        x.copied(0, 5, 1, 0, true);
        due("5: below", x.wake(-1), -1);
        due("5: a first", x.wake(0), -4);
        due("5: awake", x.many(1), 1);
        due("5: wakes", x.wake(1), 1);
        due("5: awake", x.many(1), 2);
        due("5: events", x.many(2), 3);
        due("5: kind", x.person(1, 0), 2);
        due("5: again", x.wake(1), -4);
        x.copied(0, 5, 1, 0, true);
        x.end(2);
        due("5: ended", x.wake(2), -4);
    }

    private static void twoAreJoined() {
        OneIsTwo x = new OneIsTwo();
        x.born();
        x.born();
        due("6: below", x.join(-1, 0), -1);
        due("6: nobody", x.join(0, 2), -1);
        due("6: one and the same", x.join(1, 1), -1);
        x.copied(0, 5, 1, 0, true);
        due("6: asleep", x.join(0, 2), -4);
        due("6: asleep first", x.join(2, 0), -4);
        due("6: comes", x.join(1, 0), 3);
        due("6: from the first one told", x.person(3, 1), 1);
        due("6: from the other one", x.person(3, 2), 0);
        due("6: kind", x.person(3, 0), 4);
        due("6: ended", x.person(0, 0), 6);
        due("6: ended", x.person(1, 0), 6);
        due("6: into", x.person(0, 6), 3);
        due("6: into", x.person(1, 6), 3);
        due("6: into nobody", x.person(3, 6), -9);
        due("6: root", x.person(3, 8), 1);
        due("6: awake", x.many(1), 1);
        due("6: events", x.many(2), 4);
        due("6: the same again", x.join(1, 0), -4);
        due("6: one and the same, ended", x.join(1, 1), -1);
    }

    private static void onesAreEnded() {
        OneIsTwo x = new OneIsTwo();
        due("7: nobody", x.end(0), -1);
        x.born();
        x.born();
        x.copied(0, 5, 1, 0, true);
        due("7: below", x.end(-1), -1);
        due("7: asleep", x.end(2), 2);
        due("7: kind", x.person(2, 0), 6);
        due("7: ended", x.end(2), -4);
        due("7: a first", x.end(0), 1);
        due("7: into nobody", x.person(0, 6), -9);
        due("7: the last", x.end(1), 0);
        due("7: events", x.many(2), 6);
    }

    private static void whatAPersonIs() {
        OneIsTwo x = new OneIsTwo();
        due("8: nobody", x.person(0, 0), -1);
        x.later(7);
        x.born();
        x.later(2);
        x.copied(0, 3, 1, 8, true);
        int[] first = {1, -9, -9, 7, -9, -9, -9, 0, 0};
        int[] half = {3, 0, -9, 9, 8, 1, -9, 0, 0};
        for (int what = 0; what <= 8; what++) {
            due("8: first " + what, x.person(0, what), first[what]);
            due("8: half " + what, x.person(1, what), half[what]);
        }
        due("8: what below", x.person(0, -1), -1);
        due("8: what above", x.person(0, 9), -1);
        due("8: p below", x.person(-1, 0), -1);
        x.born();
        x.copied(1, 5, 1, 0, true);
        x.join(2, 1);
        int[] asleep = {5, 1, -9, 9, 0, 2, -9, 0, 0};
        int[] joined = {4, 2, 1, 9, -9, -9, -9, 0, 2};
        for (int what = 0; what <= 8; what++) {
            due("8: asleep " + what, x.person(3, what), asleep[what]);
            due("8: joined " + what, x.person(4, what), joined[what]);
        }
    }

    private static void voidByTheLaw() {
        OneIsTwo x = new OneIsTwo();
        x.born();
        x.later(6);
        x.copied(0, 2, 1, 2, false);
        x.copied(0, 2, 1, 2, true);
        x.later(4);
        x.copied(0, 2, 1, 2, false);
        x.copied(0, 5, 1, 2, false);
        due("8: free without a law", x.person(1, 7), 0);
        Check.law(x, "leave needed;");
        due("8: without leave", x.person(1, 7), 1);
        due("8: with leave", x.person(2, 7), 0);
        due("8: a first", x.person(0, 7), 0);
        Check.law(x, "leave needed if day = 6;");
        due("8: day of the event", x.person(1, 7), 1);
        due("8: day of the event", x.person(3, 7), 0);
        Check.law(x, "leave needed if gap = 8;");
        due("8: gap of the event", x.person(1, 7), 0);
        due("8: gap of the event", x.person(3, 7), 1);
        Check.law(x, "leave needed if made = 3;");
        due("8: made is the number", x.person(1, 7), 0);
        due("8: made is the number", x.person(3, 7), 1);
        Check.law(x, "leave needed if kind = 5;");
        due("8: kind told with", x.person(4, 7), 1);
        x.wake(4);
        due("8: kind told with, awake", x.person(4, 7), 1);
        x.end(4);
        due("8: kind told with, ended", x.person(4, 7), 1);
        due("8: kind told with", x.person(3, 7), 0);
        Check.law(x, "leave needed if amount = 0 and held = 0;");
        due("8: about no claim", x.person(1, 7), 1);
    }

    private static void kinAndCommon() {
        OneIsTwo x = new OneIsTwo();
        due("9: nobody", x.kin(0), -1);
        due("10: nobody", x.common(0, 0), -1);
        x.born();
        x.born();
        x.copied(0, 2, 1, 0, true);
        x.copied(2, 2, 1, 0, true);
        x.join(1, 2);
        x.copied(4, 2, 1, 0, true);
        due("9: a first", x.kin(0), 0b111101);
        due("9: another first", x.kin(1), 0b110010);
        due("9: a copy", x.kin(2), 0b111100);
        due("9: himself alone", x.kin(3), 0b001000);
        due("9: a joined one", x.kin(4), 0b110000);
        due("9: below", x.kin(-1), -1);
        due("9: above", x.kin(6), -1);
        due("10: two copies", x.common(3, 5), 2);
        due("10: one of the other", x.common(5, 4), 4);
        due("10: one and the same", x.common(3, 3), 3);
        due("10: none", x.common(1, 3), -9);
        due("10: by the other one of both", x.common(0, 5), 0);
        due("10: below", x.common(-1, 0), -1);
        due("10: above", x.common(0, 6), -1);

        OneIsTwo y = new OneIsTwo();
        y.born();
        y.born();
        y.copied(1, 2, 1, 0, true);
        y.copied(0, 2, 1, 0, true);
        due("10: what stands between is of another", y.common(3, 1), -9);
        due("9: what stands between is of another", y.kin(1), 0b0110);
        y.join(1, 0);
        due("9: the other one is the very first", y.kin(0), 0b11001);
        due("10: the other one is the very first", y.common(3, 4), 0);
    }
}
