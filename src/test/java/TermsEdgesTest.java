/** The sentences of the Terms and of the public face that name a boundary case and belong to no promise alone. */
public final class TermsEdgesTest {
    private static final Check CHECK = new Check("TermsEdgesTest");

    private static void due(String call, long got, long want) {
        CHECK.due(call, got, want);
    }

    public static void main(String[] args) {
        everyPromiseHasASentence();
        constants();
        untilTheLastCall();
        whichRefusal();
        onesOfOthers();
        CHECK.close();
    }

    private static void everyPromiseHasASentence() {
        for (int promise = 1; promise <= Document.PROMISES; promise++) {
            due("tests of promise " + promise, Document.isNamedByATest(promise) ? 1 : 0, 1);
        }
    }

    private static void constants() {
        CHECK.sentence(Document.TERMS, "public static final int BAD = -1, FULL = -2, NONE = -3, STATE = -4;");
        due("BAD", OneIsTwo.BAD, -1);
        due("FULL", OneIsTwo.FULL, -2);
        due("NONE", OneIsTwo.NONE, -3);
        due("STATE", OneIsTwo.STATE, -4);
    }

    private static void untilTheLastCall() {
        CHECK.sentence(Document.TERMS, "An object is used for at most 512 calls after it has been made");
        OneIsTwo x = Made.withTwoFirsts();
        for (int call = 3; call < 512; call++) {
            due("call " + call, call % 2 == 0 ? x.keep() : x.again(), call == 3 ? -3 : 1);
        }
        due("the last call", x.many(0), 2);
    }

    private static void refused(String call, Look.Made made, Look.Asked asked, long want) {
        CHECK.refused(call, made, asked, want);
    }

    /** 12 PERSONS (2 asleep, 4 ended), 18 EVENTS, 12 CLAIMS, 10 DEEDS, 8 WEDDINGS, DAY 999, 200 bytes. */
    private static OneIsTwo full() {
        OneIsTwo x = Made.withTwelve();
        for (int p = 9; p < 12; p++) {
            x.wed(0, p);
            x.wed(p, p == 11 ? 9 : p + 1);
        }
        for (int p = 7; p < 12; p++) x.end(p);
        for (int claim = 3; claim < 12; claim++) x.claim(0, 0, 5);
        for (int deed = 3; deed < 10; deed++) x.deed(0);
        for (int day = 4; day < 994; day += 99) x.later(99);
        x.later(5);
        for (int bytes = 11; bytes < 195; bytes += 8) x.feed(0x2020202020202020L, 8);
        x.feed(0x2020202020L, 5);
        return x;
    }

    private static void whichRefusal() {
        int[] most = {12, 3, 18, 12, 10, 8, 3, 2, 200, 4, 999};
        for (int what = 0; what <= 10; what++) due("full, many(" + what + ")", full().many(what), most[what]);
        CHECK.sentence(Document.TERMS,
                "of several BAD ahead, then by a call's own line, elsewhere the first named here");
        refused("later: BAD, FULL", TermsEdgesTest::full, x -> x.later(100), -1);
        refused("later: FULL", TermsEdgesTest::full, x -> x.later(1), -2);
        refused("born: FULL", TermsEdgesTest::full, x -> x.born(), -2);
        refused("copied: BAD, STATE, FULL", TermsEdgesTest::full, x -> x.copied(2, 1, 1, 0, true), -1);
        refused("copied: STATE, FULL", TermsEdgesTest::full, x -> x.copied(2, 2, 1, 0, true), -4);
        refused("copied: FULL", TermsEdgesTest::full, x -> x.copied(0, 2, 1, 0, true), -2);
        refused("wake: BAD, FULL", TermsEdgesTest::full, x -> x.wake(12), -1);
        refused("wake: STATE, FULL", TermsEdgesTest::full, x -> x.wake(4), -4);
        refused("wake: FULL", TermsEdgesTest::full, x -> x.wake(2), -2);
        refused("join: BAD, STATE, FULL", TermsEdgesTest::full, x -> x.join(4, 4), -1);
        refused("join: STATE, FULL", TermsEdgesTest::full, x -> x.join(0, 4), -4);
        refused("join: FULL", TermsEdgesTest::full, x -> x.join(0, 1), -2);
        refused("end: BAD, FULL", TermsEdgesTest::full, x -> x.end(12), -1);
        refused("end: STATE, FULL", TermsEdgesTest::full, x -> x.end(4), -4);
        refused("end: FULL", TermsEdgesTest::full, x -> x.end(0), -2);
        refused("feed: BAD, FULL", TermsEdgesTest::full, x -> x.feed(0, 0), -1);
        refused("feed: FULL", TermsEdgesTest::full, x -> x.feed(0, 1), -2);
        refused("claim: BAD, STATE, FULL", TermsEdgesTest::full, x -> x.claim(0, 4, 0), -1);
        refused("claim: STATE, FULL", TermsEdgesTest::full, x -> x.claim(0, 4, 1), -4);
        refused("claim: FULL", TermsEdgesTest::full, x -> x.claim(0, 0, 1), -2);
        refused("deed: BAD, FULL", TermsEdgesTest::full, x -> x.deed(12), -1);
        refused("deed: STATE, FULL", TermsEdgesTest::full, x -> x.deed(4), -4);
        refused("deed: FULL", TermsEdgesTest::full, x -> x.deed(0), -2);
        refused("wed: BAD, STATE, FULL", TermsEdgesTest::full, x -> x.wed(4, 4), -1);
        refused("wed: STATE, FULL", TermsEdgesTest::full, x -> x.wed(0, 4), -4);
        refused("wed: WED already, FULL", TermsEdgesTest::full, x -> x.wed(0, 1), -4);
        refused("wed: FULL", TermsEdgesTest::full, x -> x.wed(1, 3), -2);
        refused("lender: BAD, STATE, FULL", TermsEdgesTest::full, x -> x.lender(4, 5, 0), -1);
        refused("lender: STATE, FULL", TermsEdgesTest::full, x -> x.lender(4, 4, 0), -4);
        refused("lender: FULL", TermsEdgesTest::full, x -> x.lender(0, 4, 0), -2);
        refused("pays: BAD, STATE", TermsEdgesTest::full, x -> x.pays(4, 2), -1);
        refused("pays: STATE", TermsEdgesTest::full, x -> x.pays(4, 1), -4);
        refused("rooted: BAD", TermsEdgesTest::full, x -> x.rooted(12), -1);
        refused("rooted: NONE", TermsEdgesTest::full, x -> x.rooted(4), -3);
        refused("sheet: BAD, -14", TermsEdgesTest::full, x -> x.sheet(0, 5, -1), -1);
        refused("put: BAD, -12", TermsEdgesTest::full, x -> x.put(4, 40, 1), -1);
        refused("put: -11, -12", TermsEdgesTest::full, x -> x.put(3, 40, 1), -11);
        refused("item: BAD, -12", TermsEdgesTest::full, x -> x.item(0, 5, 40), -1);
        refused("item: -13, -12", TermsEdgesTest::full, x -> x.item(0, 2, 40), -13);
        refused("item: -11, -12", TermsEdgesTest::full, x -> x.item(3, 2, 40), -11);
        refused("taken: BAD, -11", TermsEdgesTest::full, x -> x.taken(3, 8), -1);
        refused("taken: -11", TermsEdgesTest::full, x -> x.taken(3, 10), -11);
        refused("debts: BAD, -11", TermsEdgesTest::full, x -> x.debts(0, 3, 0, 13), -1);
        refused("debts: -11, -12", TermsEdgesTest::full, x -> x.debts(0, 3, 40, 1), -11);
        refused("debts: FULL is none of its own", TermsEdgesTest::full, x -> x.debts(0, 0, 0, 2), 0);
    }

    private static void onesOfOthers() {
        CHECK.sentence(Document.TERMS, "of a first himself; of others the ROOT of whom he came FROM (the first one)");
        OneIsTwo x = new OneIsTwo();
        x.born();
        x.born();
        x.join(1, 0);
        for (int p = 3; p < 12; p++) x.copied(p - 1, 2, 1, 0, true);
        int[] roots = {0, 1, 1, 1, 1, 1, 1, 1, 1, 1, 1, 1};
        for (int p = 0; p < 12; p++) due("ROOT of " + p, x.person(p, 8), roots[p]);
        CHECK.sentence(Document.TERMS, "if that is himself, or one of those he came FROM is OF that one");
        due("all but himself and the other one of both", x.kin(1), 0xffe);
        due("all but the first one of both", x.kin(0), 0xffd);
        due("the last of all is OF himself", x.kin(11), 0x800);
    }
}
