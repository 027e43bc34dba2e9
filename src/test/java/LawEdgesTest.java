/** The sentences of promises 11 to 13, and of the Terms under them, that name a boundary case. */
public final class LawEdgesTest {
    private static final Check CHECK = new Check("LawEdgesTest");
    private static final int MIN = Integer.MIN_VALUE, MAX = Integer.MAX_VALUE;

    private static void due(String call, long got, long want) {
        CHECK.due(call, got, want);
    }

    private static void refused(String call, Look.Made made, Look.Asked asked, long want) {
        CHECK.refused(call, made, asked, want);
    }

    public static void main(String[] args) {
        feed();
        bytesInOrder();
        usedUp();
        clauses();
        namesAndNumbers();
        brackets();
        faultsInClauses();
        faultsInConds();
        ends();
        says();
        whichClauseCounts();
        signs();
        CHECK.close();
    }

    private static OneIsTwo fed(int n) {
        OneIsTwo x = new OneIsTwo();
        x.born();
        for (int left = n; left > 0; left -= 8) x.feed(0x2020202020202020L, Math.min(8, left));
        return x;
    }

    private static void feed() {
        CHECK.sentence(11, "n bytes (1 to 8) come to THE TAPE");
        for (int n : new int[] {MIN, -1, 0, 9, 10, MAX}) {
            refused("feed(.., " + n + ")", Made::rich, x -> x.feed(-1, n), -1);
        }
        for (int n = 1; n <= 8; n++) due("feed(.., " + n + ")", fed(0).feed(0, n), n);

        CHECK.sentence(11, "FULL: more than 200.");
        CHECK.sentence(Document.TERMS, "THE TAPE takes bytes, 200 at most");
        due("192 and 8", fed(192).feed(0, 8), 200);
        refused("193 and 8", () -> fed(193), x -> x.feed(0, 8), -2);
        due("193 and 7", fed(193).feed(0, 7), 200);
        due("199 and 1", fed(199).feed(0, 1), 200);
        refused("199 and 2", () -> fed(199), x -> x.feed(0, 2), -2);
        refused("200 and 1", () -> fed(200), x -> x.feed(0, 1), -2);
        refused("BAD ahead of FULL", () -> fed(200), x -> x.feed(0, 9), -1);
        refused("BAD ahead of FULL", () -> fed(200), x -> x.feed(0, 0), -1);
    }

    private static void bytesInOrder() {
        CHECK.sentence(11, "the lowest of eight first");
        OneIsTwo x = fed(0);
        x.feed(0x6c6c6120_7365776fL, 8);
        x.feed(0x7878787878_78783bL, 1);
        due("'owes all;'", x.law(), 1);
        due("all", x.says(0, 0), 3);
        for (int n = 1; n <= 8; n++) {
            OneIsTwo y = fed(0);
            Check.feed(y, "owes all; ".substring(0, 9 - n));
            long rest = 0;
            for (int i = n; i > 0; i--) rest = rest << 8 | "owes all;".charAt(9 - n + i - 1);
            // What stands above the n bytes that are told counts nothing.
            due("the last " + n + " of nine", y.feed(n == 8 ? rest : rest | -1L << 8 * n, n), 9);
            due("the last " + n + " of nine", y.law(), 1);
        }
    }

    private static void usedUp() {
        CHECK.sentence(Document.TERMS, "such a call changes nothing (but that THE TAPE is used up by law())");
        refused("a FAULT, but for THE TAPE", () -> {
            OneIsTwo x = Made.rich();
            x.law();
            Check.law(x, "owes shared;");
            return x;
        }, x -> Check.law(x, "owes all; owes copy; owes"), -125);
        OneIsTwo x = fed(200);
        due("used up by a law", x.law(), 0);
        due("used up by a law", x.many(8), 0);
        due("room again", x.feed(0, 8), 8);
        due("a FAULT", x.law(), -100);
        due("used up by a FAULT", x.many(8), 0);
        due("used up: an empty TAPE", x.law(), 0);

        CHECK.sentence(Document.TERMS, "law() uses it up");
        for (String before : new String[] {"9".repeat(200), "l".repeat(200), " ".repeat(200), ";".repeat(200)}) {
            String[] texts = {"owes all;", "owes al", "owes all", "owes all ", "owes all if 1=1", "owes all if 1",
                "owes", ""};
            int[] wants = {1, -105, -108, -109, -115, -113, -104, 0};
            for (int i = 0; i < texts.length; i++) {
                OneIsTwo y = fed(0);
                Check.law(y, before);
                due("'" + texts[i] + "' where '" + before.charAt(0) + "' was", Check.law(y, texts[i]), wants[i]);
            }
        }
    }

    private static void law(String text, int want) {
        due("'" + text + "'", Check.law(fed(0), text), want);
    }

    /** Behind "owes all if ". */
    private static void cond(String text, int want) {
        law("owes all if " + text, want <= -100 ? want - 12 : want);
    }

    private static void clauses() {
        CHECK.sentence(12, "THE TAPE is THE LAW: how many CLAUSES");
        law("", 0);
        law(" ", 0);
        law("owes all;", 1);
        law("owes all;owes all;", 2);
        OneIsTwo x = fed(0);
        due("a CLAUSE", Check.law(x, "owes all;"), 1);
        due("CLAUSES", x.many(6), 1);
        due("an empty TAPE", x.law(), 0);
        due("CLAUSES", x.many(6), 0);
        due("it counts no more", x.says(0, 0), 0);

        CHECK.sentence(Document.TERMS, "10 CLAUSES at most");
        law("owes all;".repeat(9), 9);
        law("owes all;".repeat(10), 10);
        CHECK.sentence(Document.TERMS, "the KEY of the eleventh CLAUSE");
        law("owes all;".repeat(11), -190);
        law("owes all;".repeat(10) + " owns", -191);
        law("owes all;".repeat(10) + "zzz", -190);
        law("owes all;".repeat(10) + "  ", 10);
        OneIsTwo y = fed(0);
        Check.law(y, "owes all;".repeat(9) + "owes copy;");
        due("the tenth counts", y.says(0, 0), 1);
    }

    private static void namesAndNumbers() {
        CHECK.sentence(Document.TERMS, "NAMES are rows of letters a to z");
        cond("day=1;", 1);
        cond("{ay=1;", -100);
        cond("`ay=1;", -100);
        cond("Day=1;", -100);
        cond("daz=1;", -100);
        law("owes al{;", -105);
        law("owes{all;", -104);
        law("owes`all;", -104);
        law("owes all\u00e1;", -108);

        CHECK.sentence(Document.TERMS, "N are NUMBERS 0 to 9999.");
        cond("0=0;", 1);
        cond("9999=9999;", 1);
        cond("10000=1;", -100);
        cond("-1=1;", -100);
        cond("1=-1;", -102);
        OneIsTwo x = fed(0);
        Check.law(x, "owes all if 9998<9999 and 0<1 and 9999>0099;");
        due("they are as great as they are told", x.says(0, 0), 3);
        Check.law(x, "owes all if 0<0;");
        due("0 is not below 0", x.says(0, 0), 0);
        Check.law(x, "owes all if not 0<0 and not 0000<0 and not 9999<9999 and 0=0 and not 0>0;");
        due("0 is not below 0", x.says(0, 0), 3);

        CHECK.sentence(Document.TERMS, "NUMBERS rows of digits (1 to 4)");
        cond("1=0001;", 1);
        cond("0000=1;", 1);
        cond("1=00001;", -102);
        cond("00000=1;", -100);
        cond("1=/1;", -102);
        cond("1=:1;", -102);
        CHECK.sentence(Document.TERMS, "a NUMBER of more digits");
        cond("day<1234;", 1);
        cond("day<12345;", -104);
        cond("day<123456789012345;", -104);

        CHECK.sentence(Document.TERMS, "both as long as they go");
        cond("days=1;", -100);
        cond("day1=1;", -103);
        cond("1day=1;", -101);
        cond("day=1and 1=1;", 1);
        cond("day=1andday=1;", -105);
        law("owesall;", -100);
        law("owes allif 1=1;", -105);
        CHECK.sentence(Document.TERMS, "blanks (32) part them, and stand elsewhere as one likes.");
        law("  owes   all  ;  ", 1);
        cond(" not ( day = 1 ) ; ", 1);
        cond("12 34=1;", -103);
        law("ow es all;", -100);
        law("owes\u0021all;", -104);
        law("owes\u001fall;", -104);
        law("owes\u00a0all;", -104);
        law("owes\u0000all;", -104);
        law("owes\u00ffall;", -104);
        law("owes all;\n", -109);
    }

    private static void brackets() {
        CHECK.sentence(Document.TERMS, "At most 3 \"(\" are open within one another.");
        cond("(1=1);", 1);
        cond("(((1=1)));", 1);
        cond("((((1=1))));", -103);
        CHECK.sentence(Document.TERMS, "the fourth \"(\"");
        cond("(1=1 and (1=1 or (not (1=1))));", -122);
        cond("(1=1) and (1=1) and (1=1) and (1=1);", 1);
        cond("(((1=1) or (1=1)) or ((1=1)));", 1);
        cond("(((1=1) or ((1=1))));", -112);
        OneIsTwo x = fed(0);
        Check.law(x, "owes all if not (1=1 and not (1=1 and (1=2 or 2=1)));");
        due("three within one another", x.says(0, 0), 0);
        Check.law(x, "owes all if not (1=1 and (1=1 and (1=2 or 2=1)));");
        due("three within one another", x.says(0, 0), 3);
        // On each of the four levels one part waits for its "or" and one for its "and".
        Check.law(x, "owes all if 1=2 or 1=1 and(1=2 or 1=1 and(1=2 or 1=1 and(1=2 or 1=1 and 2=2)));");
        due("as deep as it goes", x.says(0, 0), 3);
        Check.law(x, "owes all if 1=2 or 1=1 and(1=2 or 1=1 and(1=2 or 1=1 and(1=2 or 1=1 and 2=3)));");
        due("as deep as it goes", x.says(0, 0), 0);
    }

    private static void faultsInClauses() {
        CHECK.sentence(12, "-100 less its FAULT.");
        law("x", -100);
        law(" x", -101);
        CHECK.sentence(Document.TERMS,
                "the place (from 0) of the first byte of the first NAME, NUMBER or other byte that can't stand there");
        law(";", -100);
        law("5;", -100);
        law("all;", -100);
        law("if 1=1;", -100);
        law("owe all;", -100);
        law("owesx all;", -100);
        law("sleepy bears;", -100);
        law("owes;", -104);
        law("owes 5;", -105);
        law("owes owes;", -105);
        law("owes (all);", -105);
        law("owes all all;", -109);
        law("owes all 5;", -109);
        law("owes all iff 1=1;", -109);
        law("owes all i 1=1;", -109);
        law("owes all or 1=1;", -109);
        law("owes all);", -108);
        law("owes all;;", -109);
        law("owes all; all", -110);
        CHECK.sentence(Document.TERMS, "a VALUE that its KEY hasn't, too");
        String[] keys = {"owes", "owns", "blame", "vote", "wed", "leave", "sleep"};
        String[][] has = {{"first", "copy", "shared", "all"}, {"first", "copy", "shared", "all"},
            {"body", "memory", "root"}, {"each", "root", "share"}, {"maker", "copy", "both", "none"},
            {"free", "needed"}, {"rests", "bears"}};
        for (int key = 0; key < keys.length; key++) {
            for (String[] row : has) {
                for (String value : row) {
                    boolean fits = java.util.List.of(has[key]).contains(value);
                    law(keys[key] + " " + value + ";", fits ? 1 : -101 - keys[key].length());
                }
            }
            law(keys[key] + " " + has[key][0] + "s;", -101 - keys[key].length());
            law(keys[key] + " " + has[key][0].substring(1) + ";", -101 - keys[key].length());
        }
    }

    private static void faultsInConds() {
        CHECK.sentence(Document.TERMS,
                "COND: ALL { or ALL } ALL: ONE { and ONE } ONE: { not } ( VALUE SIGN VALUE | \"(\" COND \")\" )");
        cond("1=1;", 1);
        cond("not 1=1;", 1);
        cond("not not not 1=1;", 1);
        cond("1=1 or 1=1 or 1=1;", 1);
        cond("1=1 and 1=1 and 1=1;", 1);
        cond(";", -100);
        cond("or 1=1;", -100);
        cond("and 1=1;", -100);
        cond("not;", -103);
        cond("not or 1=1;", -104);
        cond("1;", -101);
        cond("1=;", -102);
        cond("=1;", -100);
        cond("1==1;", -102);
        cond("1=1=1;", -103);
        cond("1=1 or;", -106);
        cond("1=1 and;", -107);
        cond("1=1 and or 1=1;", -108);
        cond("1=1 not 1=1;", -104);
        cond("1=1 1=1;", -104);
        cond("1=1 nor 1=1;", -104);
        cond("1=1 an 1=1;", -104);
        cond("1=(1);", -102);
        cond("(1)=1;", -102);
        cond("();", -101);
        cond("(1=1;", -104);
        cond("1=1);", -103);
        cond("(1=1));", -105);
        cond(")1=1(;", -100);
        cond("1=1 if 1=1;", -104);
        cond("(1=1 if 1=1);", -105);
        CHECK.sentence(Document.TERMS, "VALUE: N | a FACT SIGN: < | = | >");
        for (String sign : new String[] {"<", "=", ">"}) cond("day" + sign + "1;", 1);
        for (String sign : new String[] {";", "?", "!", "\u00bc", "\u0001"}) cond("day" + sign + "1;", -103);
        cond("day<=1;", -104);
        cond("day is 1;", -104);
        for (String fact : new String[] {"day", "made", "gap", "kind", "amount", "held"}) {
            cond(fact + "=1;", 1);
            cond("1=" + fact + ";", 1);
            cond("1=" + fact + "s;", -102);
            cond(fact.substring(1) + "=1;", -100);
        }
        cond("owes=1;", -100);
        cond("all=1;", -100);
        cond("1=not;", -102);
    }

    private static void ends() {
        CHECK.sentence(Document.TERMS, "or the end (how many bytes there are), if more must come.");
        String text = "owes all if not(day<5 and 1=1);";
        for (int n = 1; n < text.length(); n++) {
            int last = n;
            while (last > 0 && Character.isLetterOrDigit(text.charAt(last - 1))) last--;
            boolean isWhole = last == n || !Character.isLetterOrDigit(text.charAt(n))
                    || Character.isDigit(text.charAt(n - 1));
            // What is cut within a NAME is another NAME; what is cut elsewhere ends too early.
            law(text.substring(0, n), -100 - (isWhole ? n : last));
            if (isWhole) law(text.substring(0, n) + "   ", -103 - n);
        }
        law(text, 1);
        String full = "owes all;".repeat(9);
        law(full + " ".repeat(119), 9);
        law(full + " ".repeat(115) + "owes", -300);
        law(" ".repeat(191) + "owes all;", 1);
        law(" ".repeat(192) + "owes all", -300);
        law(" ".repeat(199) + "o", -299);
        law(" ".repeat(200), 0);
    }

    private static void says() {
        CHECK.sentence(13, "The VALUE of a KEY (0 owes, 1 owns, 2 blame, 3 vote, 4 wed, 5 leave, 6 sleep) now");
        for (int key : new int[] {MIN, -1, 7, MAX}) {
            refused("says(" + key + ", 0)", Made::rich, x -> x.says(key, 0), -1);
        }
        CHECK.sentence(13, "its place among those named in 2 (from 0). BAD.");
        for (int p : new int[] {MIN, -1, 9, MAX}) refused("says(0, " + p + ")", Made::rich, x -> x.says(0, p), -1);
        due("about the last of all", Made.rich().says(0, 8), 3);
        due("about one who is ended", Made.rich().says(0, Made.ENDED_COPY), 3);
        String[] laws = {"owes first copy shared all", "owns first copy shared all", "blame body memory root",
            "vote each root share", "wed maker copy both none", "leave free needed", "sleep rests bears"};
        for (int key = 0; key <= 6; key++) {
            String[] words = laws[key].split(" ");
            for (int value = 1; value < words.length; value++) {
                OneIsTwo x = fed(0);
                Check.law(x, words[0] + " " + words[value] + ";");
                for (int other = 0; other <= 6; other++) {
                    due(words[value] + " of " + other, x.says(other, 0), other == key ? value - 1 : 0);
                }
            }
        }
    }

    private static void whichClauseCounts() {
        CHECK.sentence(Document.TERMS,
                "the VALUE of the last CLAUSE with that KEY whose COND holds (or that has none) counts");
        OneIsTwo x = fed(0);
        Check.law(x, "owes copy; owes all; owns copy;");
        due("the last with that KEY", x.says(0, 0), 3);
        Check.law(x, "owes copy; owes all if 1=2;");
        due("the last whose COND holds", x.says(0, 0), 1);
        Check.law(x, "owes copy if 1=1; owes all if 1=1;");
        due("the last of two that hold", x.says(0, 0), 3);
        Check.law(x, "owes copy if 1=1; owes all if 2=1; owns shared;");
        due("the first, for the second doesn't hold", x.says(0, 0), 1);
        CHECK.sentence(Document.TERMS, "without such the first one named here");
        due("no CLAUSE with that KEY", x.says(2, 0), 0);
        Check.law(x, "owes all if 1=2; owes copy if 2=1;");
        due("none that holds", x.says(0, 0), 0);
        x.law();
        due("no CLAUSE at all", x.says(0, 0), 0);

        CHECK.sentence(Document.TERMS,
                "For other questions: DAY; how many PERSONS there are; 0; KIND of the PERSON asked about; 0; 0.");
        int[] kinds = {1, 1, 5, 3, 6, 6, 6, 4, 2};
        for (int p = 0; p < kinds.length; p++) {
            OneIsTwo y = Made.rich();
            y.law();
            Check.law(y, "vote root if day = 4 and made = 9 and gap = 0 and amount = 0 and held = 0 and kind = "
                    + kinds[p] + ";");
            due("about " + p, y.says(3, p), 1);
            Check.law(y, "vote root if not day = 4 or not made = 9 or gap > 0 or amount > 0 or held > 0 or not kind = "
                    + kinds[p] + ";");
            due("about " + p, y.says(3, p), 0);
        }
    }

    private static void signs() {
        CHECK.sentence(Document.TERMS, "SIGN: < | = | >");
        int[] days = {4, 5, 6};
        int[][] holds = {{1, 0, 0}, {0, 1, 0}, {0, 0, 1}};
        String[] laws = {"owes copy if day<5;", "owes copy if day=5;", "owes copy if day>5;"};
        String[] turned = {"owes copy if 5>day;", "owes copy if 5=day;", "owes copy if 5<day;"};
        for (int d = 0; d < 3; d++) {
            OneIsTwo x = fed(0);
            x.later(days[d]);
            for (int i = 0; i < 3; i++) {
                Check.law(x, laws[i]);
                due(laws[i] + " on " + days[d], x.says(0, 0), holds[i][d]);
                Check.law(x, turned[i]);
                due(turned[i] + " on " + days[d], x.says(0, 0), holds[i][d]);
            }
        }
    }
}
