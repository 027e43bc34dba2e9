import java.util.ArrayList;
import java.util.List;

/** All that can be asked of an object: what is told alike is answered alike. */
final class Look {
    interface Made {
        OneIsTwo make();
    }

    interface Asked {
        long ask(OneIsTwo x);
    }

    private record Answer(String call, long got) { }

    private final OneIsTwo x;
    private final List<Answer> answers = new ArrayList<>();

    private Look(OneIsTwo x) {
        this.x = x;
    }

    /** It takes some 400 calls, THE TAPE and what is kept: none of both objects is of use behind it. */
    static void same(Check check, String what, OneIsTwo one, OneIsTwo other) {
        List<Answer> answers = new Look(one).all();
        List<Answer> others = new Look(other).all();
        check.due(what + ", number of answers", answers.size(), others.size());
        for (int i = 0; i < Math.min(answers.size(), others.size()); i++) {
            check.due(what + ", " + answers.get(i).call, answers.get(i).got, others.get(i).got);
        }
    }

    private void add(String call, long got) {
        answers.add(new Answer(call, got));
    }

    private List<Answer> all() {
        counts();
        int z = x.seed(0);
        add("seed", z);
        x.seed(z);
        persons();
        claimsAndDeeds();
        host();
        // What comes now can't be undone.
        add("law", x.law());
        for (int key = 0; key <= 6; key++) add("says " + key + " by THE TAPE", x.says(key, 0));
        add("again", x.again());
        counts();
        for (int key = 0; key <= 6; key++) add("says " + key + " as kept", x.says(key, 0));
        return answers;
    }

    private void counts() {
        for (int what = 0; what <= 10; what++) add("many " + what, x.many(what));
    }

    private void persons() {
        for (int key = 0; key <= 6; key++) add("says " + key, x.says(key, 0));
        int people = x.many(0);
        for (int p = 0; p < people; p++) {
            for (int what = 0; what <= 8; what++) add("person " + p + " " + what, x.person(p, what));
            add("kin " + p, x.kin(p));
            add("wedTo " + p, x.wedTo(p));
            add("votes " + p, x.votes(p, 1));
            for (int sort = 0; sort <= 1; sort++) {
                add("total " + p + " " + sort, x.total(p, sort, 0));
                add("total " + p + " " + sort + ", below", x.total(p, sort, 1));
            }
        }
    }

    private void claimsAndDeeds() {
        int claims = x.many(3);
        for (int claim = 0; claim < claims; claim++) {
            for (int what = 0; what <= 3; what++) add("claimOf " + claim + " " + what, x.claimOf(claim, what));
        }
        int deeds = x.many(4);
        for (int deed = 0; deed < deeds; deed++) add("blame " + deed, x.blame(deed));
        int rows = x.many(7);
        for (int i = 0; i < rows; i++) {
            for (int what = 0; what <= 2; what++) add("row " + i + " " + what, x.row(i, what));
        }
    }

    private void host() {
        for (int s = 0; s <= 3; s++) {
            for (int sort = 0; sort <= 4; sort++) {
                long first = x.item(s, sort, 0);
                add("item " + s + " " + sort, first);
                if (first == -13 || first == -11) continue;
                for (int i = 1; i < 4; i++) add("item " + s + " " + sort + " " + i, x.item(s, sort, i));
            }
            for (int as = 0; as <= 14; as++) {
                if (as <= 7 || as >= 10) add("taken " + s + " " + as, x.taken(s, as));
            }
        }
        for (int i = 0; i < 8; i++) add("trace " + i, x.trace(i));
    }
}
