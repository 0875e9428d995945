/** All that a court says of a few types and members, in fewer than 512 calls. */
final class Answers {
    private static final int FEW = 6;
    private final CallCourt court;
    private final StringBuilder told = new StringBuilder();
    private final int types;
    private final int members;

    private Answers(CallCourt court) {
        this.court = court;
        types = Math.min(court.told(0), FEW);
        members = Math.min(court.told(1), FEW);
    }

    static String of(CallCourt court) {
        Answers answers = new Answers(court);
        answers.ofTheText();
        answers.ofTypes();
        answers.ofMembers();
        answers.ofCalls();
        return answers.told.toString();
    }

    private void add(int answer) {
        told.append(answer).append(' ');
    }

    private void ofTheText() {
        add(court.fault());
        for (int what = 0; what <= 4; what++) {
            add(court.told(what));
        }
    }

    private void ofTypes() {
        for (int t = 0; t < types; t++) {
            told.append("; type ").append(t).append(": ");
            for (int what = 0; what <= 9; what++) {
                add(court.type(t, what));
            }
            for (int i = 0; i < 3; i++) {
                add(court.above(t, i));
            }
            add(court.under(t, 0));
            add(court.same(t, 0, false));
            add(court.conflicts(t));
            for (int what = 0; what < 5; what++) {
                add(court.bridge(t, 0, what));
            }
        }
    }

    private void ofMembers() {
        for (int m = 0; m < members; m++) {
            told.append("; member ").append(m).append(": ");
            for (int what = 0; what <= 3; what++) {
                add(court.member(m, what));
            }
            for (int k = 0; k <= 2; k++) {
                add(court.erased(m, k));
                add(court.seen(types - 1, m, k));
            }
            for (int n = 0; n < members; n++) {
                add(court.overrides(m, n));
            }
        }
    }

    private void ofCalls() {
        for (int t = 0; t < types; t++) {
            told.append("; calls by ").append(t).append(": ");
            for (int m = 0; m < members; m++) {
                add(court.lookup(t, m));
                add(court.specific(t, m, 0));
                add(court.rule(court.type(t, 2) == 2 ? 1 : 0, t, t, m, types - 1));
            }
        }
    }
}
