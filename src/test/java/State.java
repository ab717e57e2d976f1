import java.util.ArrayList;
import java.util.List;

/**
 * All that can be seen of an object behind a run of calls. Each look plays the run on an object of its own,
 * so that it may change what it looks at, and so that none needs more than 512 calls.
 */
final class State {
    private static final List<Look> LOOKS = List.of(
            State::theClay, State::nearnesses, State::rulesAndScores, State::places, State::matches, State::endsTold,
            State::textAsRule, State::textAsOrder, State::roomLeft,
            s -> s.spansOfMan(0), s -> s.spansOfMan(1), s -> s.spansOfMan(2),
            s -> s.actOf(0, 0), s -> s.actOf(0, 1), s -> s.actOf(0, 2),
            s -> s.actOf(1, 0), s -> s.actOf(1, 1), s -> s.actOf(1, 2));

    private interface Look {
        void at(State state);
    }

    final List<Long> answers = new ArrayList<>();
    final List<String> calls = new ArrayList<>();
    private final boolean named;
    private Calls x;

    /** With the calls' names too only if these are wanted: to write them takes longer than the calls. */
    State(Edge.Run run, boolean withNames) {
        named = withNames;
        for (Look look : LOOKS) {
            x = new Calls();
            run.play(x);
            look.at(this);
        }
    }

    private void note(long answer) {
        answers.add(answer);
        if (named) {
            calls.add(x.latest());
        }
    }

    private void theClay() {
        for (int what = 0; what < 10; what++) {
            note(x.count(what));
        }
        note(x.fault());
        int irons = x.count(0);
        for (int i = 0; i < irons; i++) {
            for (int what = 0; what < 10; what++) {
                note(x.told(i, what));
            }
            note(x.known(i, 0));
            note(x.known(i, 1));
        }
    }

    private void nearnesses() {
        int irons = x.count(0);
        for (int i = 0; i < irons; i++) {
            for (int j = 0; j < irons; j++) {
                note(x.nearer(i, j, 0));
            }
        }
    }

    private void rulesAndScores() {
        for (int village = 0; village < 6; village++) {
            for (int what = 0; what < 8; what++) {
                note(x.says(village, what));
            }
            for (int what = 0; what < 6; what++) {
                note(x.score(village, what));
            }
            for (int what = 0; what < 3; what++) {
                note(x.sure(village, what));
            }
        }
    }

    private void places() {
        for (int village = 0; village < 6; village++) {
            for (int what = 0; what < 8; what++) {
                note(x.standing(village, what));
            }
            note(x.reach(village, 0));
            note(x.reach(village, 1));
        }
    }

    private void matches() {
        int matches = x.count(4);
        for (int m = 0; m < matches; m++) {
            for (int what = 0; what < 8; what++) {
                note(x.about(m, what));
            }
        }
    }

    /** The score of each end; and with nothing left in them, whether the match was closed at dusk. */
    private void endsTold() {
        int matches = x.count(4);
        for (int m = 0; m < matches; m++) {
            int ends = x.about(m, 3);
            for (int e = 0; e < ends; e++) {
                note(x.mend(m, e, 0));
            }
            note(x.about(m, 7));
        }
    }

    private void textAsRule() {
        note(x.rule(0));
        note(x.fault());
        for (int what = 0; what < 8; what++) {
            note(x.says(0, what));
        }
    }

    private void textAsOrder() {
        note(x.order());
        note(x.fault());
        note(x.count(7));
        for (int village = 0; village < 6; village++) {
            note(x.standing(village, 7));
        }
    }

    private void roomLeft() {
        note(x.iron(0, 1, 2, 9, 8, 0, true));
        note(x.match(4, 5, 1));
        note(x.rake());
    }

    /** What one man told of each iron: the spans of the others are made as wide as can be. */
    private void spansOfMan(int man) {
        int irons = x.count(0);
        for (int i = 0; i < irons; i++) {
            for (int other = 0; other < 3; other++) {
                if (other != man) {
                    note(x.measure(i, other, 0, 9999));
                }
            }
            note(x.known(i, 0));
            note(x.known(i, 1));
        }
    }

    /** The weights of one act: the other acts of its side are made as bad as can be. */
    private void actOf(int side, int act) {
        for (int other = 0; other < 3; other++) {
            if (other != act) {
                x.act(side, other, 60, 0, 0, 0, 0);
            }
        }
        for (int need = -1; need <= 2; need++) {
            note(x.win(1, side, 0, need, 0));
            note(x.win(1, side, 0, need, 1));
        }
        note(x.win(6, 1 - side, 1, 0, 0));
    }

    /** Where two states differ first, or an empty text. */
    static String difference(Edge.Run one, Edge.Run other) {
        State first = new State(one, true);
        State second = new State(other, true);
        int both = Math.min(first.answers.size(), second.answers.size());
        for (int k = 0; k < both; k++) {
            if (!first.answers.get(k).equals(second.answers.get(k)) || !first.calls.get(k).equals(second.calls.get(k))) {
                return first.calls.get(k) + " answered " + first.answers.get(k) + " ahead of it, and "
                        + second.calls.get(k) + " " + second.answers.get(k) + " behind it";
            }
        }
        return first.answers.size() == second.answers.size() ? "" : "other irons, matches or ends";
    }
}
