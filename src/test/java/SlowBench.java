import java.util.ArrayDeque;
import java.util.ArrayList;
import java.util.Collections;
import java.util.Deque;
import java.util.HashMap;
import java.util.HashSet;
import java.util.List;
import java.util.Map;
import java.util.NoSuchElementException;
import java.util.Set;
import java.util.TreeSet;

/**
 * The document once more, in lists and sets and as slow as its words are, to hold the class against.
 * It answers with the same exceptions, and has nothing of the class's ways of keeping things.
 */
final class SlowBench {
    static final int NONE = -1;
    static final int NOBODY = -100000;

    record State(List<SlowText.Person> people, int jurors, Map<Integer, Integer> excused, List<Integer> row,
            int seats, int spare, boolean box, List<Integer> turns, Map<Integer, Integer> struck) {
    }

    record End(int toA, int toB) {
        int to(int side) {
            return side == 0 ? toA : toB;
        }
    }

    private final List<Byte> tape = new ArrayList<>();
    private State state = new State(List.of(), 0, Map.of(), List.of(), 2, 0, false, List.of(), Map.of());
    private final Deque<State> history = new ArrayDeque<>();
    private int faultPlace = NONE;
    private final int[] refused = new int[3];

    private NoSuchElementException noSuch() {
        refused[0]++;
        return new NoSuchElementException();
    }

    private IllegalArgumentException badArgument() {
        refused[1]++;
        return new IllegalArgumentException();
    }

    private IllegalStateException badState() {
        refused[2]++;
        return new IllegalStateException();
    }

    private void act(State next) {
        history.addLast(state);
        if (history.size() > 8) {
            history.removeFirst();
        }
        state = next;
    }

    int feed(int a, int b, int c, int d, int e) {
        if (tape.size() + 20 > 500) {
            return NONE;
        }
        for (int number : new int[] {a, b, c, d, e}) {
            tape.add((byte) (number >>> 24));
            tape.add((byte) (number >>> 16));
            tape.add((byte) (number >>> 8));
            tape.add((byte) number);
        }
        return tape.size();
    }

    int text(int n) {
        if (n < 0 || n > tape.size()) {
            throw badArgument();
        }
        StringBuilder text = new StringBuilder();
        for (byte b : tape.subList(0, n)) {
            text.append((char) (b & 255));
        }
        tape.clear();
        SlowText told = new SlowText(text.toString());
        if (told.fault != 0) {
            faultPlace = told.place;
            return told.fault - 10;
        }
        faultPlace = NONE;
        Map<Integer, Integer> excused = told.excused();
        List<Integer> row = new ArrayList<>();
        for (int j = 0; j < told.jurors.size(); j++) {
            if (!excused.containsKey(j)) {
                row.add(j);
            }
        }
        for (int t = 0; t < Math.min(excused.size(), told.tales.size()); t++) {
            row.add(told.jurors.size() + t);
        }
        List<SlowText.Person> people = new ArrayList<>(told.jurors);
        people.addAll(told.tales);
        act(new State(people, told.jurors.size(), excused, row, told.seats, told.spare, told.box, told.turns, Map.of()));
        return row.size();
    }

    int fault() {
        return faultPlace;
    }

    private List<Integer> standing(State s) {
        List<Integer> left = new ArrayList<>(s.row());
        left.removeAll(s.struck().keySet());
        return left;
    }

    private List<Integer> inBox(State s) {
        List<Integer> left = standing(s);
        return left.subList(0, Math.min(s.seats(), left.size()));
    }

    private List<Integer> spares(State s) {
        List<Integer> left = standing(s);
        int from = Math.min(s.seats(), left.size());
        return left.subList(from, Math.min(from + s.spare(), left.size()));
    }

    private State afterStrike(State s, int juror) {
        Map<Integer, Integer> struck = new HashMap<>(s.struck());
        struck.put(juror, s.turns().get(0));
        return new State(s.people(), s.jurors(), s.excused(), s.row(), s.seats(), s.spare(), s.box(),
                s.turns().subList(1, s.turns().size()), struck);
    }

    private State afterPass(State s) {
        return withTurns(s, s.turns().subList(1, s.turns().size()));
    }

    private State withTurns(State s, List<Integer> turns) {
        return new State(s.people(), s.jurors(), s.excused(), s.row(), s.seats(), s.spare(), s.box(), turns, s.struck());
    }

    private State after(State s, int act) {
        return act == NONE ? afterPass(s) : afterStrike(s, act);
    }

    /** Passing, then those who may be struck by number: the order in which ties are broken. */
    private List<Integer> acts(State s) {
        List<Integer> acts = new ArrayList<>();
        acts.add(NONE);
        acts.addAll(new TreeSet<>(s.box() ? inBox(s) : standing(s)));
        return acts;
    }

    private void mustBeActable(int juror) {
        if (juror != NONE && !state.row().contains(juror)) {
            throw noSuch();
        }
        if (state.turns().isEmpty() || !acts(state).contains(juror)) {
            throw badState();
        }
    }

    int strike(int juror) {
        if (!state.row().contains(juror)) {
            throw noSuch();
        }
        mustBeActable(juror);
        act(afterStrike(state, juror));
        return state.turns().size();
    }

    int pass() {
        mustBeActable(NONE);
        act(afterPass(state));
        return state.turns().size();
    }

    int rule(int what, int n) {
        State s = state;
        if (what == 0 && n >= 1 && n <= 6) {
            act(new State(s.people(), s.jurors(), s.excused(), s.row(), n, s.spare(), s.box(), s.turns(), s.struck()));
            return s.seats();
        }
        if (what == 1 && n >= 0 && n <= 3) {
            act(new State(s.people(), s.jurors(), s.excused(), s.row(), s.seats(), n, s.box(), s.turns(), s.struck()));
            return s.spare();
        }
        if (what == 2 && n >= 0 && n <= 1) {
            act(new State(s.people(), s.jurors(), s.excused(), s.row(), s.seats(), s.spare(), n == 1, s.turns(), s.struck()));
            return s.box() ? 1 : 0;
        }
        throw badArgument();
    }

    int order(int n, int bits) {
        if (n < 0 || n > 8) {
            throw badArgument();
        }
        List<Integer> turns = new ArrayList<>();
        int rest = bits;
        for (int i = 0; i < n; i++) {
            turns.add(rest & 1);
            rest >>>= 1;
        }
        if (rest != 0) {
            throw badArgument();
        }
        int before = state.turns().size();
        act(withTurns(state, turns));
        return before;
    }

    int undo() {
        if (history.isEmpty()) {
            return NONE;
        }
        state = history.removeLast();
        return history.size();
    }

    int told(int what) {
        switch (what) {
            case 0: return state.jurors();
            case 1: return state.people().size() - state.jurors();
            case 2: return state.excused().size();
            case 3: return state.row().size();
            case 4: return state.seats();
            case 5: return state.spare();
            case 6: return state.box() ? 1 : 0;
            case 7: return state.turns().size();
            case 8: return state.struck().size();
            case 9: return state.turns().isEmpty() ? NONE : state.turns().get(0);
            case 10: return tape.size();
            case 11: return history.size();
            default: throw badArgument();
        }
    }

    int juror(int juror, int what) {
        if (juror < 0 || juror >= state.people().size()) {
            throw noSuch();
        }
        SlowText.Person person = state.people().get(juror);
        switch (what) {
            case 0: return person.first();
            case 1: return person.second();
            case 2: return person.age();
            case 3: return person.kin();
            case 4: return state.excused().getOrDefault(juror, NONE);
            case 5: return state.struck().getOrDefault(juror, NONE);
            case 6: return state.row().indexOf(juror);
            case 7: return inBox(state).contains(juror) ? 1 : 0;
            default: throw badArgument();
        }
    }

    int seat(int i, boolean spare) {
        if (i < 0) {
            throw badArgument();
        }
        List<Integer> those = spare ? spares(state) : inBox(state);
        return i < those.size() ? those.get(i) : NOBODY;
    }

    int turn(int i) {
        if (i < 0 || i >= state.turns().size()) {
            throw noSuch();
        }
        return state.turns().get(i);
    }

    private void mustBeSide(int side) {
        if (side < 0 || side > 1) {
            throw badArgument();
        }
    }

    private End end(State s) {
        int[] sums = new int[2];
        for (int j : inBox(s)) {
            sums[0] += 2 * s.people().get(j).first();
            sums[1] += 2 * s.people().get(j).second();
        }
        for (int j : spares(s)) {
            sums[0] += s.people().get(j).first();
            sums[1] += s.people().get(j).second();
        }
        return new End(sums[0], sums[1]);
    }

    /** By who is struck and how many turns are left; for one row and one order only. */
    private final class Game {
        final Map<List<Object>, End> values = new HashMap<>();

        End value(State s) {
            if (s.turns().isEmpty()) {
                return end(s);
            }
            List<Object> key = List.of(s.struck().keySet(), s.turns().size());
            End known = values.get(key);
            if (known == null) {
                known = value(after(s, best(s)));
                values.put(key, known);
            }
            return known;
        }

        int best(State s) {
            int side = s.turns().get(0);
            int chosen = NONE;
            End most = null;
            for (int act : acts(s)) {
                End v = value(after(s, act));
                if (most == null || v.to(side) > most.to(side)
                        || v.to(side) == most.to(side) && v.to(1 - side) > most.to(1 - side)) {
                    most = v;
                    chosen = act;
                }
            }
            return chosen;
        }
    }

    int worth(int side) {
        mustBeSide(side);
        return end(state).to(side);
    }

    int value(int side) {
        mustBeSide(side);
        return new Game().value(state).to(side);
    }

    int best() {
        return state.turns().isEmpty() ? NOBODY : new Game().best(state);
    }

    int line(int i) {
        if (i < 0) {
            throw badArgument();
        }
        if (i >= state.turns().size()) {
            return NOBODY;
        }
        Game game = new Game();
        State s = state;
        for (int k = 0; k < i; k++) {
            s = after(s, game.best(s));
        }
        return game.best(s);
    }

    int cost(int juror) {
        mustBeActable(juror);
        int side = state.turns().get(0);
        Game game = new Game();
        return game.value(state).to(side) - game.value(after(state, juror)).to(side);
    }

    int states() {
        Set<List<Object>> seen = new HashSet<>();
        Deque<State> open = new ArrayDeque<>();
        open.add(state);
        seen.add(List.of(state.struck().keySet(), state.turns().size()));
        while (!open.isEmpty()) {
            State s = open.remove();
            if (!s.turns().isEmpty()) {
                for (int act : acts(s)) {
                    State next = after(s, act);
                    if (seen.add(List.of(next.struck().keySet(), next.turns().size()))) {
                        open.add(next);
                    }
                }
            }
        }
        return seen.size();
    }

    int more(int side, boolean first) {
        mustBeSide(side);
        List<Integer> turns = new ArrayList<>(state.turns());
        turns.add(first ? 0 : turns.size(), side);
        return new Game().value(withTurns(state, turns)).to(side);
    }

    int other(int side, int i) {
        if (i < 0 || i >= state.turns().size()) {
            throw noSuch();
        }
        mustBeSide(side);
        List<Integer> turns = new ArrayList<>(state.turns());
        turns.set(i, 1 - turns.get(i));
        return new Game().value(withTurns(state, turns)).to(side);
    }

    int without(int side, int juror) {
        if (!state.row().contains(juror)) {
            throw noSuch();
        }
        mustBeSide(side);
        if (state.struck().containsKey(juror)) {
            throw badState();
        }
        State s = state;
        List<Integer> row = new ArrayList<>(s.row());
        row.remove((Integer) juror);
        return new Game().value(new State(s.people(), s.jurors(), s.excused(), row, s.seats(), s.spare(), s.box(),
                s.turns(), s.struck())).to(side);
    }

    private int plainAct(State s) {
        int side = s.turns().get(0);
        List<Integer> box = new ArrayList<>(inBox(s));
        if (box.isEmpty()) {
            return NONE;
        }
        Collections.sort(box, (x, y) -> {
            int byWorth = Integer.compare(s.people().get(x).worth(side), s.people().get(y).worth(side));
            return byWorth != 0 ? byWorth : Integer.compare(x, y);
        });
        List<Integer> left = standing(s);
        int behind = left.size() > s.seats() ? s.people().get(left.get(s.seats())).worth(side) : 0;
        return s.people().get(box.get(0)).worth(side) < behind ? box.get(0) : NONE;
    }

    int plain(int side, int bits) {
        mustBeSide(side);
        if (bits < 0 || bits > 3) {
            throw badArgument();
        }
        Game game = new Game();
        State s = state;
        while (!s.turns().isEmpty()) {
            boolean isPlain = (bits & 1 << s.turns().get(0)) != 0;
            s = after(s, isPlain ? plainAct(s) : game.best(s));
        }
        return end(s).to(side);
    }

    private List<Integer> setsOf(int most) {
        List<Integer> sets = new ArrayList<>();
        int all = 0;
        for (int j : standing(state)) {
            all |= 1 << j;
        }
        for (int set = 0; set <= all; set++) {
            if ((set & ~all) == 0 && Integer.bitCount(set) <= most) {
                sets.add(set);
            }
        }
        return sets;
    }

    private End endAtOnce(int struckBits) {
        Map<Integer, Integer> struck = new HashMap<>(state.struck());
        for (int j = 0; j < 14; j++) {
            if ((struckBits >> j & 1) == 1) {
                struck.put(j, 0);
            }
        }
        State s = state;
        return end(new State(s.people(), s.jurors(), s.excused(), s.row(), s.seats(), s.spare(), s.box(), s.turns(), struck));
    }

    int once(int what) {
        if (what < 0 || what > 4) {
            throw badArgument();
        }
        int ofB = Collections.frequency(state.turns(), 1);
        int ofA = Collections.frequency(state.turns(), 0);
        if (ofA > 3 || ofB > 3) {
            throw badState();
        }
        Map<Integer, End> ends = new HashMap<>();
        List<Integer> setsA = setsOf(ofA);
        List<Integer> setsB = setsOf(ofB);
        int rests = 0;
        int[] first = {NOBODY, NOBODY, NOBODY, NOBODY};
        for (int a : setsA) {
            for (int b : setsB) {
                End e = ends.computeIfAbsent(a | b, this::endAtOnce);
                boolean stays = true;
                for (int k = 0; k < setsA.size() && stays; k++) {
                    stays = ends.computeIfAbsent(setsA.get(k) | b, this::endAtOnce).toA() <= e.toA();
                }
                for (int k = 0; k < setsB.size() && stays; k++) {
                    stays = ends.computeIfAbsent(a | setsB.get(k), this::endAtOnce).toB() <= e.toB();
                }
                if (stays) {
                    if (rests == 0) {
                        first = new int[] {a, b, e.toA(), e.toB()};
                    }
                    rests++;
                }
            }
        }
        return what == 0 ? rests : first[what - 1];
    }

    int count(int what, int n) {
        if (what < 0 || what > 2) {
            throw badArgument();
        }
        List<Integer> those = new ArrayList<>(inBox(state));
        those.addAll(spares(state));
        int found = 0;
        for (int j : those) {
            SlowText.Person person = state.people().get(j);
            if (what == 2 ? person.age() < n : person.kin() == 3 || person.kin() == what + 1) {
                found++;
            }
        }
        return found;
    }

    long print() {
        long sum = 0;
        for (int j : state.row()) {
            sum = sum * 31 + j;
            sum = sum * 31 + state.struck().getOrDefault(j, NONE);
        }
        return sum;
    }

    int status(int what) {
        return what < 0 || what > 2 ? NONE : refused[what];
    }
}
