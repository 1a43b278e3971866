import java.util.ArrayList;
import java.util.Arrays;
import java.util.HashMap;
import java.util.HashSet;
import java.util.List;
import java.util.Map;
import java.util.Set;

/**
 * The document once more, by other means: maps and recursion, guesses of who is in instead of levels, costs counted
 * up in rounds. It is slow and only for tests; it keeps no limit on how deep places ask.
 */
final class NaiveWeb {
    static final int NONE = -1, MISSING = -2, BEYOND = -3, BELOW = -4, KIND = -5, COPY = -6, RING = -7, NO = -8, FULL = -9;

    static final class Pair {
        int thing, relation, user, end, wrote, struck = NONE;
    }

    record Act(int thing, int relation, int user, int end, boolean writes) { }

    record Condition(int thing, int relation, int user, boolean there) { }

    record Change(int turn, int pair, boolean struck) { }

    record Lead(int from, int to, boolean over) { }

    final List<Integer> kinds = new ArrayList<>();
    final Map<Integer, int[]> rules = new HashMap<>();
    final Map<Integer, Integer> names = new HashMap<>();
    final Map<Integer, Integer> places = new HashMap<>();
    List<Pair> pairs = new ArrayList<>();
    List<Change> changes = new ArrayList<>();
    List<Act> acts = new ArrayList<>();
    List<Condition> conditions = new ArrayList<>();
    final int[] refused = new int[10];
    int latest = 0;
    int tick = 0;
    int failing = NONE;
    int failed = NONE;
    List<Integer> row = null;
    List<Integer> reason = new ArrayList<>();
    int[] asked = null;

    private int no(int by) {
        refused[-by]++;
        return by;
    }

    private static boolean outside(int n, int many) {
        return n < 0 || n >= many;
    }

    private boolean noSpot(int thing, int relation) {
        return outside(thing, kinds.size()) || outside(relation, 8);
    }

    private boolean noTurn(int t) {
        return t < 0 || t > latest;
    }

    private boolean noUser(int user) {
        if (user >= 0 && user <= 39) {
            return false;
        }
        if (user >= 100 && user <= 139) {
            return user - 100 >= kinds.size();
        }
        if (user >= 1000 && user <= 1399) {
            return (user - 1000) / 10 >= kinds.size() || (user - 1000) % 10 > 7;
        }
        return true;
    }

    int thing(int kind) {
        if (outside(kind, 6)) {
            return no(BEYOND);
        }
        if (kinds.size() == 40) {
            return no(FULL);
        }
        kinds.add(kind);
        return kinds.size() - 1;
    }

    int rule(int place, int sort, int x, int y) {
        if (outside(place, 64)) {
            return no(BEYOND);
        }
        if ((sort == 2 || sort == 3) && outside(x, 8) || sort == 3 && outside(y, 8)) {
            return no(BEYOND);
        }
        if (outside(sort, 7)) {
            return no(NO);
        }
        if (sort >= 4 && (outside(x, place) || outside(y, place))) {
            return no(NO);
        }
        int[] old = rules.get(place);
        rules.put(place, new int[] {sort, sort < 2 ? NONE : x, sort < 3 ? NONE : y});
        if (hasRing(pairs)) {
            if (old == null) {
                rules.remove(place);
            } else {
                rules.put(place, old);
            }
            return no(RING);
        }
        names.remove(place);
        return 1;
    }

    int name(int place, int v) {
        if (outside(place, 64)) {
            return no(BEYOND);
        }
        rules.remove(place);
        names.put(place, v);
        return 1;
    }

    int empty(int place) {
        if (outside(place, 64)) {
            return no(BEYOND);
        }
        boolean held = rules.remove(place) != null;
        held |= names.remove(place) != null;
        return held ? 1 : 0;
    }

    int holds(int place) {
        if (outside(place, 64)) {
            return no(BEYOND);
        }
        return rules.containsKey(place) ? rules.get(place)[0] : names.containsKey(place) ? 7 : NONE;
    }

    int asks(int place, int what) {
        if (outside(place, 64)) {
            return no(BEYOND);
        }
        if (names.containsKey(place)) {
            return no(KIND);
        }
        if (!rules.containsKey(place)) {
            return no(MISSING);
        }
        if (outside(what, 2)) {
            return no(NO);
        }
        return rules.get(place)[1 + what];
    }

    int named(int place) {
        if (outside(place, 64)) {
            return no(BEYOND);
        }
        if (rules.containsKey(place)) {
            return no(KIND);
        }
        return names.containsKey(place) ? names.get(place) : no(MISSING);
    }

    int relate(int kind, int relation, int place) {
        if (outside(kind, 6) || outside(relation, 8) || place < NONE || place > 63) {
            return no(BEYOND);
        }
        int key = kind * 8 + relation;
        int old = places.getOrDefault(key, NONE);
        places.put(key, place);
        if (hasRing(pairs)) {
            places.put(key, old);
            return no(RING);
        }
        return 1;
    }

    int write(int thing, int relation, int user, int end) {
        if (noSpot(thing, relation) || noUser(user)) {
            return no(BEYOND);
        }
        if (end < 0 || end > 1000000) {
            return no(NO);
        }
        return act(new Act(thing, relation, user, end, true));
    }

    int strike(int thing, int relation, int user) {
        if (noSpot(thing, relation) || noUser(user)) {
            return no(BEYOND);
        }
        return act(new Act(thing, relation, user, 0, false));
    }

    private int act(Act a) {
        if (acts.size() == 20) {
            return no(FULL);
        }
        acts.add(a);
        return acts.size();
    }

    int when(int thing, int relation, int user, boolean there) {
        if (noSpot(thing, relation) || noUser(user)) {
            return no(BEYOND);
        }
        if (conditions.size() == 10) {
            return no(FULL);
        }
        conditions.add(new Condition(thing, relation, user, there));
        return conditions.size();
    }

    int forget() {
        int had = acts.size();
        acts.clear();
        conditions.clear();
        return had;
    }

    private static int standing(List<Pair> in, int thing, int relation, int user) {
        for (int p = 0; p < in.size(); p++) {
            Pair q = in.get(p);
            if (q.thing == thing && q.relation == relation && q.user == user && q.struck == NONE) {
                return p;
            }
        }
        return NONE;
    }

    /** What refuses the turn that is made (0: nothing), and what it would make of copies of pairs and changes. */
    private int attempt(List<Pair> newPairs, List<Change> newChanges) {
        long writes = acts.stream().filter(Act::writes).count();
        if (latest == 200 || pairs.size() + writes > 400) {
            return FULL;
        }
        for (int c = 0; c < conditions.size(); c++) {
            Condition w = conditions.get(c);
            if (standing(pairs, w.thing, w.relation, w.user) != NONE != w.there) {
                failing = c;
                return NO;
            }
        }
        for (Pair p : pairs) {
            Pair q = new Pair();
            q.thing = p.thing;
            q.relation = p.relation;
            q.user = p.user;
            q.end = p.end;
            q.wrote = p.wrote;
            q.struck = p.struck;
            newPairs.add(q);
        }
        newChanges.addAll(changes);
        for (int a = 0; a < acts.size(); a++) {
            Act act = acts.get(a);
            int p = standing(newPairs, act.thing, act.relation, act.user);
            if (p != NONE == act.writes) {
                failing = 100 + a;
                return NO;
            }
            if (act.writes) {
                Pair q = new Pair();
                q.thing = act.thing;
                q.relation = act.relation;
                q.user = act.user;
                q.end = act.end;
                q.wrote = latest + 1;
                newPairs.add(q);
                newChanges.add(new Change(latest + 1, newPairs.size() - 1, false));
            } else {
                newPairs.get(p).struck = latest + 1;
                newChanges.add(new Change(latest + 1, p, true));
            }
        }
        return hasRing(newPairs) ? RING : 0;
    }

    int commit() {
        List<Pair> newPairs = new ArrayList<>();
        List<Change> newChanges = new ArrayList<>();
        int by = attempt(newPairs, newChanges);
        if (by == NO) {
            failed = failing;
        }
        if (by != 0) {
            return no(by);
        }
        pairs = newPairs;
        changes = newChanges;
        acts.clear();
        conditions.clear();
        return ++latest;
    }

    int failed() {
        return failed;
    }

    int undo(int t) {
        if (t < 1 || t > latest) {
            return no(BEYOND);
        }
        forget();
        for (int c = changes.size() - 1; c >= 0; c--) {
            Change change = changes.get(c);
            if (change.turn == t) {
                Pair p = pairs.get(change.pair);
                acts.add(new Act(p.thing, p.relation, p.user, change.struck ? p.end : 0, change.struck));
            }
        }
        return acts.size();
    }

    int tick(int n) {
        if (n < 0) {
            return no(BELOW);
        }
        if ((long) tick + n > 1000000) {
            return no(NO);
        }
        return tick += n;
    }

    int count(int what) {
        int[] counts = {latest, tick, acts.size(), conditions.size(), pairs.size(), kinds.size()};
        return outside(what, 6) ? no(NO) : counts[what];
    }

    private static boolean inForce(Pair p, int t) {
        return p.wrote <= t && (p.struck == NONE || t < p.struck);
    }

    int inForce(int t) {
        return noTurn(t) ? no(BEYOND) : (int) pairs.stream().filter(p -> inForce(p, t)).count();
    }

    int pair(int p, int what) {
        if (outside(p, pairs.size())) {
            return no(BEYOND);
        }
        Pair q = pairs.get(p);
        int[] told = {q.thing, q.relation, q.user, q.end, q.wrote, q.struck};
        return outside(what, 6) ? no(NO) : told[what];
    }

    int change(int t, int i) {
        if (noTurn(t)) {
            return no(BEYOND);
        }
        if (i < 0) {
            return no(BELOW);
        }
        List<Change> after = changes.stream().filter(c -> c.turn > t).toList();
        return i < after.size() ? 2 * after.get(i).pair + (after.get(i).struck ? 1 : 0) : NONE;
    }

    int may(int thing, int relation, int person, int t) {
        if (noSpot(thing, relation) || outside(person, 40) || noTurn(t)) {
            return no(BEYOND);
        }
        return new Look(pairs, t, NONE).costs(thing, relation).containsKey(person) ? 1 : 0;
    }

    long who(int thing, int relation, int t) {
        if (noSpot(thing, relation) || noTurn(t)) {
            no(BEYOND);
            return 0;
        }
        return new Look(pairs, t, NONE).bits(thing, relation);
    }

    int reach(int kind, int relation, int person, int from, int t) {
        if (outside(kind, 6) || outside(relation, 8) || outside(person, 40) || noTurn(t)) {
            return no(BEYOND);
        }
        if (from < 0) {
            return no(BELOW);
        }
        for (int thing : reached(kind, relation, person, t)) {
            if (thing >= from) {
                return thing;
            }
        }
        return NONE;
    }

    private List<Integer> reached(int kind, int relation, int person, int t) {
        Look look = new Look(pairs, t, NONE);
        List<Integer> all = new ArrayList<>();
        for (int thing = 0; thing < kinds.size(); thing++) {
            if (kinds.get(thing) == kind && look.costs(thing, relation).containsKey(person)) {
                all.add(thing);
            }
        }
        return all;
    }

    int why(int thing, int relation, int person, int t) {
        if (noSpot(thing, relation) || outside(person, 40) || noTurn(t)) {
            return no(BEYOND);
        }
        Look look = new Look(pairs, t, NONE);
        Integer cost = look.costs(thing, relation).get(person);
        if (cost == null) {
            return no(MISSING);
        }
        reason = new ArrayList<>();
        look.tellReason(thing, relation, person, reason);
        if (reason.size() > 60) {
            reason = reason.subList(0, 60);
        }
        asked = new int[] {thing, relation, person, t};
        return cost;
    }

    int reason(int i) {
        return outside(i, reason.size()) ? no(BEYOND) : reason.get(i);
    }

    int without(int p) {
        if (outside(p, pairs.size())) {
            return no(BEYOND);
        }
        if (asked == null) {
            return no(MISSING);
        }
        return new Look(pairs, asked[3], p).costs(asked[0], asked[1]).containsKey(asked[2]) ? 1 : 0;
    }

    long would(int thing, int relation, boolean opens) {
        if (noSpot(thing, relation)) {
            no(BEYOND);
            return 0;
        }
        List<Pair> newPairs = new ArrayList<>();
        int by = attempt(newPairs, new ArrayList<>());
        if (by != 0) {
            no(by);
            return 0;
        }
        long now = new Look(pairs, latest, NONE).bits(thing, relation);
        long then = new Look(newPairs, latest + 1, NONE).bits(thing, relation);
        return opens ? then & ~now : now & ~then;
    }

    int differ(int t, int u) {
        if (noTurn(t) || noTurn(u)) {
            return no(BEYOND);
        }
        Look one = new Look(pairs, t, NONE);
        Look other = new Look(pairs, u, NONE);
        int many = 0;
        for (int thing = 0; thing < kinds.size(); thing++) {
            for (int relation = 0; relation < 8; relation++) {
                many += Long.bitCount(one.bits(thing, relation) ^ other.bits(thing, relation));
            }
        }
        return many;
    }

    int list(int kind, int relation, int person, int t) {
        if (outside(kind, 6) || outside(relation, 8) || outside(person, 40) || noTurn(t)) {
            return no(BEYOND);
        }
        row = reached(kind, relation, person, t);
        return row.size();
    }

    int tear() {
        int was = row == null ? 0 : 1;
        row = null;
        return was;
    }

    int row(int i) {
        if (row == null) {
            return no(MISSING);
        }
        return outside(i, row.size()) ? no(BEYOND) : row.get(i);
    }

    int copy(int i, int j, int n) {
        if (row == null) {
            return no(MISSING);
        }
        if (n < 0) {
            return no(BELOW);
        }
        if (i < 0 || j < 0 || (long) i + n > row.size() || (long) j + n > row.size()) {
            return no(COPY);
        }
        List<Integer> as = new ArrayList<>(row);
        for (int k = 0; k < n; k++) {
            row.set(j + k, as.get(i + k));
        }
        return n;
    }

    int status(int by) {
        return by > -2 || by < -9 ? no(NO) : refused[-by];
    }

    /** Whether a kind and relation leads over the second one of a LESS to itself. */
    private boolean hasRing(List<Pair> ever) {
        Set<Lead> leads = new HashSet<>();
        for (int key : places.keySet()) {
            if (places.get(key) != NONE) {
                findLeads(key, places.get(key), false, ever, leads, new HashSet<>());
            }
        }
        for (Lead lead : leads) {
            if (lead.over && leadsTo(lead.to, lead.from, leads, new HashSet<>())) {
                return true;
            }
        }
        return false;
    }

    private void findLeads(int key, int place, boolean over, List<Pair> ever, Set<Lead> leads, Set<Integer> seen) {
        int[] rule = rules.get(place);
        if (rule == null || !seen.add(place * 2 + (over ? 1 : 0))) {
            return;
        }
        int kind = key / 8;
        switch (rule[0]) {
            case 0, 1 -> {
                for (Pair p : ever) {
                    if (kinds.get(p.thing) == kind && p.relation == key % 8 && p.user >= 1000) {
                        int thing = (p.user - 1000) / 10;
                        leads.add(new Lead(key, kinds.get(thing) * 8 + p.user % 10, over));
                    }
                }
            }
            case 2 -> leads.add(new Lead(key, kind * 8 + rule[1], over));
            case 3 -> {
                for (int k = 0; k < 6; k++) {
                    leads.add(new Lead(key, k * 8 + rule[2], over));
                }
            }
            default -> {
                findLeads(key, rule[1], over, ever, leads, seen);
                findLeads(key, rule[2], over || rule[0] == 6, ever, leads, seen);
            }
        }
    }

    private static boolean leadsTo(int from, int to, Set<Lead> leads, Set<Integer> seen) {
        if (from == to) {
            return true;
        }
        if (!seen.add(from)) {
            return false;
        }
        for (Lead lead : leads) {
            if (lead.from == from && leadsTo(lead.to, to, leads, seen)) {
                return true;
            }
        }
        return false;
    }

    /** Costs of all who are in, by spot: nobody who is not in has one. */
    private final class Look {
        final List<Pair> of;
        final Map<Integer, List<Integer>> counting = new HashMap<>();
        List<Map<Integer, Integer>> in;

        Look(List<Pair> of, int turn, int without) {
            this.of = of;
            for (int p = 0; p < of.size(); p++) {
                Pair q = of.get(p);
                if (p != without && NaiveWeb.inForce(q, turn) && (q.end == 0 || q.end > tick)) {
                    counting.computeIfAbsent(q.thing * 8 + q.relation, k -> new ArrayList<>()).add(p);
                }
            }
            List<Map<Integer, Integer>> guess = nobody();
            in = least(guess);
            for (int again = 0; again < 100 && !keys(in).equals(keys(guess)); again++) {
                guess = in;
                in = least(guess);
            }
        }

        Map<Integer, Integer> costs(int thing, int relation) {
            return in.get(thing * 8 + relation);
        }

        long bits(int thing, int relation) {
            long all = 0;
            for (int person : costs(thing, relation).keySet()) {
                all |= 1L << person;
            }
            return all;
        }

        private List<Map<Integer, Integer>> nobody() {
            List<Map<Integer, Integer>> none = new ArrayList<>();
            for (int spot = 0; spot < kinds.size() * 8; spot++) {
                none.add(Map.of());
            }
            return none;
        }

        private List<Set<Integer>> keys(List<Map<Integer, Integer>> of) {
            List<Set<Integer>> all = new ArrayList<>();
            for (Map<Integer, Integer> some : of) {
                all.add(some.keySet());
            }
            return all;
        }

        /** The least that can be, if a LESS takes away who is in by the guess. */
        private List<Map<Integer, Integer>> least(List<Map<Integer, Integer>> guess) {
            List<Map<Integer, Integer>> was = null;
            List<Map<Integer, Integer>> now = nobody();
            while (!now.equals(was)) {
                was = now;
                now = new ArrayList<>();
                for (int spot = 0; spot < kinds.size() * 8; spot++) {
                    now.add(told(placeOf(spot), spot / 8, spot % 8, was, guess));
                }
            }
            return now;
        }

        private int placeOf(int spot) {
            return places.getOrDefault(kinds.get(spot / 8) * 8 + spot % 8, NONE);
        }

        private Map<Integer, Integer> told(int place, int thing, int relation,
                List<Map<Integer, Integer>> now, List<Map<Integer, Integer>> guess) {
            int[] rule = rules.get(place);
            Map<Integer, Integer> all = new HashMap<>();
            if (rule == null) {
                return all;
            }
            switch (rule[0]) {
                case 0, 1 -> {
                    for (int p : counting.getOrDefault(thing * 8 + relation, List.of())) {
                        Pair q = of.get(p);
                        if ((q.end == 0) != (rule[0] == 0)) {
                            continue;
                        }
                        if (q.user < 40) {
                            all.merge(q.user, 1, Math::min);
                        } else if (q.user >= 1000) {
                            add(all, now.get((q.user - 1000) / 10 * 8 + q.user % 10));
                        }
                    }
                }
                case 2 -> add(all, now.get(thing * 8 + rule[1]));
                case 3 -> {
                    for (int p : counting.getOrDefault(thing * 8 + rule[1], List.of())) {
                        int user = of.get(p).user;
                        if (user >= 100 && user < 1000) {
                            add(all, now.get((user - 100) * 8 + rule[2]));
                        }
                    }
                }
                default -> join(rule, all, thing, relation, now, guess);
            }
            return all;
        }

        private void join(int[] rule, Map<Integer, Integer> all, int thing, int relation,
                List<Map<Integer, Integer>> now, List<Map<Integer, Integer>> guess) {
            Map<Integer, Integer> x = told(rule[1], thing, relation, now, guess);
            Map<Integer, Integer> y = told(rule[2], thing, relation, rule[0] == 6 ? guess : now, guess);
            all.putAll(x);
            if (rule[0] == 4) {
                y.forEach((person, cost) -> all.merge(person, cost, Math::min));
            } else if (rule[0] == 5) {
                all.keySet().retainAll(y.keySet());
                all.replaceAll((person, cost) -> Math.max(cost, y.get(person)));
            } else {
                all.keySet().removeAll(y.keySet());
            }
        }

        private void add(Map<Integer, Integer> all, Map<Integer, Integer> behind) {
            behind.forEach((person, cost) -> all.merge(person, cost + 1, Math::min));
        }

        void tellReason(int thing, int relation, int person, List<Integer> to) {
            tellReason(placeOf(thing * 8 + relation), thing, relation, person, to);
        }

        private void tellReason(int place, int thing, int relation, int person, List<Integer> to) {
            if (to.size() >= 60) {
                return;
            }
            int[] rule = rules.get(place);
            switch (rule[0]) {
                case 0, 1, 3 -> tellPair(rule, thing, rule[0] == 3 ? rule[1] : relation, person, to);
                case 2 -> tellReason(thing, rule[1], person, to);
                case 4 -> {
                    int x = told(rule[1], thing, relation, in, in).getOrDefault(person, 1 << 20);
                    int y = told(rule[2], thing, relation, in, in).getOrDefault(person, 1 << 20);
                    tellReason(x <= y ? rule[1] : rule[2], thing, relation, person, to);
                }
                case 5 -> {
                    tellReason(rule[1], thing, relation, person, to);
                    tellReason(rule[2], thing, relation, person, to);
                }
                default -> tellReason(rule[1], thing, relation, person, to);
            }
        }

        private void tellPair(int[] rule, int thing, int relation, int person, List<Integer> to) {
            int best = NONE;
            int least = 1 << 20;
            int[] on = null;
            for (int p : counting.getOrDefault(thing * 8 + relation, List.of())) {
                int user = of.get(p).user;
                int[] next = null;
                int cost = 1 << 20;
                if (rule[0] == 3) {
                    next = user >= 100 && user < 1000 ? new int[] {user - 100, rule[2]} : null;
                } else if ((of.get(p).end == 0) == (rule[0] == 0)) {
                    next = user >= 1000 ? new int[] {(user - 1000) / 10, user % 10} : null;
                    cost = user == person ? 0 : cost;
                }
                if (next != null) {
                    cost = costs(next[0], next[1]).getOrDefault(person, 1 << 20);
                }
                if (cost < least) {
                    best = p;
                    least = cost;
                    on = next;
                }
            }
            to.add(best);
            if (on != null) {
                tellReason(on[0], on[1], person, to);
            }
        }
    }

    @Override
    public String toString() {
        return "rules " + rules.size() + " pairs " + pairs.size() + " " + Arrays.toString(refused);
    }
}
