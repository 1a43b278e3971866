import java.util.ArrayList;
import java.util.List;
import java.util.Random;

/** Runs of calls, drawn with fixed seeds, in which RightsWeb and NaiveWeb must answer alike. */
public final class AgreementTests {
    /** What a place holds at first: joins and what leads on are common, or little is to be told. */
    private static final int[] SORTS = {0, 2, 2, 2, 3, 3, 3, 4, 4, 4, 4, 4, 5, 5, 6};
    private static final int[] ODD = {-1, -2, 5, 6, 7, 8, 9, 39, 40, 41, 63, 64, 99, 100, 139, 140, 999, 1000, 1008,
        1399, 1400, 1000000, 1000001, Integer.MAX_VALUE, Integer.MIN_VALUE};

    private final Random random;
    private final RightsWeb web = new RightsWeb();
    private final NaiveWeb naive = new NaiveWeb();
    private final List<String> calls = new ArrayList<>();
    private final int things;
    private final int kinds;
    private final int relations;
    private final int persons;
    private final int places;
    private final int oddOf;
    private final int rulesOf;
    private String wrong = null;
    private static final int[] SEEN = new int[10];
    private static int longest = 0;

    private AgreementTests(long seed) {
        random = new Random(seed);
        things = 1 + random.nextInt(8);
        kinds = 1 + random.nextInt(3);
        relations = 1 + random.nextInt(random.nextBoolean() ? 4 : 8);
        persons = 1 + random.nextInt(6);
        places = 4 + random.nextInt(12);
        int seldom = random.nextInt(3) == 0 ? 20 : 200;
        oddOf = seed % 10 == 0 ? 4 : seldom;
        rulesOf = random.nextInt(2) * 8;
    }

    public static void main(String[] args) {
        int runs = args.length > 0 ? Integer.parseInt(args[0]) : 600;
        int first = args.length > 1 ? Integer.parseInt(args[1]) : 1;
        int perTest = 100;
        Checks checks = new Checks();
        for (int run = 0; run < runs; run++) {
            AgreementTests test = new AgreementTests(first + run);
            test.run();
            if (test.wrong != null) {
                System.out.println("seed " + (first + run) + ": " + String.join("; ", test.calls));
            }
            checks.isTrue("seed " + (first + run) + ": " + test.wrong, test.wrong == null);
            if ((run + 1) % perTest == 0 || run + 1 == runs) {
                checks.end("agreement with the naive web, to seed " + (first + run));
            }
        }
        for (int by = 2; by <= 9; by++) {
            checks.isTrue("the runs meet refusals by -" + by, SEEN[by] > 0);
        }
        checks.isTrue("the runs meet costs of 5 and more", longest >= 5);
        checks.end("the runs meet every refusal and long reasons");
        checks.exit();
    }

    private void run() {
        for (int t = 0; t < things; t++) {
            call(0);
        }
        for (int i = 0; i < places; i++) {
            setRule(i, i < 2 ? i : i == 2 ? 4 : SORTS[random.nextInt(SORTS.length)]);
        }
        for (int i = 0; i < kinds * relations; i++) {
            int kind = i / relations;
            int relation = i % relations;
            int place = random.nextInt(3) == 0 ? random.nextInt(2) * 2 : random.nextInt(places);
            same("relate(" + kind + ", " + relation + ", " + place + ")", web.relate(kind, relation, place),
                naive.relate(kind, relation, place));
        }
        for (int turn = random.nextInt(5); turn > 0; turn--) {
            for (int act = 0; act < 20; act++) {
                writeNew();
            }
            commit();
        }
        while (calls.size() < 430 && wrong == null) {
            call(random.nextInt(100));
        }
        for (int by = 2; by <= 9 && wrong == null; by++) {
            SEEN[by] += naive.refused[by];
            same("status(-" + by + ")", web.status(-by), naive.status(-by));
        }
    }

    private void same(String call, long got, long want) {
        calls.add(call + " = " + got);
        if (got != want && wrong == null) {
            wrong = "call " + calls.size() + ", " + call + " answered " + got + ", the naive web " + want;
        }
    }

    private int odd(int plain) {
        return random.nextInt(oddOf) == 0 ? ODD[random.nextInt(ODD.length)] : plain;
    }

    private int below(int bound) {
        return odd(random.nextInt(Math.max(1, bound)));
    }

    private int user() {
        int thing = random.nextInt(things);
        switch (random.nextInt(3)) {
            case 0:
                return below(persons);
            case 1:
                return odd(100 + thing);
            default:
                return odd(1000 + 10 * thing + random.nextInt(relations));
        }
    }

    private int turn() {
        return odd(random.nextInt(3) == 0 ? random.nextInt(naive.latest + 1) : naive.latest);
    }

    /** A lower place, often one by which pairs tell. */
    private int lower(int place) {
        return place > 2 && random.nextBoolean() ? random.nextInt(2) * 2 : below(place);
    }

    private void setRule(int place, int plainSort) {
        int sort = odd(plainSort);
        int bound = sort >= 4 ? place : relations;
        int p = odd(place);
        int x = sort >= 4 ? lower(place) : below(bound);
        int y = sort >= 4 ? lower(place) : below(bound);
        same("rule(" + p + ", " + sort + ", " + x + ", " + y + ")", web.rule(p, sort, x, y), naive.rule(p, sort, x, y));
    }

    private void call(int draw) {
        if (draw == 0) {
            int kind = below(kinds);
            same("thing(" + kind + ")", web.thing(kind), naive.thing(kind));
        } else if (draw <= rulesOf) {
            callOnRules(random.nextInt(10));
        } else if (draw <= 55) {
            callOnTurns(random.nextInt(20));
        } else if (draw <= 94) {
            callQuestion(random.nextInt(12));
        } else {
            callOnRow(random.nextInt(6));
        }
    }

    private void callOnRules(int draw) {
        int place = below(places);
        if (draw <= 3) {
            setRule(place, SORTS[random.nextInt(SORTS.length)]);
        } else if (draw == 4) {
            int v = random.nextInt(12) - 10;
            same("name(" + place + ", " + v + ")", web.name(place, v), naive.name(place, v));
        } else if (draw == 5) {
            same("empty(" + place + ")", web.empty(place), naive.empty(place));
        } else if (draw == 6) {
            same("holds(" + place + ")", web.holds(place), naive.holds(place));
            same("named(" + place + ")", web.named(place), naive.named(place));
        } else if (draw == 7) {
            int what = below(2);
            same("asks(" + place + ", " + what + ")", web.asks(place, what), naive.asks(place, what));
        } else {
            int kind = below(kinds);
            int relation = below(relations);
            int p = random.nextInt(10) == 0 ? -1 : place;
            same("relate(" + kind + ", " + relation + ", " + p + ")", web.relate(kind, relation, p),
                naive.relate(kind, relation, p));
        }
    }

    private void callOnTurns(int draw) {
        if (draw <= 8) {
            writeNew();
        } else if (draw <= 12) {
            commit();
        } else if (draw == 13) {
            int t = turn();
            same("undo(" + t + ")", web.undo(t), naive.undo(t));
        } else if (draw == 14) {
            int n = random.nextInt(20) == 0 ? -1 : odd(random.nextInt(4) / 3);
            same("tick(" + n + ")", web.tick(n), naive.tick(n));
        } else if (draw == 15) {
            countAll();
        } else {
            callOnPair(draw - 16);
        }
    }

    /** Writes a pair, one that is in force by then but seldom. */
    private void writeNew() {
        int thing = below(things);
        int relation = below(relations);
        int user = user();
        for (int again = 0; again < 4 && isThere(thing, relation, user); again++) {
            user = user();
        }
        int end = random.nextInt(4) == 0 ? odd(1 + naive.tick + random.nextInt(6)) : 0;
        same("write(" + thing + ", " + relation + ", " + user + ", " + end + ")", web.write(thing, relation, user, end),
            naive.write(thing, relation, user, end));
    }

    private boolean isThere(int thing, int relation, int user) {
        for (NaiveWeb.Pair p : naive.pairs) {
            if (p.struck < 0 && p.thing == thing && p.relation == relation && p.user == user) {
                return true;
            }
        }
        return naive.acts.stream().anyMatch(a -> a.thing() == thing && a.relation() == relation && a.user() == user);
    }

    private void callOnPair(int draw) {
        int thing = below(things);
        int relation = below(relations);
        int user = user();
        if (!naive.pairs.isEmpty() && random.nextInt(8) != 0) {
            NaiveWeb.Pair p = naive.pairs.get(random.nextInt(naive.pairs.size()));
            thing = p.thing;
            relation = p.relation;
            user = p.user;
        }
        boolean isThere = isThere(thing, relation, user);
        String pair = thing + ", " + relation + ", " + user;
        if (draw <= 1 && isThere || draw == 2) {
            same("strike(" + pair + ")", web.strike(thing, relation, user), naive.strike(thing, relation, user));
        } else if (draw <= 1) {
            same("write(" + pair + ", 0)", web.write(thing, relation, user, 0), naive.write(thing, relation, user, 0));
        } else {
            boolean there = random.nextInt(8) == 0 ^ isThere;
            same("when(" + pair + ", " + there + ")", web.when(thing, relation, user, there),
                naive.when(thing, relation, user, there));
        }
    }

    private void commit() {
        int got = web.commit();
        same("commit()", got, naive.commit());
        same("failed()", web.failed(), naive.failed());
        if (got < 0 && random.nextInt(8) != 0) {
            same("forget()", web.forget(), naive.forget());
        }
    }

    private void countAll() {
        int what = below(6);
        same("count(" + what + ")", web.count(what), naive.count(what));
        int t = turn();
        same("inForce(" + t + ")", web.inForce(t), naive.inForce(t));
        int p = below(naive.pairs.size());
        same("pair(" + p + ", " + what + ")", web.pair(p, what), naive.pair(p, what));
        int i = below(8);
        same("change(" + t + ", " + i + ")", web.change(t, i), naive.change(t, i));
    }

    private void callQuestion(int draw) {
        int thing = below(things);
        int relation = below(relations);
        int person = below(persons);
        int kind = below(kinds);
        int t = turn();
        int u = turn();
        int spot = random.nextInt(8) == 0 ? -1 : spotWithSomebody(t);
        if (spot >= 0) {
            thing = spot / 8;
            relation = spot % 8;
            kind = naive.kinds.get(thing);
            person = odd(somebody(spot, t));
        }
        if (draw <= 1) {
            same("who(" + thing + ", " + relation + ", " + t + ")", web.who(thing, relation, t),
                naive.who(thing, relation, t));
        } else if (draw == 2) {
            same("may(" + thing + ", " + relation + ", " + person + ", " + t + ")", web.may(thing, relation, person, t),
                naive.may(thing, relation, person, t));
        } else if (draw == 3) {
            int from = below(things);
            same("reach(" + kind + ", " + relation + ", " + person + ", " + from + ", " + t + ")",
                web.reach(kind, relation, person, from, t), naive.reach(kind, relation, person, from, t));
        } else if (draw <= 7) {
            askWhy(thing, relation, person, t);
        } else if (draw <= 9) {
            boolean opens = random.nextBoolean();
            same("would(" + thing + ", " + relation + ", " + opens + ")", web.would(thing, relation, opens),
                naive.would(thing, relation, opens));
        } else if (draw == 10) {
            same("differ(" + t + ", " + u + ")", web.differ(t, u), naive.differ(t, u));
        } else {
            same("list(" + kind + ", " + relation + ", " + person + ", " + t + ")", web.list(kind, relation, person, t),
                naive.list(kind, relation, person, t));
        }
    }

    /** One of some spots in which somebody is, or -1. */
    private int spotWithSomebody(int t) {
        if (t < 0 || t > naive.latest || naive.kinds.isEmpty()) {
            return -1;
        }
        for (int again = 0; again < 6; again++) {
            int spot = random.nextInt(naive.kinds.size()) * 8 + random.nextInt(relations);
            if (naive.who(spot / 8, spot % 8, t) != 0) {
                return spot;
            }
        }
        return -1;
    }

    private int somebody(int spot, int t) {
        long bits = naive.who(spot / 8, spot % 8, t);
        int person = random.nextInt(40);
        for (int step = 0; step < 40 && (bits >>> person & 1) == 0; step++) {
            person = (person + 1) % 40;
        }
        return person;
    }

    private void askWhy(int thing, int relation, int person, int t) {
        int cost = web.why(thing, relation, person, t);
        same("why(" + thing + ", " + relation + ", " + person + ", " + t + ")", cost,
            naive.why(thing, relation, person, t));
        longest = Math.max(longest, cost);
        for (int i = 0; i < 6 && i <= naive.reason.size() && cost > 0; i++) {
            same("reason(" + i + ")", web.reason(i), naive.reason(i));
        }
        // the rest is looked at without more calls being counted for the run
        for (int i = 6; i < naive.reason.size() && i < 62 && cost > 0; i++) {
            same("reason(" + i + ")", web.reason(i), naive.reason(i));
        }
        int p = below(naive.pairs.size());
        if (!naive.reason.isEmpty() && random.nextBoolean()) {
            p = naive.reason.get(random.nextInt(naive.reason.size()));
        }
        same("without(" + p + ")", web.without(p), naive.without(p));
    }

    private void callOnRow(int draw) {
        int size = naive.row == null ? 3 : naive.row.size() + 1;
        int i = below(size);
        int j = below(size);
        int n = random.nextInt(12) == 0 ? -1 : below(size);
        if (draw == 0) {
            same("tear()", web.tear(), naive.tear());
        } else if (draw <= 2) {
            same("copy(" + i + ", " + j + ", " + n + ")", web.copy(i, j, n), naive.copy(i, j, n));
        } else if (draw <= 4) {
            same("row(" + i + ")", web.row(i), naive.row(i));
        } else {
            same("status(" + (-i) + ")", web.status(-i), naive.status(-i));
        }
    }
}
