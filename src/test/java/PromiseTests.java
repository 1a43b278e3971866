import java.lang.reflect.Constructor;
import java.lang.reflect.Field;
import java.lang.reflect.Method;
import java.lang.reflect.Modifier;
import java.util.Set;
import java.util.TreeSet;

/** A test or more for each promise of the document: ordinary inputs, its edges, and each refusal in its line's order. */
public final class PromiseTests {
    private static final int NONE = -1, MISSING = -2, BEYOND = -3, BELOW = -4, KIND = -5, COPY = -6, RING = -7, NO = -8,
        FULL = -9;
    private static final int HERE = 0, UNTIL = 1, ALSO = 2, THROUGH = 3, ANY = 4, ALL = 5, LESS = 6;
    private static final int LOW = Integer.MIN_VALUE, HIGH = Integer.MAX_VALUE;

    private static final Checks CHECKS = new Checks();

    private PromiseTests() {
    }

    public static void main(String[] args) {
        theFace();
        newObject();
        thing();
        rule();
        ruleNumbers();
        ruleRing();
        name();
        empty();
        holds();
        asks();
        named();
        relate();
        relateRing();
        write();
        writeUsers();
        strike();
        when();
        forget();
        commit();
        commitAllOrNone();
        commitFull();
        commitRing();
        failed();
        undo();
        tick();
        count();
        inForce();
        pair();
        change();
        may();
        who();
        whoByRules();
        whoByRings();
        whoByLessInLayers();
        whoByLessOverAllKnots();
        whoByEmptyPlaces();
        whoByTicksAndTurns();
        reach();
        why();
        whyByJoins();
        whyBesidesLess();
        reason();
        reasonTies();
        reasonOfAll();
        reasonOfManyAlls();
        reasonOfWaitingAlls();
        reasonAlongAll();
        without();
        would();
        wouldRefused();
        differ();
        list();
        tear();
        row();
        copy();
        status();
        CHECKS.exit();
    }

    private static void due(String what, long got, long want) {
        CHECKS.due(what, got, want);
    }

    private static void end(String test) {
        CHECKS.end(test);
    }

    /** Some things of kind 0; relation r has place r: in 0 .. 7 stands HERE. */
    private static RightsWeb plain(int things) {
        RightsWeb web = new RightsWeb();
        for (int t = 0; t < things; t++) {
            web.thing(0);
        }
        for (int r = 0; r < 8; r++) {
            web.rule(r, HERE, 0, 0);
            web.relate(0, r, r);
        }
        return web;
    }

    /** Writes one pair in a turn of its own. */
    private static int turn(RightsWeb web, int thing, int relation, int user) {
        web.write(thing, relation, user, 0);
        return web.commit();
    }

    private static long bits(int... persons) {
        long all = 0;
        for (int p : persons) {
            all |= 1L << p;
        }
        return all;
    }

    // ---- the face

    private static void theFace() {
        Set<String> face = new TreeSet<>();
        for (Method m : RightsWeb.class.getDeclaredMethods()) {
            if (!Modifier.isPrivate(m.getModifiers())) {
                face.add(m.getName() + m.getParameterCount() + m.getReturnType() + Modifier.toString(m.getModifiers()));
            }
        }
        String[] ints = {"thing1", "rule4", "name2", "empty1", "holds1", "asks2", "named1", "relate3", "write4",
            "strike3", "when4", "forget0", "commit0", "failed0", "undo1", "tick1", "count1", "inForce1", "pair2",
            "change2", "may4", "reach5", "why4", "reason1", "without1", "differ2", "list4", "tear0", "row1", "copy3",
            "status1"};
        Set<String> want = new TreeSet<>();
        for (String s : ints) {
            want.add(s + "intpublic");
        }
        want.add("who3longpublic");
        want.add("would3longpublic");
        CHECKS.isTrue("the methods are " + face, face.equals(want));
        int constants = 0;
        for (Field f : RightsWeb.class.getDeclaredFields()) {
            if (!Modifier.isPrivate(f.getModifiers())) {
                constants++;
                CHECKS.isTrue(f + " is a constant", Modifier.isStatic(f.getModifiers()) && Modifier.isFinal(f.getModifiers()));
            }
        }
        due("constants", constants, 9);
        Constructor<?>[] constructors = RightsWeb.class.getConstructors();
        due("constructors", constructors.length, 1);
        due("NONE", RightsWeb.NONE, NONE);
        due("MISSING", RightsWeb.MISSING, MISSING);
        due("BEYOND", RightsWeb.BEYOND, BEYOND);
        due("BELOW", RightsWeb.BELOW, BELOW);
        due("KIND", RightsWeb.KIND, KIND);
        due("COPY", RightsWeb.COPY, COPY);
        due("RING", RightsWeb.RING, RING);
        due("NO", RightsWeb.NO, NO);
        due("FULL", RightsWeb.FULL, FULL);
        end("the public face");
    }

    // ---- things, rules

    private static void newObject() {
        RightsWeb web = new RightsWeb();
        for (int what = 0; what <= 5; what++) {
            due("count(" + what + ")", web.count(what), 0);
        }
        for (int place = 0; place < 64; place++) {
            due("holds(" + place + ")", web.holds(place), NONE);
        }
        due("inForce(0)", web.inForce(0), 0);
        due("change(0, 0)", web.change(0, 0), NONE);
        due("failed()", web.failed(), NONE);
        due("tear()", web.tear(), 0);
        due("thing(3)", web.thing(3), 0);
        due("who(0, 0, 0)", web.who(0, 0, 0), 0);
        for (int by = FULL; by <= MISSING; by++) {
            due("status(" + by + ")", web.status(by), 0);
        }
        due("two objects share nothing", new RightsWeb().count(5), 0);
        end("promise 1: a new object");
    }

    private static void thing() {
        RightsWeb web = new RightsWeb();
        due("thing(-1)", web.thing(-1), BEYOND);
        due("thing(6)", web.thing(6), BEYOND);
        for (int t = 0; t < 40; t++) {
            due("thing(" + t % 6 + ")", web.thing(t % 6), t);
        }
        due("thing(0) of 40", web.thing(0), FULL);
        due("thing(6) of 40", web.thing(6), BEYOND);
        due("thing(HIGH)", web.thing(HIGH), BEYOND);
        due("count(5)", web.count(5), 40);
        due("status(BEYOND)", web.status(BEYOND), 4);
        due("status(FULL)", web.status(FULL), 1);
        end("promise 2: thing");
    }

    private static void rule() {
        RightsWeb web = new RightsWeb();
        for (int sort = HERE; sort <= LESS; sort++) {
            due("rule(63, " + sort + ", 1, 2)", web.rule(63, sort, 1, 2), 1);
            due("holds(63)", web.holds(63), sort);
        }
        due("rule(0, HERE)", web.rule(0, HERE, LOW, HIGH), 1);
        due("rule(0, UNTIL)", web.rule(0, UNTIL, HIGH, LOW), 1);
        due("rule(0, ALSO)", web.rule(0, ALSO, 7, 99), 1);
        due("rule(1, ANY 0 0), of an empty place too", new RightsWeb().rule(1, ANY, 0, 0), 1);
        web.name(5, 3);
        due("rule on a name", web.rule(5, THROUGH, 0, 7), 1);
        due("what was there goes", web.named(5), KIND);
        end("promise 3: rule");
    }

    private static void ruleNumbers() {
        RightsWeb web = new RightsWeb();
        web.name(9, 4);
        due("place -1", web.rule(-1, 9, 0, 0), BEYOND);
        due("place 64", web.rule(64, HERE, 0, 0), BEYOND);
        due("ALSO -1", web.rule(9, ALSO, -1, 0), BEYOND);
        due("ALSO 8", web.rule(9, ALSO, 8, 0), BEYOND);
        due("THROUGH 8 0", web.rule(9, THROUGH, 8, 0), BEYOND);
        due("THROUGH 0 8", web.rule(9, THROUGH, 0, 8), BEYOND);
        due("THROUGH 0 -1", web.rule(9, THROUGH, 0, -1), BEYOND);
        due("sort -1", web.rule(9, -1, 0, 0), NO);
        due("sort 7", web.rule(9, 7, 0, 0), NO);
        due("sort HIGH", web.rule(9, HIGH, 0, 0), NO);
        for (int sort = ANY; sort <= LESS; sort++) {
            due("x own place", web.rule(9, sort, 9, 0), NO);
            due("y own place", web.rule(9, sort, 0, 9), NO);
            due("x above", web.rule(9, sort, 10, 0), NO);
            due("x below 0", web.rule(9, sort, -1, 0), NO);
            due("y below 0", web.rule(9, sort, 0, LOW), NO);
            due("y above", web.rule(9, sort, 0, HIGH), NO);
            due("place 0 has no lower one", web.rule(0, sort, 0, 0), NO);
        }
        due("refused it stays", web.named(9), 4);
        due("status(BEYOND)", web.status(BEYOND), 7);
        due("status(NO)", web.status(NO), 24);
        end("promise 3: rule, numbers that are refused");
    }

    private static void ruleRing() {
        RightsWeb web = new RightsWeb();
        web.rule(0, HERE, 0, 0);
        web.rule(1, ALSO, 1, 0);
        web.rule(2, LESS, 0, 1);
        web.relate(3, 0, 2);
        web.relate(3, 1, 4);
        due("ALSO in a place that no relation has", web.rule(3, ALSO, 0, 0), 1);
        due("ALSO back over the LESS", web.rule(4, ALSO, 0, 0), RING);
        due("refused it stays", web.holds(4), NONE);
        due("ANY back over the LESS", web.rule(4, ANY, 0, 3), RING);
        due("THROUGH, of all kinds", web.rule(4, THROUGH, 5, 0), RING);
        due("THROUGH to another relation", web.rule(4, THROUGH, 0, 5), 1);
        due("back over a THROUGH's way", web.relate(1, 5, 4), 1);
        web.rule(10, THROUGH, 0, 0);
        due("another kind's relation leads back", web.relate(1, 5, 10), RING);
        web.name(4, 8);
        due("a name leads nowhere", web.relate(1, 5, 10), 1);
        due("the name is refused to go", web.rule(4, THROUGH, 1, 5), RING);
        due("it stays with what it was", web.named(4), 8);
        due("the LESS itself: its first may lead back", web.rule(2, LESS, 0, 1), 1);
        due("the second may not", web.rule(1, ALSO, 0, 0), RING);
        due("the second THROUGH may not", web.rule(1, THROUGH, 7, 0), RING);
        web.rule(0, ALSO, 0, 0);
        due("holds(0)", web.holds(0), ALSO);
        due("a LESS in the second of a LESS", web.rule(1, LESS, 0, 0), RING);
        due("asks(1, 0) as it was", web.asks(1, 0), 1);
        web.rule(4, THROUGH, 3, 6);
        due("a THROUGH back", web.rule(4, THROUGH, 7, 0), RING);
        due("asks(4, 0) as it was", web.asks(4, 0), 3);
        due("asks(4, 1) as it was", web.asks(4, 1), 6);
        due("status(RING)", web.status(RING), 9);
        end("promise 3: rule, rings");
    }

    private static void name() {
        RightsWeb web = new RightsWeb();
        web.rule(1, HERE, 0, 0);
        due("name(0, HIGH)", web.name(0, HIGH), 1);
        due("named(0)", web.named(0), HIGH);
        due("name(63, LOW)", web.name(63, LOW), 1);
        due("named(63)", web.named(63), LOW);
        due("name on a rule", web.name(1, -3), 1);
        due("holds(1)", web.holds(1), 7);
        due("named(1), a name that looks like a refusal", web.named(1), -3);
        due("it is none", web.status(BEYOND), 0);
        due("name(64, 1)", web.name(64, 1), BEYOND);
        due("name(-1, 1)", web.name(-1, 1), BEYOND);
        due("status(BEYOND)", web.status(BEYOND), 2);
        end("promise 4: name");
    }

    private static void empty() {
        RightsWeb web = new RightsWeb();
        web.rule(0, THROUGH, 1, 2);
        web.name(63, 0);
        due("empty(0)", web.empty(0), 1);
        due("holds(0)", web.holds(0), NONE);
        due("empty(0) again", web.empty(0), 0);
        due("empty(63)", web.empty(63), 1);
        due("named(63)", web.named(63), MISSING);
        due("empty(64)", web.empty(64), BEYOND);
        due("empty(-1)", web.empty(-1), BEYOND);
        end("promise 5: empty");
    }

    private static void holds() {
        RightsWeb web = new RightsWeb();
        due("holds nothing", web.holds(63), NONE);
        for (int sort = HERE; sort <= LESS; sort++) {
            web.rule(63, sort, 0, 0);
            due("holds(63)", web.holds(63), sort);
        }
        web.name(63, 5);
        due("holds a name", web.holds(63), 7);
        due("holds(64)", web.holds(64), BEYOND);
        due("holds(-1)", web.holds(-1), BEYOND);
        due("holds(LOW)", web.holds(LOW), BEYOND);
        due("NONE is no refusal", web.status(BEYOND), 3);
        end("promise 6: holds");
    }

    private static void asks() {
        RightsWeb web = new RightsWeb();
        int[] x = {NONE, NONE, 3, 3, 3, 3, 3};
        int[] y = {NONE, NONE, NONE, 4, 4, 4, 4};
        for (int sort = HERE; sort <= LESS; sort++) {
            web.rule(9, sort, 3, 4);
            due("asks(9, 0) of " + sort, web.asks(9, 0), x[sort]);
            due("asks(9, 1) of " + sort, web.asks(9, 1), y[sort]);
        }
        web.name(8, 2);
        due("BEYOND ahead of NO", web.asks(64, 2), BEYOND);
        due("asks(-1, 0)", web.asks(-1, 0), BEYOND);
        due("MISSING ahead of NO", web.asks(7, 2), MISSING);
        due("KIND ahead of NO", web.asks(8, 2), KIND);
        due("asks(9, 2)", web.asks(9, 2), NO);
        due("asks(9, -1)", web.asks(9, -1), NO);
        due("status(NO)", web.status(NO), 2);
        end("promise 7: asks");
    }

    private static void named() {
        RightsWeb web = new RightsWeb();
        web.rule(1, HERE, 0, 0);
        web.name(2, -9);
        due("named(-1)", web.named(-1), BEYOND);
        due("named(64)", web.named(64), BEYOND);
        due("named(0)", web.named(0), MISSING);
        due("named(1)", web.named(1), KIND);
        due("named(2)", web.named(2), -9);
        due("status(FULL)", web.status(FULL), 0);
        due("status(KIND)", web.status(KIND), 1);
        due("status(MISSING)", web.status(MISSING), 1);
        end("promise 8: named");
    }

    private static void relate() {
        RightsWeb web = plain(1);
        turn(web, 0, 0, 6);
        due("who(0, 0, 1)", web.who(0, 0, 1), bits(6));
        due("relate(0, 0, NONE)", web.relate(0, 0, NONE), 1);
        due("none without a place", web.who(0, 0, 1), 0);
        due("relate(0, 0, 63)", web.relate(0, 0, 63), 1);
        due("none by a place that holds nothing", web.who(0, 0, 1), 0);
        web.name(63, 1);
        due("none by a name", web.who(0, 0, 1), 0);
        web.rule(63, HERE, 0, 0);
        due("some by its rule", web.who(0, 0, 1), bits(6));
        due("relate(5, 7, 0)", web.relate(5, 7, 0), 1);
        due("kind 6", web.relate(6, 0, 0), BEYOND);
        due("kind -1", web.relate(-1, 0, 0), BEYOND);
        due("relation 8", web.relate(0, 8, 0), BEYOND);
        due("relation -1", web.relate(0, -1, 0), BEYOND);
        due("place 64", web.relate(0, 0, 64), BEYOND);
        due("place -2", web.relate(0, 0, -2), BEYOND);
        due("refused it stays", web.who(0, 0, 1), bits(6));
        due("status(BEYOND)", web.status(BEYOND), 6);
        end("promise 9: relate");
    }

    private static void relateRing() {
        RightsWeb web = new RightsWeb();
        web.rule(0, HERE, 0, 0);
        web.rule(1, ALSO, 1, 0);
        web.rule(2, LESS, 0, 1);
        web.rule(3, ALSO, 0, 0);
        web.rule(4, LESS, 0, 3);
        web.rule(5, ALSO, 2, 0);
        due("a LESS of itself", web.relate(0, 0, 4), RING);
        due("relate(0, 0, LESS of 1)", web.relate(0, 0, 2), 1);
        due("BEYOND ahead of RING", web.relate(0, 8, 3), BEYOND);
        due("back", web.relate(0, 1, 3), RING);
        due("not of another kind", web.relate(1, 1, 3), 1);
        due("by one more: 1 asks 2", web.relate(0, 1, 5), 1);
        due("2 asks 0", web.relate(0, 2, 3), RING);
        web.relate(0, 1, NONE);
        due("2 asks 0, which leads to 1 alone", web.relate(0, 2, 3), 1);
        due("1 asks 2", web.relate(0, 1, 5), RING);
        // a pair of any turn leads, in force or not
        RightsWeb pairs = plain(2);
        pairs.rule(10, ALSO, 1, 0);
        pairs.rule(11, LESS, 0, 10);
        turn(pairs, 1, 1, 1000);
        pairs.strike(1, 1, 1000);
        pairs.commit();
        due("a club that was struck", pairs.relate(0, 0, 11), RING);
        pairs.relate(0, 1, 63);
        due("no HERE asks for it", pairs.relate(0, 0, 11), 1);
        due("UNTIL asks for it though it has no end", pairs.rule(63, UNTIL, 0, 0), RING);
        due("HERE in a LESS asks for it", pairs.rule(63, LESS, 1, 0), RING);
        due("status(RING)", pairs.status(RING), 3);
        RightsWeb other = plain(1);
        other.thing(1);
        other.rule(10, ALSO, 1, 0);
        other.rule(11, LESS, 0, 10);
        turn(other, 0, 1, 1010);
        due("a club of another kind's thing", other.relate(0, 0, 11), 1);
        other.rule(12, THROUGH, 7, 0);
        due("that leads back", other.relate(1, 0, 12), RING);
        end("promise 9: relate, rings");
    }

    // ---- turns

    private static void write() {
        RightsWeb web = plain(2);
        due("write", web.write(0, 0, 0, 0), 1);
        due("write, END 1", web.write(1, 7, 39, 1), 2);
        due("write, END 1000000", web.write(1, 7, 101, 1000000), 3);
        due("END -1", web.write(0, 0, 0, -1), NO);
        due("END 1000001", web.write(0, 0, 0, 1000001), NO);
        due("thing 2, BEYOND ahead of NO", web.write(2, 0, 0, -1), BEYOND);
        due("thing -1", web.write(-1, 0, 0, 0), BEYOND);
        due("relation 8", web.write(0, 8, 0, 0), BEYOND);
        due("relation -1", web.write(0, -1, 0, 0), BEYOND);
        for (int act = 4; act <= 20; act++) {
            due("write, the same again", web.write(0, 0, 0, 0), act);
        }
        due("a 21st", web.write(0, 0, 0, 0), FULL);
        due("BEYOND ahead of FULL", web.write(2, 0, 0, 0), BEYOND);
        due("NO ahead of FULL", web.write(0, 0, 0, 1000001), NO);
        due("count(2)", web.count(2), 20);
        due("nothing written yet", web.count(4), 0);
        end("promise 10: write");
    }

    private static void writeUsers() {
        int[] users = {0, 39, 100, 101, 1000, 1007, 1010, 1017};
        int[] none = {-1, 40, 99, 102, 139, 140, 999, 1008, 1009, 1018, 1020, 1400, 10000, LOW, HIGH};
        RightsWeb web = plain(2);
        for (int user : users) {
            CHECKS.isTrue("write(0, 0, " + user + ", 0)", web.write(0, 0, user, 0) > 0);
        }
        for (int user : none) {
            due("write(0, 0, " + user + ", 0)", web.write(0, 0, user, 0), BEYOND);
            due("strike(0, 0, " + user + ")", web.strike(0, 0, user), BEYOND);
            due("when(0, 0, " + user + ", true)", web.when(0, 0, user, true), BEYOND);
        }
        due("status(BEYOND)", web.status(BEYOND), 3 * none.length);
        RightsWeb full = plain(40);
        due("the last thing", full.write(39, 7, 139, 0), 1);
        due("the last club", full.write(39, 7, 1397, 0), 2);
        due("no further thing", full.write(39, 7, 140, 0), BEYOND);
        due("no further club", full.write(39, 7, 1400, 0), BEYOND);
        end("promise 10 to 12: users");
    }

    private static void strike() {
        RightsWeb web = plain(1);
        web.write(0, 3, 5, 9);
        due("strike", web.strike(0, 3, 5), 2);
        due("strike another", web.strike(0, 3, 100), 3);
        due("thing 1", web.strike(1, 3, 5), BEYOND);
        due("relation 8", web.strike(0, 8, 5), BEYOND);
        due("user 40", web.strike(0, 0, 40), BEYOND);
        for (int act = 4; act <= 20; act++) {
            web.strike(0, 0, 0);
        }
        due("a 21st", web.strike(0, 0, 0), FULL);
        due("BEYOND ahead of FULL", web.strike(0, -1, 0), BEYOND);
        RightsWeb done = plain(1);
        turn(done, 0, 0, 1);
        done.strike(0, 0, 1);
        due("commit()", done.commit(), 2);
        due("none in force", done.inForce(2), 0);
        due("nobody is in", done.who(0, 0, 2), 0);
        due("pair(0, 5)", done.pair(0, 5), 2);
        end("promise 11: strike");
    }

    private static void when() {
        RightsWeb web = plain(1);
        turn(web, 0, 0, 1);
        due("thing 1", web.when(1, 0, 1, true), BEYOND);
        due("relation 8", web.when(0, 8, 1, true), BEYOND);
        for (int c = 1; c <= 10; c++) {
            due("when", web.when(0, 0, c == 1 ? 1 : 2, c == 1), c);
        }
        due("an 11th", web.when(0, 0, 1, true), FULL);
        due("BEYOND ahead of FULL", web.when(0, 0, 40, true), BEYOND);
        due("count(3)", web.count(3), 10);
        due("count(2)", web.count(2), 0);
        due("commit()", web.commit(), 2);
        due("they go with their turn", web.count(3), 0);
        end("promise 12: when");
    }

    private static void forget() {
        RightsWeb web = plain(1);
        due("forget nothing", web.forget(), 0);
        web.write(0, 0, 1, 0);
        web.strike(0, 0, 2);
        web.when(0, 0, 3, true);
        due("forget()", web.forget(), 2);
        due("count(2)", web.count(2), 0);
        due("count(3)", web.count(3), 0);
        due("commit() of nothing", web.commit(), 1);
        due("count(4)", web.count(4), 0);
        end("promise 13: forget");
    }

    private static void commit() {
        RightsWeb web = plain(2);
        due("an empty turn", web.commit(), 1);
        web.write(0, 0, 1, 0);
        web.write(0, 0, 2, 7);
        due("commit()", web.commit(), 2);
        due("count(0)", web.count(0), 2);
        due("count(2)", web.count(2), 0);
        due("count(4)", web.count(4), 2);
        web.strike(0, 0, 1);
        web.write(0, 0, 1, 5);
        web.write(1, 0, 1, 0);
        web.strike(1, 0, 1);
        due("struck and written anew, written and struck", web.commit(), 3);
        due("a new number", web.count(4), 4);
        due("pair(2, 3)", web.pair(2, 3), 5);
        due("pair(3, 4)", web.pair(3, 4), 3);
        due("pair(3, 5)", web.pair(3, 5), 3);
        due("inForce(3)", web.inForce(3), 2);
        due("never in force", web.who(1, 0, 3), 0);
        end("promise 14: commit");
    }

    private static void commitAllOrNone() {
        RightsWeb web = plain(1);
        web.write(0, 0, 1, 3);
        web.commit();
        web.strike(0, 0, 1);
        web.write(0, 0, 2, 0);
        web.write(0, 0, 2, 4);
        due("written twice", web.commit(), NO);
        due("failed()", web.failed(), 102);
        due("refused it stays", web.count(2), 3);
        due("no turn", web.count(0), 1);
        due("no pair", web.count(4), 1);
        due("none struck", web.pair(0, 5), NONE);
        due("no change", web.change(0, 1), NONE);
        due("who as before", web.who(0, 0, 1), 0);
        due("in force as before", web.inForce(1), 1);
        due("commit() again", web.commit(), NO);
        web.forget();
        web.strike(0, 0, 1);
        web.strike(0, 0, 1);
        due("struck twice", web.commit(), NO);
        due("failed()", web.failed(), 101);
        web.forget();
        web.tick(50);
        web.write(0, 0, 1, 0);
        due("in force though its end is past, whatever the new end", web.commit(), NO);
        due("failed()", web.failed(), 100);
        web.forget();
        web.when(0, 0, 1, true);
        due("a condition likewise", web.commit(), 2);
        web.when(0, 0, 1, false);
        due("the other way round", web.commit(), NO);
        due("failed()", web.failed(), 0);
        due("count(3)", web.count(3), 1);
        due("status(NO)", web.status(NO), 5);
        end("promise 14: commit, all or none");
    }

    private static void commitFull() {
        RightsWeb web = plain(1);
        for (int t = 1; t <= 199; t++) {
            due("commit()", web.commit(), t);
        }
        web.strike(0, 0, 1);
        due("the last turn, NO", web.commit(), NO);
        web.forget();
        due("the last turn", web.commit(), 200);
        web.strike(0, 0, 1);
        due("no more turns, FULL ahead of NO", web.commit(), FULL);
        due("would() likewise", web.would(0, 0, true), 0);
        due("status(FULL)", web.status(FULL), 2);
        due("failed() is of the NO", web.failed(), 100);
        due("differ(0, 200)", web.differ(0, 200), 0);
        RightsWeb pairs = plain(40);
        int answer = 0;
        for (int p = 0; p < 400; p++) {
            answer = pairs.write(p / 40, 0, p % 40, 0);
            if (answer == 20) {
                answer = pairs.commit();
            }
        }
        due("400 pairs", pairs.count(4), 400);
        due("20 turns", answer, 20);
        due("inForce(20)", pairs.inForce(20), 400);
        pairs.strike(0, 0, 0);
        pairs.write(0, 0, 0, 0);
        due("one more, FULL", pairs.commit(), FULL);
        pairs.forget();
        pairs.write(0, 0, 0, 0);
        due("FULL ahead of NO", pairs.commit(), FULL);
        pairs.forget();
        pairs.strike(0, 0, 0);
        due("a strike has room", pairs.commit(), 21);
        due("who", pairs.who(0, 0, 21), (1L << 40) - 2);
        end("promise 14: commit, FULL");
    }

    private static void commitRing() {
        RightsWeb web = plain(2);
        web.rule(10, ALSO, 1, 0);
        web.rule(11, LESS, 0, 10);
        web.relate(0, 0, 11);
        web.write(0, 1, 4, 0);
        web.write(1, 1, 1000, 0);
        due("a club leads back over the LESS", web.commit(), RING);
        due("refused it stays", web.count(2), 2);
        due("no pairs", web.count(4), 0);
        due("no turn", web.count(0), 0);
        web.strike(1, 1, 1000);
        due("struck in the turn it leads, too", web.commit(), RING);
        web.strike(1, 1, 1000);
        due("NO ahead of RING", web.commit(), NO);
        due("failed()", web.failed(), 103);
        web.forget();
        web.write(1, 1, 1001, 0);
        web.write(1, 0, 1000, 0);
        web.write(0, 0, 1001, 0);
        due("rings without a LESS's second", web.commit(), 1);
        due("status(RING)", web.status(RING), 2);
        end("promise 14: commit, RING");
    }

    private static void failed() {
        RightsWeb web = plain(1);
        due("at first", web.failed(), NONE);
        turn(web, 0, 0, 1);
        for (int c = 0; c < 9; c++) {
            web.when(0, 0, 1, true);
        }
        web.when(0, 0, 2, true);
        for (int a = 0; a < 19; a++) {
            web.write(0, 1, a, 0);
        }
        web.strike(0, 0, 2);
        due("commit()", web.commit(), NO);
        due("the last condition, ahead of the acts", web.failed(), 9);
        web.undo(1);
        due("undo of 1", web.commit(), 2);
        due("it stays past a commit that is not refused", web.failed(), 9);
        web.strike(0, 0, 1);
        due("would() is no commit()", web.would(0, 0, true), 0);
        due("failed()", web.failed(), 9);
        web.forget();
        for (int a = 0; a < 19; a++) {
            web.write(0, 1, a, 0);
        }
        web.strike(0, 0, 2);
        web.commit();
        due("the last act", web.failed(), 119);
        due("NONE is no refusal", web.status(NO), 3);
        end("promise 15: failed");
    }

    private static void undo() {
        RightsWeb web = plain(2);
        web.write(0, 0, 1, 5);
        web.write(0, 0, 2, 0);
        web.commit();
        web.strike(0, 0, 1);
        web.write(1, 1, 3, 8);
        web.strike(0, 0, 2);
        web.commit();
        web.write(0, 3, 3, 0);
        web.when(0, 0, 1, true);
        due("undo(3)", web.undo(3), BEYOND);
        due("undo(0)", web.undo(0), BEYOND);
        due("undo(-1)", web.undo(-1), BEYOND);
        due("refused it stays", web.count(2) * 10 + web.count(3), 11);
        due("undo(2)", web.undo(2), 3);
        due("conditions go", web.count(3), 0);
        due("commit()", web.commit(), 3);
        due("the last act first: written back", web.change(2, 0), 6);
        due("then struck", web.change(2, 1), 5);
        due("then written back", web.change(2, 2), 8);
        due("no more", web.change(2, 3), NONE);
        due("without an end", web.pair(3, 3), 0);
        due("with its end", web.pair(4, 3), 5);
        due("undo(1) fails: 1 and 2 are struck last first", web.undo(1), 2);
        due("commit()", web.commit(), 4);
        due("2 first", web.change(3, 0), 7);
        due("nobody in force", web.inForce(4), 0);
        due("undo(1) again", web.undo(1), 2);
        due("there is nothing to strike", web.commit(), NO);
        due("undo of an empty turn", new RightsWeb().undo(1), BEYOND);
        RightsWeb both = plain(1);
        both.write(0, 0, 1, 7);
        both.strike(0, 0, 1);
        both.commit();
        due("written and struck", both.undo(1), 2);
        due("commit()", both.commit(), 2);
        due("written back first", both.change(1, 0), 2);
        due("struck then", both.change(1, 1), 3);
        due("with its end", both.pair(1, 3), 7);
        end("promise 16: undo");
    }

    private static void tick() {
        RightsWeb web = new RightsWeb();
        due("tick(0)", web.tick(0), 0);
        due("tick(5)", web.tick(5), 5);
        due("tick(-1)", web.tick(-1), BELOW);
        due("tick(LOW)", web.tick(LOW), BELOW);
        due("tick(999996)", web.tick(999996), NO);
        due("tick(HIGH)", web.tick(HIGH), NO);
        due("tick(999995)", web.tick(999995), 1000000);
        due("tick(0)", web.tick(0), 1000000);
        due("tick(1)", web.tick(1), NO);
        due("count(1)", web.count(1), 1000000);
        end("promise 17: tick");
    }

    private static void count() {
        RightsWeb web = plain(3);
        turn(web, 0, 0, 1);
        turn(web, 0, 0, 2);
        turn(web, 0, 0, 3);
        web.strike(0, 0, 3);
        web.commit();
        web.tick(9);
        web.write(0, 0, 1, 0);
        web.strike(0, 0, 1);
        web.when(0, 0, 1, true);
        int[] want = {4, 9, 2, 1, 3, 3};
        for (int what = 0; what <= 5; what++) {
            due("count(" + what + ")", web.count(what), want[what]);
        }
        due("count(6)", web.count(6), NO);
        due("count(-1)", web.count(-1), NO);
        due("status(NO)", web.status(NO), 2);
        end("promise 18: count");
    }

    private static void inForce() {
        RightsWeb web = plain(1);
        web.write(0, 0, 1, 1);
        web.write(0, 1, 1, 0);
        web.commit();
        web.strike(0, 0, 1);
        web.commit();
        turn(web, 0, 2, 1);
        web.tick(5);
        int[] want = {0, 2, 1, 2};
        for (int t = 0; t <= 3; t++) {
            due("inForce(" + t + ")", web.inForce(t), want[t]);
        }
        due("inForce(4)", web.inForce(4), BEYOND);
        due("inForce(-1)", web.inForce(-1), BEYOND);
        end("promise 19: inForce");
    }

    private static void pair() {
        RightsWeb web = plain(3);
        web.commit();
        web.write(2, 7, 1016, 1000000);
        web.write(1, 0, 102, 0);
        web.commit();
        web.strike(2, 7, 1016);
        web.commit();
        int[] first = {2, 7, 1016, 1000000, 2, 3};
        int[] second = {1, 0, 102, 0, 2, NONE};
        for (int what = 0; what <= 5; what++) {
            due("pair(0, " + what + ")", web.pair(0, what), first[what]);
            due("pair(1, " + what + ")", web.pair(1, what), second[what]);
        }
        due("pair(0, 6)", web.pair(0, 6), NO);
        due("pair(0, -1)", web.pair(0, -1), NO);
        due("pair(2, 6), BEYOND ahead of NO", web.pair(2, 6), BEYOND);
        due("pair(-1, 0)", web.pair(-1, 0), BEYOND);
        due("pair(HIGH, 0)", web.pair(HIGH, 0), BEYOND);
        end("promise 20: pair");
    }

    private static void change() {
        RightsWeb web = plain(1);
        web.write(0, 0, 1, 0);
        web.write(0, 0, 2, 0);
        web.commit();
        web.commit();
        web.strike(0, 0, 2);
        web.write(0, 0, 3, 0);
        web.commit();
        int[] all = {0, 2, 3, 4, NONE, NONE};
        for (int i = 0; i <= 5; i++) {
            due("change(0, " + i + ")", web.change(0, i), all[i]);
        }
        for (int t = 1; t <= 2; t++) {
            due("change(" + t + ", 0)", web.change(t, 0), 3);
            due("change(" + t + ", 1)", web.change(t, 1), 4);
            due("change(" + t + ", 2)", web.change(t, 2), NONE);
        }
        due("change(3, 0)", web.change(3, 0), NONE);
        due("change(1, HIGH)", web.change(1, HIGH), NONE);
        due("change(0, -1)", web.change(0, -1), BELOW);
        due("change(4, -1), BEYOND ahead of BELOW", web.change(4, -1), BEYOND);
        due("change(-1, 0)", web.change(-1, 0), BEYOND);
        due("status(BELOW)", web.status(BELOW), 1);
        end("promise 21: change");
    }

    // ---- questions

    private static void may() {
        RightsWeb web = plain(2);
        turn(web, 1, 7, 39);
        due("may", web.may(1, 7, 39, 1), 1);
        due("not ahead of it", web.may(1, 7, 39, 0), 0);
        due("not another", web.may(1, 7, 38, 1), 0);
        due("not of another thing", web.may(0, 7, 39, 1), 0);
        due("thing 2", web.may(2, 7, 39, 1), BEYOND);
        due("thing -1", web.may(-1, 7, 39, 1), BEYOND);
        due("relation 8", web.may(1, 8, 39, 1), BEYOND);
        due("relation -1", web.may(1, -1, 39, 1), BEYOND);
        due("person 40", web.may(1, 7, 40, 1), BEYOND);
        due("person -1", web.may(1, 7, -1, 1), BEYOND);
        due("turn 2", web.may(1, 7, 39, 2), BEYOND);
        due("turn -1", web.may(1, 7, 39, -1), BEYOND);
        due("status(BEYOND)", web.status(BEYOND), 8);
        end("promise 22: may");
    }

    private static void who() {
        RightsWeb web = plain(2);
        web.write(0, 0, 0, 0);
        web.write(0, 0, 39, 0);
        web.write(0, 0, 101, 0);
        web.write(1, 0, 5, 0);
        web.commit();
        due("who", web.who(0, 0, 1), bits(0, 39));
        due("who in turn 0", web.who(0, 0, 0), 0);
        due("thing 2", web.who(2, 0, 1), 0);
        due("relation 8", web.who(0, 8, 1), 0);
        due("turn 2", web.who(0, 0, 2), 0);
        due("turn -1", web.who(0, 0, -1), 0);
        due("status(BEYOND)", web.status(BEYOND), 4);
        due("nobody is no refusal", web.who(0, 1, 1) + web.status(BEYOND), 4);
        end("promise 23: who");
    }

    private static void whoByRules() {
        RightsWeb web = new RightsWeb();
        int a = web.thing(0);
        int b = web.thing(1);
        int c = web.thing(1);
        web.rule(0, HERE, 0, 0);
        web.rule(1, UNTIL, 0, 0);
        web.rule(2, ALSO, 1, 0);
        web.rule(3, THROUGH, 2, 3);
        web.rule(4, ANY, 0, 2);
        web.rule(5, ALL, 0, 2);
        web.rule(6, LESS, 0, 2);
        web.relate(0, 1, 0);
        web.relate(1, 3, 0);
        web.relate(0, 2, 0);
        web.write(a, 0, 1, 0);
        web.write(a, 0, 2, 0);
        web.write(a, 0, 3, 9);
        web.write(a, 1, 2, 0);
        web.write(a, 1, 4, 0);
        web.write(a, 2, 100 + b, 0);
        web.write(a, 2, 100 + c, 9);
        web.write(a, 2, 7, 0);
        web.write(a, 2, 1000 + 10 * b + 3, 0);
        web.write(b, 3, 5, 0);
        web.write(c, 3, 6, 0);
        web.write(c, 3, 1000 + 10 * a + 1, 0);
        web.commit();
        long[] want = {bits(1, 2), bits(3), bits(2, 4), bits(5, 6, 2, 4), bits(1, 2, 4), bits(2), bits(1)};
        for (int place = 0; place <= 6; place++) {
            web.relate(0, 0, place);
            due("by place " + place, web.who(a, 0, 1), want[place]);
        }
        due("a club and a person", web.who(a, 2, 1), bits(7, 5));
        due("through asks of b's kind, too", web.relate(1, 0, 3), 1);
        due("nobody through no pairs", web.who(b, 0, 1), 0);
        end("promise 23: who, by each sort");
    }

    private static void whoByRings() {
        RightsWeb web = plain(3);
        web.write(0, 0, 1000, 0);
        web.write(0, 0, 1010, 0);
        web.write(1, 0, 1020, 0);
        web.write(2, 0, 1000, 0);
        web.commit();
        due("nobody by a ring alone", web.who(0, 0, 1), 0);
        turn(web, 2, 0, 6);
        for (int thing = 0; thing < 3; thing++) {
            due("who(" + thing + ", 0, 2)", web.who(thing, 0, 2), bits(6));
        }
        web.rule(10, ALSO, 6, 0);
        web.rule(11, ALSO, 5, 0);
        web.relate(0, 5, 10);
        web.relate(0, 6, 11);
        due("ALSO of one another", web.who(0, 5, 2), 0);
        web.rule(12, ANY, 0, 11);
        web.relate(0, 6, 12);
        turn(web, 0, 6, 3);
        due("with one of its own", web.who(0, 5, 3), bits(3));
        due("and back", web.who(0, 6, 3), bits(3));
        end("promise 23: who, in rings");
    }

    private static void whoByLessInLayers() {
        RightsWeb web = plain(1);
        // relation r: all of relation 7 but those in relation r - 1
        for (int r = 1; r <= 6; r++) {
            web.rule(20 + 3 * r, ALSO, 7, 0);
            web.rule(21 + 3 * r, ALSO, r - 1, 0);
            web.rule(22 + 3 * r, LESS, 20 + 3 * r, 21 + 3 * r);
            due("relate", web.relate(0, r, 22 + 3 * r), 1);
        }
        web.write(0, 7, 1, 0);
        web.write(0, 7, 2, 0);
        web.write(0, 0, 2, 0);
        web.commit();
        for (int r = 1; r <= 6; r++) {
            due("who(0, " + r + ", 1)", web.who(0, r, 1), r % 2 == 1 ? bits(1) : bits(2));
        }
        // a LESS in the second one of a LESS takes away from what is taken away
        web.rule(10, ALSO, 0, 0);
        web.rule(24, LESS, 23, 10);
        due("who(0, 1, 1), 2 being left", web.who(0, 1, 1), bits(2));
        end("promise 23: who, a LESS above a LESS");
    }

    private static void whoByLessOverAllKnots() {
        // each relation of each kind takes the next one away, those of the last kind's last one being in
        RightsWeb web = new RightsWeb();
        web.rule(0, UNTIL, 0, 0);
        web.rule(1, HERE, 0, 0);
        web.rule(27, LESS, 0, 1);
        for (int r = 0; r < 7; r++) {
            web.rule(10 + r, ALSO, r + 1, 0);
            web.rule(20 + r, LESS, 0, 10 + r);
        }
        for (int knot = 0; knot < 48; knot++) {
            if (knot % 8 == 0) {
                web.thing(knot / 8);
            }
            due("relate " + knot, web.relate(knot / 8, knot % 8, 20 + knot % 8), 1);
        }
        for (int knot = 0; knot < 48; knot++) {
            web.write(knot / 8, knot % 8, 3, 9);
            if (knot % 16 == 15) {
                web.commit();
            }
        }
        for (int thing = 0; thing < 5; thing++) {
            web.write(thing, 7, 1010 + 10 * thing, 0);
        }
        due("commit()", web.commit(), 4);
        for (int knot = 0; knot < 48; knot++) {
            due("who " + knot, web.who(knot / 8, knot % 8, 4), knot % 2 == 1 ? bits(3) : 0);
        }
        web.write(5, 7, 1000, 0);
        due("the last leads to the first", web.commit(), RING);
        end("promise 23: who, a LESS over all kinds and relations");
    }

    private static void whoByEmptyPlaces() {
        RightsWeb web = plain(1);
        web.write(0, 0, 1, 0);
        web.commit();
        web.rule(20, ANY, 0, 15);
        web.rule(21, ALL, 0, 15);
        web.rule(22, LESS, 0, 15);
        web.rule(23, LESS, 15, 0);
        long[] want = {bits(1), 0, bits(1), 0};
        for (int place = 20; place <= 23; place++) {
            web.relate(0, 0, place);
            due("by place " + place, web.who(0, 0, 1), want[place - 20]);
        }
        web.name(15, 3);
        for (int place = 20; place <= 23; place++) {
            web.relate(0, 0, place);
            due("by place " + place + ", a name", web.who(0, 0, 1), want[place - 20]);
        }
        web.rule(15, HERE, 0, 0);
        web.relate(0, 0, 22);
        due("taken away", web.who(0, 0, 1), 0);
        web.empty(0);
        web.relate(0, 0, 20);
        due("the other one of ANY", web.who(0, 0, 1), bits(1));
        web.empty(20);
        due("no rule any more", web.who(0, 0, 1), 0);
        end("promise 23: who, by places that hold none");
    }

    private static void whoByTicksAndTurns() {
        RightsWeb web = plain(1);
        web.rule(8, UNTIL, 0, 0);
        web.relate(0, 0, 8);
        web.write(0, 0, 1, 2);
        web.write(0, 0, 2, 3);
        web.write(0, 0, 3, 0);
        web.commit();
        web.strike(0, 0, 2);
        web.commit();
        due("tick 0", web.who(0, 0, 1), bits(1, 2));
        due("struck", web.who(0, 0, 2), bits(1));
        web.tick(1);
        due("tick 1", web.who(0, 0, 1), bits(1, 2));
        web.tick(1);
        due("tick 2: the end is not above", web.who(0, 0, 1), bits(2));
        due("in the later turn", web.who(0, 0, 2), 0);
        web.relate(0, 0, 0);
        due("HERE: none that have an end", web.who(0, 0, 1), bits(3));
        web.tick(5);
        web.write(0, 1, 4, 5);
        due("an end that is past is written", web.commit(), 3);
        due("and counts for nothing", web.who(0, 1, 3), 0);
        end("promise 23: who, by ticks and turns");
    }

    private static void reach() {
        RightsWeb web = plain(2);
        web.thing(1);
        web.thing(0);
        web.relate(1, 0, 0);
        for (int thing = 0; thing < 4; thing++) {
            web.write(thing, 0, thing == 0 ? 8 : 9, 0);
        }
        web.commit();
        due("reach", web.reach(0, 0, 9, 0, 1), 1);
        due("from it on", web.reach(0, 0, 9, 1, 1), 1);
        due("from behind it on", web.reach(0, 0, 9, 2, 1), 3);
        due("of kind 1", web.reach(1, 0, 9, 0, 1), 2);
        due("from 4 on", web.reach(0, 0, 9, 4, 1), NONE);
        due("from HIGH on", web.reach(0, 0, 9, HIGH, 1), NONE);
        due("in turn 0", web.reach(0, 0, 9, 0, 0), NONE);
        due("kind 6, BEYOND ahead of BELOW", web.reach(6, 0, 9, -1, 1), BEYOND);
        due("relation 8", web.reach(0, 8, 9, 0, 1), BEYOND);
        due("person 40", web.reach(0, 0, 40, 0, 1), BEYOND);
        due("turn 2", web.reach(0, 0, 9, 0, 2), BEYOND);
        due("from -1", web.reach(0, 0, 9, -1, 1), BELOW);
        due("from LOW", web.reach(0, 0, 9, LOW, 1), BELOW);
        due("NONE is no refusal", web.status(BEYOND), 4);
        RightsWeb full = plain(40);
        turn(full, 39, 0, 9);
        due("of 40 from the last on", full.reach(0, 0, 9, 39, 1), 39);
        due("of 40 from behind it on", full.reach(0, 0, 9, 40, 1), NONE);
        due("of 40 nobody", full.reach(0, 0, 8, 0, 1), NONE);
        end("promise 24: reach");
    }

    private static void why() {
        RightsWeb web = plain(3);
        web.rule(10, ALSO, 0, 0);
        web.rule(11, THROUGH, 2, 1);
        web.rule(12, UNTIL, 0, 0);
        web.relate(0, 1, 10);
        web.relate(0, 3, 11);
        web.relate(0, 4, 12);
        web.write(0, 0, 5, 0);
        web.write(0, 0, 6, 0);
        web.write(1, 0, 1000, 0);
        web.write(1, 0, 6, 0);
        web.write(2, 2, 101, 0);
        web.write(0, 4, 1021, 9);
        web.write(2, 0, 1010, 0);
        web.commit();
        due("HERE, a person", web.why(0, 0, 5, 1), 1);
        due("HERE, a club", web.why(1, 0, 5, 1), 2);
        due("HERE, the person ahead of the club", web.why(1, 0, 6, 1), 1);
        due("ALSO", web.why(1, 1, 5, 1), 3);
        due("THROUGH", web.why(2, 3, 5, 1), 4);
        due("UNTIL, a club", web.why(0, 4, 5, 1), 5);
        due("thing 3", web.why(3, 0, 5, 1), BEYOND);
        due("relation 8", web.why(0, 8, 5, 1), BEYOND);
        due("person 40", web.why(0, 0, 40, 1), BEYOND);
        due("turn 2", web.why(0, 0, 5, 2), BEYOND);
        due("not in", web.why(0, 0, 7, 1), MISSING);
        due("not in, in turn 0", web.why(0, 0, 5, 0), MISSING);
        due("status(MISSING)", web.status(MISSING), 2);
        end("promise 25: why");
    }

    private static void whyByJoins() {
        RightsWeb web = new RightsWeb();
        web.thing(0);
        web.thing(1);
        web.rule(0, HERE, 0, 0);
        web.rule(10, ALSO, 1, 0);
        web.rule(11, ANY, 0, 10);
        web.rule(12, ANY, 10, 0);
        web.rule(13, ALL, 0, 10);
        web.rule(14, ALL, 10, 0);
        web.rule(15, ALSO, 2, 0);
        web.rule(16, LESS, 10, 15);
        web.relate(0, 1, 0);
        web.relate(0, 2, 0);
        web.relate(1, 0, 0);
        web.write(0, 0, 1, 0);
        web.write(0, 0, 2, 0);
        web.write(0, 0, 3, 0);
        web.write(0, 1, 1, 0);
        web.write(0, 1, 2, 0);
        web.write(0, 1, 1010, 0);
        web.write(1, 0, 3, 0);
        web.write(1, 0, 4, 0);
        web.write(0, 2, 2, 0);
        web.commit();
        int[] places = {11, 12, 13, 14, 16};
        int[] of1 = {1, 1, 2, 2, 2};
        int[] of2 = {1, 1, 2, 2, MISSING};
        int[] of3 = {1, 1, 3, 3, 3};
        int[] of4 = {3, 3, MISSING, MISSING, 3};
        for (int i = 0; i < places.length; i++) {
            web.relate(0, 0, places[i]);
            due("person 1 by place " + places[i], web.why(0, 0, 1, 1), of1[i]);
            due("person 2 by place " + places[i], web.why(0, 0, 2, 1), of2[i]);
            due("person 3 by place " + places[i], web.why(0, 0, 3, 1), of3[i]);
            due("person 4 by place " + places[i], web.why(0, 0, 4, 1), of4[i]);
        }
        end("promise 25: why, by joins");
    }

    private static void whyBesidesLess() {
        // taken away by the LESS, the person is in by the dearer way alone
        RightsWeb web = plain(2);
        web.rule(10, ALSO, 1, 0);
        web.rule(11, ALSO, 2, 0);
        web.rule(12, LESS, 10, 11);
        web.rule(13, ALSO, 3, 0);
        web.rule(14, ANY, 12, 13);
        web.relate(0, 7, 14);
        web.write(0, 1, 5, 0);
        web.write(0, 2, 5, 0);
        web.write(0, 3, 1014, 0);
        web.write(1, 4, 5, 0);
        web.write(1, 1, 5, 0);
        web.write(1, 3, 1014, 0);
        web.commit();
        due("why", web.why(0, 7, 5, 1), 3);
        due("reason(0)", web.reason(0), 2);
        due("reason(1)", web.reason(1), 3);
        due("why, where nobody is taken away", web.why(1, 7, 5, 1), 2);
        due("reason(0)", web.reason(0), 4);
        end("promise 25: why, besides a LESS");
    }

    private static void reason() {
        RightsWeb web = plain(3);
        due("reason(0) at first", web.reason(0), BEYOND);
        web.rule(10, ALSO, 0, 0);
        web.rule(11, THROUGH, 2, 1);
        web.relate(0, 1, 10);
        web.relate(0, 3, 11);
        web.write(0, 0, 5, 0);
        web.write(1, 0, 1000, 0);
        web.write(2, 2, 101, 0);
        web.commit();
        due("why", web.why(2, 3, 5, 1), 4);
        due("the pair to the thing", web.reason(0), 2);
        due("then the pair to the club", web.reason(1), 1);
        due("then the pair to the person", web.reason(2), 0);
        due("no more", web.reason(3), BEYOND);
        due("reason(-1)", web.reason(-1), BEYOND);
        due("refused why()", web.why(2, 3, 6, 1), MISSING);
        due("refused why()", web.why(2, 3, 5, 9), BEYOND);
        due("the reason stays", web.reason(2), 0);
        web.relate(0, 3, NONE);
        web.strike(0, 0, 5);
        web.commit();
        web.tick(9);
        due("it stays as it was told", web.reason(0), 2);
        due("another why()", web.why(1, 0, 5, 1), 2);
        due("reason(0)", web.reason(0), 1);
        due("reason(1)", web.reason(1), 0);
        due("reason(2)", web.reason(2), BEYOND);
        end("promise 26: reason");
    }

    private static void reasonTies() {
        RightsWeb web = plain(4);
        web.write(0, 0, 1030, 0);
        web.write(0, 0, 1020, 0);
        web.write(0, 0, 1010, 0);
        web.write(1, 0, 5, 0);
        web.write(2, 0, 5, 0);
        web.write(3, 0, 1020, 0);
        web.write(0, 2, 103, 0);
        web.write(0, 2, 102, 0);
        web.write(0, 2, 101, 0);
        web.commit();
        due("why", web.why(0, 0, 5, 1), 2);
        due("of the same cost the least number", web.reason(0), 1);
        due("then", web.reason(1), 4);
        web.rule(10, THROUGH, 2, 0);
        web.relate(0, 3, 10);
        due("why, THROUGH", web.why(0, 3, 5, 1), 2);
        due("the least number", web.reason(0), 7);
        due("then", web.reason(1), 4);
        web.strike(2, 0, 5);
        web.commit();
        web.write(2, 0, 5, 0);
        web.commit();
        web.strike(0, 0, 1020);
        web.write(0, 0, 1020, 0);
        web.commit();
        due("written anew it has another number", web.why(0, 0, 5, 4), 2);
        due("the least number", web.reason(0), 2);
        due("in turn 1 as it was", web.why(0, 0, 5, 1), 2);
        due("the least number", web.reason(0), 1);
        // ANY: x ahead of y if they cost the same, else the lesser one
        RightsWeb any = plain(1);
        any.write(0, 1, 5, 0);
        any.write(0, 2, 5, 0);
        any.commit();
        any.rule(10, ALSO, 1, 0);
        any.rule(11, ALSO, 2, 0);
        any.rule(12, ANY, 11, 10);
        any.rule(13, ALSO, 0, 0);
        any.rule(14, ANY, 13, 11);
        any.relate(0, 0, 12);
        any.why(0, 0, 5, 1);
        due("x ahead of y", any.reason(0), 1);
        any.relate(0, 3, 14);
        due("why", any.why(0, 3, 5, 1), 2);
        any.relate(0, 2, NONE);
        due("why", any.why(0, 3, 5, 1), 3);
        due("by x", any.reason(0), 0);
        any.relate(0, 2, 2);
        any.rule(12, ANY, 10, 11);
        due("y costs less", any.why(0, 3, 5, 1), 2);
        due("by y", any.reason(0), 1);
        end("promise 26: reason, of several the first");
    }

    private static void reasonOfAll() {
        RightsWeb web = plain(2);
        web.write(0, 1, 1012, 0);
        web.write(1, 2, 5, 0);
        web.write(0, 3, 5, 0);
        web.write(0, 4, 1012, 0);
        web.commit();
        web.rule(10, ALSO, 1, 0);
        web.rule(11, ALSO, 3, 0);
        web.rule(12, ALL, 10, 11);
        web.rule(13, ALSO, 4, 0);
        web.rule(14, ALL, 12, 13);
        web.rule(15, ALL, 13, 12);
        web.rule(16, LESS, 15, 0);
        web.relate(0, 5, 14);
        web.relate(0, 6, 16);
        due("why", web.why(0, 5, 5, 1), 3);
        int[] first = {0, 1, 2, 3, 1};
        for (int i = 0; i < first.length; i++) {
            due("those of x, then those of y: reason(" + i + ")", web.reason(i), first[i]);
        }
        due("no more", web.reason(5), BEYOND);
        due("why", web.why(0, 6, 5, 1), 3);
        int[] second = {3, 1, 0, 1, 2};
        for (int i = 0; i < second.length; i++) {
            due("the other way round: reason(" + i + ")", web.reason(i), second[i]);
        }
        due("no more", web.reason(5), BEYOND);
        end("promise 26: reason, of ALL");
    }

    private static void reasonOfManyAlls() {
        RightsWeb web = plain(2);
        web.write(0, 0, 5, 0);
        web.write(0, 1, 5, 0);
        web.commit();
        web.rule(8, ALSO, 1, 0);
        web.rule(9, ALL, 0, 8);
        for (int place = 10; place < 64; place++) {
            web.rule(place, ALL, place - 1, place - 1);
        }
        web.relate(0, 7, 63);
        web.write(0, 7, 5, 0);
        web.commit();
        due("who", web.who(0, 7, 2), bits(5));
        due("why, 2 to the 54th ways", web.why(0, 7, 5, 2), 2);
        for (int i = 0; i < 60; i++) {
            due("reason(" + i + ")", web.reason(i), i % 2 == 0 ? 2 : 1);
        }
        due("the first 60 are told", web.reason(60), BEYOND);
        // 30 of two each: all are told; one more is cut
        for (int place = 10; place < 64; place++) {
            web.rule(place, ALL, place - 1, 9);
        }
        web.relate(0, 7, 38);
        web.why(0, 7, 5, 2);
        due("60 of 60", web.reason(59), 1);
        web.relate(0, 7, 37);
        web.why(0, 7, 5, 2);
        due("58 of 58", web.reason(57), 1);
        due("no 59th", web.reason(58), BEYOND);
        end("promise 26: reason, the first 60");
    }

    private static void reasonOfWaitingAlls() {
        // 61 second ones wait at once, of which 59 come to be told
        RightsWeb web = plain(1);
        web.write(0, 1, 5, 0);
        web.write(0, 2, 5, 0);
        web.write(0, 4, 5, 0);
        web.commit();
        web.rule(0, HERE, 0, 0);
        web.relate(0, 4, 0);
        web.rule(1, ALSO, 4, 0);
        web.rule(2, ALSO, 2, 0);
        for (int place = 3; place < 64; place++) {
            web.rule(place, ALL, place == 3 ? 0 : place == 34 ? 2 : place - 1, place % 3 == 1 ? 1 : 0);
        }
        web.relate(0, 2, 33);
        web.relate(0, 1, 63);
        due("why", web.why(0, 1, 5, 1), 3);
        due("reason(0)", web.reason(0), 1);
        for (int i = 1; i < 60; i++) {
            int place = i + 2;
            due("reason(" + i + ")", web.reason(i), place % 3 == 1 ? 2 : place < 34 ? 1 : 0);
        }
        due("reason(60)", web.reason(60), BEYOND);
        end("promise 26: reason, with many that wait");
    }

    private static void reasonAlongAll() {
        // a chain of clubs over all spots: 319 pairs behind one another, of which 60 are told
        RightsWeb web = plain(40);
        for (int spot = 0; spot < 320; spot++) {
            int next = spot + 1;
            web.write(spot / 8, spot % 8, spot == 319 ? 5 : 1000 + next / 8 * 10 + next % 8, 0);
            if (spot % 20 == 19) {
                web.commit();
            }
        }
        due("why", web.why(0, 0, 5, 16), 320);
        for (int i = 0; i < 60; i++) {
            due("reason(" + i + ")", web.reason(i), i);
        }
        due("reason(60)", web.reason(60), BEYOND);
        due("without the last", web.without(319), 0);
        due("who, from the other end", web.who(0, 0, 16), bits(5));
        due("differ", web.differ(0, 16), 320);
        due("list", web.list(0, 3, 5, 16), 40);
        due("row(39)", web.row(39), 39);
        due("row(40)", web.row(40), BEYOND);
        end("promise 26: reason, a chain over all");
    }

    private static void without() {
        RightsWeb web = plain(2);
        due("no pair", web.without(0), BEYOND);
        web.write(0, 0, 5, 0);
        web.write(0, 1, 5, 9);
        web.write(1, 0, 1000, 0);
        web.write(1, 0, 5, 4);
        web.commit();
        due("no reason", web.without(0), MISSING);
        due("BEYOND ahead of MISSING", web.without(4), BEYOND);
        due("without(-1)", web.without(-1), BEYOND);
        web.rule(8, UNTIL, 0, 0);
        web.rule(9, ANY, 0, 8);
        web.relate(0, 0, 9);
        due("why", web.why(1, 0, 5, 1), 1);
        due("the reason", web.reason(0), 3);
        due("without it there is a club", web.without(3), 1);
        due("without the club's", web.without(0), 1);
        due("without another", web.without(1), 1);
        web.tick(4);
        due("at the tick as it is", web.without(3), 1);
        due("the club's is needed now", web.without(0), 0);
        due("so is the club", web.without(2), 0);
        web.strike(0, 0, 5);
        web.strike(1, 0, 5);
        web.commit();
        due("in the same turn", web.without(1), 1);
        due("a pair of no reason stays", web.who(1, 0, 1), bits(5));
        due("refused why()", web.why(1, 0, 5, 2), MISSING);
        due("of the latest reason", web.without(2), 0);
        // without a pair a LESS may take away no more
        RightsWeb less = plain(1);
        less.write(0, 1, 5, 0);
        less.write(0, 2, 5, 3);
        less.commit();
        less.rule(8, UNTIL, 0, 0);
        less.relate(0, 2, 8);
        less.rule(10, ALSO, 1, 0);
        less.rule(11, ALSO, 2, 0);
        less.rule(12, LESS, 10, 11);
        less.relate(0, 0, 12);
        due("why", less.why(0, 1, 5, 1), 1);
        due("of relation 1", less.without(1), 1);
        due("taken away", less.may(0, 0, 5, 1), 0);
        less.tick(3);
        due("why", less.why(0, 0, 5, 1), 2);
        due("without what is past", less.without(1), 1);
        due("without its own", less.without(0), 0);
        end("promise 27: without");
    }

    private static void would() {
        RightsWeb web = plain(2);
        web.rule(8, UNTIL, 0, 0);
        web.rule(9, ANY, 0, 8);
        web.relate(0, 0, 9);
        web.write(0, 0, 1, 0);
        web.write(0, 0, 2, 0);
        web.write(1, 0, 1000, 0);
        web.commit();
        due("nothing made", web.would(0, 0, true), 0);
        web.tick(5);
        web.strike(0, 0, 1);
        web.write(0, 0, 3, 0);
        web.write(0, 0, 4, 5);
        web.write(0, 0, 6, 6);
        due("opens, at the tick", web.would(0, 0, true), bits(3, 6));
        due("closes", web.would(0, 0, false), bits(1));
        due("behind a club, too", web.would(1, 0, true), bits(3, 6));
        due("closes there", web.would(1, 0, false), bits(1));
        due("nothing has changed", web.who(0, 0, 1), bits(1, 2));
        due("no turn", web.count(0), 1);
        due("no pair", web.count(4), 3);
        due("no change", web.change(1, 0), NONE);
        due("it stays", web.count(2), 4);
        due("commit()", web.commit(), 2);
        due("as told", web.who(0, 0, 2), bits(2, 3, 6));
        due("no refusals", web.status(NO) + web.status(BEYOND), 0);
        // what a LESS takes away opens when it is struck
        web.rule(10, ALSO, 0, 0);
        web.rule(11, ALSO, 2, 0);
        web.rule(12, LESS, 10, 11);
        web.relate(0, 3, 12);
        turn(web, 0, 2, 2);
        web.strike(0, 2, 2);
        web.write(0, 2, 3, 0);
        due("opens", web.would(0, 3, true), bits(2));
        due("closes", web.would(0, 3, false), bits(3));
        end("promise 28: would");
    }

    private static void wouldRefused() {
        RightsWeb web = plain(2);
        web.rule(10, ALSO, 1, 0);
        web.rule(11, LESS, 0, 10);
        web.relate(0, 0, 11);
        web.write(0, 0, 1, 0);
        due("thing 2", web.would(2, 0, true), 0);
        due("thing -1", web.would(-1, 0, false), 0);
        due("relation 8", web.would(0, 8, true), 0);
        due("status(BEYOND)", web.status(BEYOND), 3);
        web.write(1, 1, 1000, 0);
        due("a ring", web.would(0, 0, true), 0);
        due("status(RING)", web.status(RING), 1);
        due("BEYOND ahead of RING", web.would(0, -1, true), 0);
        due("status(RING)", web.status(RING), 1);
        web.strike(0, 0, 9);
        due("NO ahead of RING", web.would(0, 0, true), 0);
        due("status(NO)", web.status(NO), 1);
        due("failed() is of commit()", web.failed(), NONE);
        web.forget();
        web.when(0, 0, 1, true);
        due("a condition", web.would(0, 0, true), 0);
        due("status(NO)", web.status(NO), 2);
        due("it stays", web.count(3), 1);
        web.forget();
        web.write(0, 0, 1, 0);
        due("as if nothing had been", web.would(0, 0, true), bits(1));
        due("commit()", web.commit(), 1);
        end("promise 28: would, refused");
    }

    private static void differ() {
        RightsWeb web = plain(2);
        web.rule(8, UNTIL, 0, 0);
        web.rule(9, ANY, 0, 8);
        web.relate(0, 0, 9);
        web.write(0, 0, 1, 0);
        web.write(0, 0, 2, 3);
        web.write(1, 1, 1000, 0);
        web.write(1, 7, 39, 0);
        web.commit();
        web.strike(0, 0, 1);
        web.write(0, 0, 3, 0);
        web.commit();
        due("differ(0, 1)", web.differ(0, 1), 5);
        due("differ(1, 0)", web.differ(1, 0), 5);
        due("differ(1, 2)", web.differ(1, 2), 4);
        due("differ(2, 2)", web.differ(2, 2), 0);
        web.tick(3);
        due("at the tick", web.differ(0, 1), 3);
        due("differ(0, 3)", web.differ(0, 3), BEYOND);
        due("differ(3, 0)", web.differ(3, 0), BEYOND);
        due("differ(-1, 0)", web.differ(-1, 0), BEYOND);
        due("differ(0, -1)", web.differ(0, -1), BEYOND);
        end("promise 29: differ");
    }

    // ---- rows

    private static void list() {
        RightsWeb web = plain(2);
        web.thing(1);
        web.thing(0);
        web.relate(1, 0, 0);
        for (int thing = 0; thing < 4; thing++) {
            web.write(thing, 0, thing == 0 ? 8 : 9, 0);
        }
        web.commit();
        due("list", web.list(0, 0, 9, 1), 2);
        due("row(0)", web.row(0), 1);
        due("row(1)", web.row(1), 3);
        due("row(2)", web.row(2), BEYOND);
        due("kind 6", web.list(6, 0, 9, 1), BEYOND);
        due("kind -1", web.list(-1, 0, 9, 1), BEYOND);
        due("relation 8", web.list(0, 8, 9, 1), BEYOND);
        due("person 40", web.list(0, 0, 40, 1), BEYOND);
        due("turn 2", web.list(0, 0, 9, 2), BEYOND);
        due("refused the row stays", web.row(1), 3);
        due("list of none", web.list(0, 0, 9, 0), 0);
        due("it is there, and empty", web.row(0), BEYOND);
        due("list of kind 1", web.list(1, 0, 9, 1), 1);
        due("row(0)", web.row(0), 2);
        due("status(BEYOND)", web.status(BEYOND), 7);
        end("promise 30: list");
    }

    private static void tear() {
        RightsWeb web = plain(1);
        due("at first", web.tear(), 0);
        web.list(0, 0, 0, 0);
        due("an empty row is there", web.tear(), 1);
        due("again", web.tear(), 0);
        due("row(0)", web.row(0), MISSING);
        end("promise 31: tear");
    }

    private static void row() {
        RightsWeb web = plain(3);
        due("row(-1), MISSING ahead of BEYOND", web.row(-1), MISSING);
        web.write(1, 0, 2, 0);
        web.write(2, 0, 2, 0);
        web.commit();
        web.list(0, 0, 2, 1);
        due("row(0)", web.row(0), 1);
        due("row(1)", web.row(1), 2);
        due("row(2)", web.row(2), BEYOND);
        due("row(-1)", web.row(-1), BEYOND);
        due("row(HIGH)", web.row(HIGH), BEYOND);
        due("status(MISSING)", web.status(MISSING), 1);
        end("promise 32: row");
    }

    private static RightsWeb fiveInTheRow() {
        RightsWeb web = plain(5);
        for (int thing = 0; thing < 5; thing++) {
            web.write(thing, 0, 1, 0);
        }
        web.commit();
        web.list(0, 0, 1, 1);
        return web;
    }

    private static void rowIs(RightsWeb web, int... want) {
        for (int i = 0; i < want.length; i++) {
            due("row(" + i + ")", web.row(i), want[i]);
        }
        due("row(" + want.length + ")", web.row(want.length), BEYOND);
    }

    private static void copy() {
        RightsWeb web = fiveInTheRow();
        due("copy up", web.copy(0, 1, 4), 4);
        rowIs(web, 0, 0, 1, 2, 3);
        web = fiveInTheRow();
        due("copy down", web.copy(2, 0, 3), 3);
        rowIs(web, 2, 3, 4, 3, 4);
        due("all to itself", web.copy(0, 0, 5), 5);
        due("none, at the end", web.copy(5, 5, 0), 0);
        due("none, past the end", web.copy(6, 0, 0), COPY);
        due("none, to past the end", web.copy(0, 6, 0), COPY);
        due("too many from", web.copy(3, 0, 3), COPY);
        due("too many to", web.copy(0, 3, 3), COPY);
        due("i below 0", web.copy(-1, 0, 1), COPY);
        due("j below 0", web.copy(0, -1, 1), COPY);
        due("n below 0, BELOW ahead of COPY", web.copy(-1, -1, -1), BELOW);
        due("n HIGH", web.copy(1, 1, HIGH), COPY);
        due("i HIGH", web.copy(HIGH, 0, 1), COPY);
        due("j HIGH", web.copy(0, HIGH, HIGH), COPY);
        due("n LOW", web.copy(0, 0, LOW), BELOW);
        rowIs(web, 2, 3, 4, 3, 4);
        web.tear();
        due("MISSING ahead of BELOW", web.copy(0, 0, -1), MISSING);
        due("status(COPY)", web.status(COPY), 9);
        end("promise 33: copy");
    }

    private static void status() {
        RightsWeb web = plain(1);
        web.named(60);
        web.row(0);
        web.thing(9);
        web.who(5, 0, 0);
        web.would(0, 9, true);
        web.tick(-1);
        web.name(60, 1);
        web.asks(60, 0);
        web.list(0, 0, 0, 0);
        web.copy(1, 0, 0);
        web.rule(61, LESS, 5, 6);
        web.rule(6, ALSO, 5, 0);
        web.relate(0, 5, 61);
        web.strike(0, 0, 0);
        web.would(0, 0, true);
        web.commit();
        for (int a = 2; a <= 21; a++) {
            web.strike(0, 0, 0);
        }
        int[] want = {0, 0, 2, 3, 1, 1, 1, 1, 2, 1};
        for (int by = 2; by <= 9; by++) {
            due("status(-" + by + ")", web.status(-by), want[by]);
        }
        due("status(-1)", web.status(-1), NO);
        due("status(0)", web.status(0), NO);
        due("status(2)", web.status(2), NO);
        due("status(-10)", web.status(-10), NO);
        due("status(LOW)", web.status(LOW), NO);
        due("these are refused calls, too", web.status(NO), 7);
        end("promise 34: status");
    }
}
