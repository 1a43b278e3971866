/** A test for each sentence of the document's Terms 1 to 4 that names a boundary; the sentence is the test's name. */
public final class TermTests {
    private static final Checks CHECKS = new Checks();
    private static final Script SCRIPT = new Script(CHECKS);

    private TermTests() {
    }

    public static void main(String[] args) {
        callsOfAnObject();
        things();
        thingsOfCalls();
        kinds();
        persons();
        relations();
        usersOfTwoThings();
        usersOfAllThings();
        places();
        names();
        sorts();
        placesOfRelations();
        placesThatHoldNoRule();
        hereAndUntil();
        also();
        through();
        joins();
        lowerPlaces();
        ringsOfRelations();
        ringsWithOneWhoIsIn();
        ringsOverLess();
        ringsOverLessByClubs();
        ringsOverLessByActs();
        ringsByNoClub();
        ringsThatWereRefused();
        ends();
        oneInForce();
        turns();
        acts();
        conditions();
        conditionsOfTheLatestTurn();
        firstThatFails();
        byActsBefore();
        pairs();
        endsAboveTheTick();
        theTick();
        costs();
        costsOfJoins();
        costsByOtherSorts();
        reasons();
        reasonsOfJoins();
        refusalsInOrder();
        CHECKS.isTrue("refused calls were looked at", SCRIPT.refusedCalls() > 500);
        CHECKS.end("terms 4: a refused call changes nothing but status(): " + SCRIPT.refusedCalls() + " of them");
        CHECKS.exit();
    }

    private static void test(String name, Lines script) {
        SCRIPT.test("terms " + name, script);
    }

    // ---- calls

    private static void callsOfAnObject() {
        test("0: an object is used for at most 512 calls: the last ones are true, too", Lines.of("thing 0",
            "rule 0 0 0 0", "relate 0 0 0", "write 0 0 39 0", "commit = 1").times(492, "tick 1").then("count 1 = 492",
            "who 0 0 1 = {39}", "why 0 0 39 1 = 1", "reason 0 = 0", "row 0 = MISSING"));
        RightsWeb web = new RightsWeb();
        for (int call = 0; call < 20000; call++) {
            web.thing(call % 7);
            web.rule(call % 65, call % 8, call % 9, call % 11);
            web.relate(call % 7, call % 9, call % 66 - 1);
            web.write(call % 40, call % 8, call % 3 == 0 ? 1000 + call % 400 : call % 140, call % 5);
            web.strike(call % 40, call % 8, call % 40);
            if (web.commit() < 0) {
                web.forget();
            }
            web.tick(call * 7);
            web.why(call % 40, call % 8, call % 40, web.count(0));
        }
        CHECKS.end("terms 0: what later calls answer is free, but none throws");
    }

    // ---- 1: things, persons, relations, users, places

    private static void things() {
        Lines lines = Lines.of("count 5 = 0", "who 0 0 0 = 0 by BEYOND", "thing 5 = 0", "who 0 0 0 = 0",
            "who 1 0 0 = 0 by BEYOND");
        for (int t = 1; t < 40; t++) {
            lines.then("thing " + t % 6 + " = " + t);
        }
        test("1: THINGS are numbered 0 .. 39 as they come", lines.then("count 5 = 40", "thing 0 = FULL",
            "thing 5 = FULL", "count 5 = 40", "who 39 0 0 = 0", "who 40 0 0 = 0 by BEYOND"));
    }

    private static void thingsOfCalls() {
        String[] calls = {"write # 0 5 0", "strike # 0 6", "when # 0 6 true", "may # 0 0 1", "who # 0 1",
            "why # 0 5 1"};
        for (int many : new int[] {1, 40}) {
            Lines lines = Lines.plain(many).then("write 0 0 5 0");
            if (many > 1) {
                lines.then("write " + (many - 1) + " 0 5 0");
            }
            lines.then("commit = 1").numbers("would # 0 true", 0, many - 1, "BEYOND").numbers("would # 0 false", 0,
                many - 1, "BEYOND");
            for (String call : calls) {
                lines.numbers(call, 0, many - 1, "BEYOND");
            }
            test("1: a THING of " + many + ", in each call", lines);
        }
        Lines lines = Lines.of();
        for (String call : calls) {
            lines.refuses(call.replace(" 1", " 0"), "BEYOND", 0);
        }
        test("1: no THING is there at first, in each call", lines.refuses("would # 0 true", "BEYOND", 0));
    }

    private static void kinds() {
        test("1: each of a KIND 0 .. 5", Lines.of().numbers("thing #", 0, 5, "BEYOND").numbers("relate # 0 0", 0, 5,
            "BEYOND").numbers("reach # 0 0 0 0", 0, 5, "BEYOND").numbers("list # 0 0 0", 0, 5, "BEYOND"));
    }

    private static void persons() {
        test("1: PERSONS are 0 .. 39", Lines.plain(1).then("write 0 0 0 0", "write 0 0 39 0", "commit = 1",
            "who 0 0 1 = {0 39}").numbers("may 0 0 # 1", 0, 39, "BEYOND").numbers("why 0 0 # 1", 0, 39, "BEYOND")
            .numbers("reach 0 0 # 0 1", 0, 39, "BEYOND").numbers("list 0 0 # 1", 0, 39, "BEYOND"));
        Lines all = Lines.plain(1).times(20, "write 0 0 # 0").then("commit = 1");
        for (int p = 20; p < 40; p++) {
            all.then("write 0 0 " + p + " 0");
        }
        test("1: PERSONS are 0 .. 39, and all may be in", all.then("commit = 2", "who 0 0 2 = 1099511627775",
            "who 0 0 1 = 1048575", "differ 0 2 = 40", "differ 1 2 = 20", "would 0 0 true = 0", "undo 1",
            "would 0 0 false = 1048575"));
    }

    private static void relations() {
        test("1: RELATIONS 0 .. 7, in each call", Lines.plain(1).then("write 0 0 5 0", "write 0 7 5 0", "commit = 1")
            .numbers("would 0 # true", 0, 7, "BEYOND").numbers("relate 0 # 0", 0, 7, "BEYOND").numbers("rule 9 2 # 0",
            0, 7, "BEYOND").numbers("rule 9 3 # 0", 0, 7, "BEYOND").numbers("rule 9 3 0 #", 0, 7, "BEYOND")
            .numbers("write 0 # 5 0", 0, 7, "BEYOND").numbers("strike 0 # 5", 0, 7, "BEYOND").numbers("when 0 # 5 true",
            0, 7, "BEYOND").numbers("may 0 # 5 1", 0, 7, "BEYOND").numbers("who 0 # 1", 0, 7, "BEYOND")
            .numbers("reach 0 # 5 0 1", 0, 7, "BEYOND").numbers("why 0 # 5 1", 0, 7, "BEYOND").numbers("list 0 # 5 1",
            0, 7, "BEYOND"));
    }

    private static final int[] NO_USERS_OF_TWO = {-1, 40, 41, 98, 99, 102, 103, 139, 140, 990, 998, 999, 1008, 1009,
        1018, 1019, 1020, 1027, 1399, 1400, 11000, 1000000, -1000, -990, Integer.MIN_VALUE, Integer.MAX_VALUE};

    private static void usersOfTwoThings() {
        for (String call : new String[] {"write 0 0 # 0", "strike 0 0 #", "when 0 0 # true"}) {
            test("1: a USER of two THINGS: " + call, Lines.plain(2).takes(call, 0, 1, 38, 39, 100, 101, 1000, 1007,
                1010, 1017).then("forget").refuses(call, "BEYOND", NO_USERS_OF_TWO));
        }
        test("1: a USER where there is one THING alone, its own", Lines.of("thing 3", "write 0 0 100 0",
            "write 0 0 101 0 = BEYOND", "write 0 0 1007 0", "write 0 0 1010 0 = BEYOND", "strike 0 0 101 = BEYOND",
            "when 0 0 1010 true = BEYOND"));
    }

    private static void usersOfAllThings() {
        for (String call : new String[] {"write 39 7 # 0", "strike 39 7 #", "when 39 7 # true"}) {
            test("1: a USER of all 40 THINGS: " + call, Lines.of().times(40, "thing 0").takes(call, 100, 139, 1000,
                1007, 1390, 1397).refuses(call, "BEYOND", 99, 140, 999, 1008, 1388, 1389, 1398, 1399, 1400, 1407));
        }
        Lines told = Lines.plain(40).then("rule 9 3 1 2", "relate 0 0 9", "rule 10 4 9 0", "relate 0 3 10",
            "write 39 1 139 0", "write 39 2 39 0", "write 0 3 1390 0", "write 0 4 1397 0", "write 39 7 0 0",
            "commit = 1");
        test("1: the last THING and the last CLUB are told", told.then("who 39 0 1 = {39}", "who 0 3 1 = {39}",
            "who 0 4 1 = {0}", "pair 0 2 = 139", "pair 3 2 = 1397", "why 0 3 39 1 = 3", "reason 0 = 2", "reason 1 = 0",
            "reason 2 = 1"));
    }

    private static void places() {
        test("1: PLACES 0 .. 63, in each call", Lines.of("rule 0 0 0 0", "rule 63 0 0 0").numbers("asks # 0", 0, 63,
            "BEYOND").numbers("holds #", 0, 63, "BEYOND").numbers("relate 0 0 #", -1, 63, "BEYOND").numbers("name # 4",
            0, 63, "BEYOND").numbers("named #", 0, 63, "BEYOND").numbers("empty #", 0, 63, "BEYOND")
            .numbers("rule # 0 0 0", 0, 63, "BEYOND"));
    }

    private static void names() {
        Lines lines = Lines.of();
        for (int v : new int[] {Integer.MIN_VALUE, -10, -9, -8, -7, -6, -5, -4, -3, -2, -1, 0, 7, Integer.MAX_VALUE}) {
            lines.then("name 63 " + v + " = 1", "holds 63 = 7", "named 63 = " + v);
        }
        test("1: a PLACE holds a NAME (an int), of which none is a refusal", lines);
    }

    private static void sorts() {
        test("1: a RULE of a SORT 0 .. 6", Lines.of().numbers("rule 63 # 0 0", 0, 6, "NO").then("holds 63 = 6",
            "rule 63 7 0 0 = NO", "holds 63 = 6", "holds 62 = NONE"));
    }

    private static void placesOfRelations() {
        Lines lines = Lines.of("rule 0 0 0 0");
        for (int kind = 0; kind < 6; kind++) {
            lines.then("thing " + kind, "write " + kind + " 0 1 0", "write " + kind + " 7 1 0");
        }
        lines.then("commit = 1");
        for (int kind = 0; kind < 6; kind++) {
            lines.then("who " + kind + " 0 1 = 0", "who " + kind + " 7 1 = 0");
        }
        test("1: each KIND and RELATION has a PLACE, or none (at first)", lines.then("relate 5 7 0 = 1",
            "who 5 7 1 = {1}", "who 4 7 1 = 0", "who 5 0 1 = 0", "relate 0 0 0 = 1", "who 0 0 1 = {1}", "who 0 7 1 = 0",
            "relate 5 7 -1 = 1", "who 5 7 1 = 0", "relate 5 7 -1 = 1", "relate 5 7 -2 = BEYOND"));
    }

    private static void placesThatHoldNoRule() {
        test("1: none, if there is no PLACE, or it holds no RULE (any more)", Lines.of("thing 0", "write 0 0 1 0",
            "commit = 1", "who 0 0 1 = 0", "relate 0 0 63 = 1", "who 0 0 1 = 0", "name 63 0", "who 0 0 1 = 0",
            "rule 63 0 0 0", "who 0 0 1 = {1}", "name 63 0", "who 0 0 1 = 0", "why 0 0 1 1 = MISSING", "rule 63 0 0 0",
            "who 0 0 1 = {1}", "empty 63 = 1", "who 0 0 1 = 0"));
        Lines lines = Lines.of("thing 0", "relate 0 0 63", "write 0 0 1 0", "commit = 1");
        for (String none : new String[] {"empty 1", "name 1 6"}) {
            lines.then("rule 0 0 0 0", none, "rule 63 4 0 1", "who 0 0 1 = {1}", "rule 63 4 1 0", "who 0 0 1 = {1}",
                "rule 63 4 1 1", "who 0 0 1 = 0", "rule 63 5 0 1", "who 0 0 1 = 0", "rule 63 5 1 0", "who 0 0 1 = 0",
                "rule 63 6 0 1", "who 0 0 1 = {1}", "rule 63 6 1 0", "who 0 0 1 = 0", "rule 1 0 0 0", "rule 63 6 0 1",
                "who 0 0 1 = 0");
        }
        test("1: likewise what a RULE asks at a PLACE that holds none tells nobody", lines);
    }

    /** Relation 0 of thing 0: persons 1, clubs of 1 without an end, persons 2, clubs of 2 with one, things 1 and 2. */
    private static Lines pairsOfEachSort() {
        return Lines.plain(3).then("write 0 0 1 0", "write 0 0 2 9", "write 0 0 1011 0", "write 0 0 1022 9",
            "write 0 0 101 0", "write 0 0 102 9", "write 1 1 11 0", "write 2 2 12 0", "write 1 3 21 0",
            "write 2 3 22 0", "commit = 1");
    }

    private static void hereAndUntil() {
        test("1: UNTIL: PAIRS that have an END alone (HERE: those alone that have none)", pairsOfEachSort()
            .then("rule 63 0 0 0", "relate 0 0 63", "who 0 0 1 = {1 11}", "rule 63 1 0 0", "who 0 0 1 = {2 12}",
            "tick 8", "who 0 0 1 = {2 12}", "tick 1", "who 0 0 1 = 0", "rule 63 0 0 0", "who 0 0 1 = {1 11}"));
        test("1: HERE, CLUBS in which nobody is, and of what holds no RULE", Lines.plain(2).then("relate 0 5 -1",
            "write 0 0 1010 0", "write 0 0 1015 0", "write 1 5 3 0", "write 0 0 101 0", "commit = 1", "who 0 0 1 = 0",
            "why 0 0 3 1 = MISSING"));
    }

    private static void also() {
        test("1: ALSO x: RELATION x of the same THING", Lines.plain(2).then("rule 63 2 7 0", "relate 0 0 63",
            "write 0 7 1 0", "write 1 7 2 0", "write 0 0 3 0", "commit = 1", "who 0 0 1 = {1}", "who 1 0 1 = {2}",
            "rule 63 2 6 0", "who 0 0 1 = 0", "relate 0 6 -1", "who 0 0 1 = 0"));
    }

    private static void through() {
        test("1: THROUGH x y: each THING that a PAIR (with or without an END) tells", pairsOfEachSort()
            .then("rule 63 3 0 3", "relate 0 7 63", "who 0 7 1 = {21 22}", "tick 9", "who 0 7 1 = {21}",
            "who 1 7 1 = 0", "rule 63 3 3 0", "who 0 7 1 = 0", "relate 0 3 -1", "rule 63 3 0 3", "who 0 7 1 = 0"));
        test("1: THROUGH asks the PAIRS of this THING in RELATION x alone", Lines.plain(5).then("rule 10 3 2 5",
            "relate 0 0 10", "write 0 1 102 0", "write 0 2 101 0", "write 0 3 103 0", "write 1 2 104 0",
            "write 1 5 1 0", "write 2 5 2 0", "write 3 5 3 0", "write 4 5 4 0", "write 1 4 9 0", "write 1 6 9 0",
            "commit = 1", "who 0 0 1 = {1}", "who 1 0 1 = {4}", "who 2 0 1 = 0"));
        test("1: THROUGH asks the PAIRS in RELATION x, whatever its PLACE", Lines.of("thing 0", "rule 0 0 0 0",
            "rule 1 3 2 3", "relate 0 0 1", "relate 0 3 0", "write 0 2 100 0", "write 0 3 5 0", "write 0 2 6 0",
            "write 0 2 1003 0", "commit = 1", "who 0 2 1 = 0", "who 0 0 1 = {5}"));
    }

    private static void joins() {
        Lines lines = Lines.plain(1).then("rule 10 2 1 0", "rule 11 2 2 0", "relate 0 0 63", "write 0 1 1 0",
            "write 0 1 2 0", "write 0 2 2 0", "write 0 2 3 0", "commit = 1");
        test("1: ANY, ALL, LESS, the same PLACE twice too", lines.then("rule 63 4 10 11", "who 0 0 1 = {1 2 3}",
            "rule 63 5 10 11", "who 0 0 1 = {2}", "rule 63 6 10 11", "who 0 0 1 = {1}", "rule 63 6 11 10",
            "who 0 0 1 = {3}", "rule 63 4 10 10", "who 0 0 1 = {1 2}", "rule 63 5 10 10", "who 0 0 1 = {1 2}",
            "rule 63 6 10 10", "who 0 0 1 = 0"));
    }

    private static void lowerPlaces() {
        for (int sort = 4; sort <= 6; sort++) {
            String rule = "rule 63 " + sort;
            test("1: PLACES x, y are lower than the RULE's own, SORT " + sort, Lines.of().numbers(rule + " # 0", 0, 62,
                "NO").numbers(rule + " 0 #", 0, 62, "NO").numbers("rule 1 " + sort + " # 0", 0, 0, "NO")
                .numbers("rule 1 " + sort + " 0 #", 0, 0, "NO").refuses("rule 0 " + sort + " # 0", "NO", -1, 0, 1)
                .refuses("rule 0 " + sort + " 0 #", "NO", -1, 1).then("holds 0 = NONE"));
        }
    }

    private static void ringsOfRelations() {
        Lines lines = Lines.of("thing 0", "thing 0", "rule 0 0 0 0", "rule 1 1 0 0", "rule 2 2 2 0", "rule 3 3 3 3",
            "rule 4 2 5 0", "rule 5 2 4 0", "rule 6 2 6 0", "rule 7 4 6 6", "rule 8 2 7 0", "rule 9 5 8 8",
            "rule 30 6 8 20");
        for (int r = 0; r <= 5; r++) {
            lines.then("relate 0 " + r + " " + r + " = 1");
        }
        lines.then("relate 0 6 7 = 1", "relate 0 7 9 = 1", "write 0 0 1000 0", "write 0 1 1001 9", "write 0 3 100 0",
            "write 1 0 1010 0", "write 1 0 1000 0", "write 0 0 1010 0", "write 0 3 101 9", "write 1 3 100 9",
            "commit = 1");
        for (int r = 0; r <= 7; r++) {
            lines.then("who 0 " + r + " 1 = 0", "who 1 " + r + " 1 = 0", "why 0 " + r + " 0 1 = MISSING");
        }
        test("1: nobody is in by a ring of RELATIONS alone", lines.then("relate 0 7 30 = 1", "who 0 7 1 = 0",
            "differ 0 1 = 0"));
    }

    private static void ringsWithOneWhoIsIn() {
        Lines lines = Lines.plain(40);
        for (int t = 0; t < 40; t++) {
            lines.then("write " + t + " 0 " + (1000 + 10 * ((t + 1) % 40)) + " 0");
            lines.then(t % 20 == 19 ? new String[] {"commit"} : new String[0]);
        }
        test("1: WHO IS IN is the least that can be: a ring of all THINGS, and one who comes", lines
            .then("differ 0 2 = 0", "write 17 0 39 0", "would 18 0 true = {39}", "commit = 3", "differ 0 3 = 40",
            "list 0 0 39 3 = 40", "why 17 0 39 3 = 1", "why 18 0 39 3 = 40", "reason 0 = 18", "reason 38 = 16",
            "reason 39 = 40", "reason 40 = BEYOND", "strike 17 0 39", "would 18 0 false = {39}", "commit = 4",
            "differ 0 4 = 0", "why 18 0 39 4 = MISSING"));
    }

    /** Relation 0 of kind 0 takes away who is in relation 1; relation 1 has place 40, which holds nothing yet. */
    private static Lines lessOfRelationOne() {
        return Lines.of("thing 0", "thing 1", "rule 0 0 0 0", "rule 1 2 1 0", "rule 2 6 0 1", "rule 3 2 0 0",
            "rule 4 2 2 0", "relate 0 0 2 = 1", "relate 0 1 40 = 1");
    }

    private static void ringsOverLess() {
        test("1: RING, by ALSO, ANY, ALL and LESS", lessOfRelationOne().then("rule 40 2 0 0 = RING",
            "rule 40 4 0 3 = RING", "rule 40 4 3 0 = RING", "rule 40 5 0 3 = RING", "rule 40 5 3 0 = RING",
            "rule 40 6 3 0 = RING", "rule 40 6 0 3 = RING", "rule 40 4 0 0 = 1", "rule 40 6 0 0 = 1",
            "rule 40 5 0 4 = 1", "relate 0 2 3 = RING", "relate 1 2 3 = 1", "relate 0 2 4 = 1", "rule 4 2 0 0 = RING",
            "rule 4 2 1 0 = 1"));
        test("1: RING, by THROUGH: to RELATION y of all KINDS", lessOfRelationOne().then("rule 40 3 0 0 = RING",
            "rule 40 3 7 0 = RING", "rule 40 3 0 5 = 1", "rule 5 3 7 0", "relate 5 5 5 = RING", "relate 0 5 5 = RING",
            "relate 5 6 5 = 1", "rule 40 3 7 6 = RING", "relate 5 6 -1 = 1", "rule 40 3 7 6 = 1",
            "relate 2 6 5 = RING"));
        test("1: RING, the LESS itself: its second one alone", lessOfRelationOne().then("rule 10 6 3 0 = 1",
            "relate 3 0 10 = 1", "rule 11 6 0 3 = 1", "relate 3 0 11 = RING", "rule 10 6 0 3 = RING", "rule 12 3 7 0",
            "rule 13 6 12 0", "relate 3 0 13 = 1", "rule 14 6 0 12", "relate 3 0 14 = RING", "rule 15 6 0 14",
            "relate 3 0 15 = RING", "rule 16 6 14 0", "relate 3 0 16 = RING", "rule 17 4 0 16", "relate 3 0 17 = RING",
            "relate 3 0 0 = 1"));
        test("1: RING, over all 48 of a KIND and RELATION", chainOfLess().then("rule 0 2 0 0 = RING",
            "relate 5 7 1 = RING", "relate 5 7 0 = 1", "rule 63 3 0 0", "relate 5 7 63 = RING"));
    }

    /** In each kind relation r takes r + 1 away, and relation 7 leads to relation 0 of all kinds by place 1,
        or to none by place 0. */
    private static Lines chainOfLess() {
        Lines lines = Lines.of("rule 0 0 0 0", "rule 1 3 0 0");
        for (int r = 0; r < 7; r++) {
            lines.then("rule " + (10 + r) + " 2 " + (r + 1) + " 0", "rule " + (20 + r) + " 6 0 " + (10 + r));
        }
        for (int knot = 0; knot < 48; knot++) {
            lines.then("relate " + knot / 8 + " " + knot % 8 + " " + (knot % 8 == 7 ? 0 : 20 + knot % 8) + " = 1");
        }
        return lines;
    }

    private static void ringsOverLessByClubs() {
        Lines base = lessOfRelationOne().then("write 0 1 1000 0", "write 1 1 1000 9", "commit = 1", "strike 0 1 1000",
            "commit = 2", "tick 9");
        test("1: RING, by HERE, UNTIL: each PAIR ever written (struck, past its END, with the other's END)", base
            .then("rule 40 0 0 0 = RING", "rule 40 1 0 0 = RING", "rule 40 4 38 39 = 1", "rule 39 1 0 0 = RING",
            "rule 38 0 0 0 = RING", "rule 40 4 38 37 = 1", "rule 39 1 0 0 = 1", "rule 40 5 38 39 = RING",
            "rule 40 6 38 39 = RING", "rule 40 6 39 38 = RING"));
        test("1: RING, by a CLUB: that THING's KIND and that RELATION", lessOfRelationOne().then("write 0 1 1010 0",
            "write 1 1 1001 0", "write 0 1 1002 0", "write 0 1 100 0", "write 0 1 0 0", "write 0 2 1000 0",
            "commit = 1", "rule 40 0 0 0 = 1", "relate 1 1 0 = 1", "relate 1 0 3 = 1", "relate 0 2 0 = RING",
            "relate 1 1 3 = 1", "rule 5 3 6 0", "relate 1 0 5 = RING"));
    }

    private static void ringsOverLessByActs() {
        Lines base = lessOfRelationOne().then("rule 40 0 0 0 = 1");
        test("1: RING, by each ACT that commit(), would() would write", base.then("write 0 1 1000 0 = 1",
            "commit = RING", "would 0 0 true = 0 by RING", "would 0 0 false = 0 by RING", "strike 0 1 1000 = 2",
            "commit = RING", "would 0 0 true = 0 by RING", "rule 40 1 0 0 = 1", "commit = RING", "rule 40 0 0 0 = 1",
            "rule 2 6 0 1 = 1", "relate 0 1 -1 = 1", "would 0 0 true = 0", "commit = 1", "relate 0 1 40 = RING",
            "forget = 0"));
        test("1: no RING: by a PERSON, a THING, a CLUB of another KIND, and by one that is struck alone",
            lessOfRelationOne().then("rule 40 0 0 0 = 1", "write 0 1 0 0", "write 0 1 100 0", "write 0 1 1010 0",
            "write 0 0 1000 0", "commit = 1", "strike 0 1 1000", "commit = NO", "failed = 100"));
    }

    private static void ringsByNoClub() {
        for (int kind = 0; kind < 6; kind++) {
            Lines lines = Lines.of("thing " + kind, "rule 0 0 0 0", "rule 1 1 0 0", "rule 2 4 0 1", "rule 60 6 2 2",
                "rule 4 3 7 0");
            for (int knot = 0; knot < 48; knot++) {
                lines.then("relate " + knot / 8 + " " + knot % 8 + " 4 = 1");
            }
            test("1: no RING by PAIRS that tell a PERSON or a THING, KIND " + kind, lines.then("write 0 0 0 0",
                "write 0 0 39 9", "write 0 0 100 0", "commit = 1", "relate " + kind + " 0 60 = 1", "who 0 0 1 = 0",
                "rule 60 6 2 50 = 1", "who 0 0 1 = {0 39}", "rule 60 6 2 2 = 1", "write 0 0 1001 0", "commit = RING"));
        }
    }

    private static void ringsThatWereRefused() {
        Lines base = lessOfRelationOne().then("rule 40 0 0 0", "rule 10 2 3 0", "rule 11 2 0 0", "rule 12 4 10 11",
            "rule 13 2 2 0", "relate 0 2 12", "relate 0 3 13", "write 0 0 5 0", "write 0 1 5 0", "write 0 0 6 0",
            "commit = 1");
        String[] looks = {"who 0 0 1 = {6}", "who 0 1 1 = {5}", "who 0 2 1 = {6}", "who 0 3 1 = {6}",
            "why 0 3 5 1 = MISSING", "why 0 3 6 1 = 3"};
        test("1: a RING that was refused leaves nothing, nor is anybody in by it", base.then(looks)
            .then("rule 40 2 0 0 = RING").then(looks).then("relate 0 1 3 = RING").then(looks).then("write 0 1 1000 0",
            "commit = RING").then(looks).then("would 0 2 true = 0 by RING").then(looks));
    }

    // ---- 2: pairs, turns

    private static void ends() {
        test("2: an END (a TICK 1 .. 1000000, or 0: none)", Lines.plain(1).numbers("write 0 0 0 #", 0, 1000000, "NO")
            .then("forget = 2", "write 0 0 0 1", "write 0 0 1 1000000", "write 0 0 2 0", "commit = 1", "pair 0 3 = 1",
            "pair 1 3 = 1000000", "pair 2 3 = 0"));
    }

    private static void oneInForce() {
        test("2: of one THING, RELATION and USER one at most is in force, whatever its END", Lines.plain(2)
            .then("write 0 0 0 0", "commit = 1", "write 0 0 0 5", "commit = NO", "failed = 100", "forget", "tick 7",
            "write 0 1 0 5", "commit = 2", "write 0 1 0 0", "commit = NO", "failed = 100", "strike 0 1 0",
            "commit = NO", "forget", "strike 0 1 0", "write 0 1 0 0", "commit = 3", "write 1 0 0 0", "write 0 2 0 0",
            "write 0 0 1 0", "write 0 0 100 0", "write 0 0 1000 0", "commit = 4", "inForce 4 = 7", "count 4 = 8"));
    }

    private static void turns() {
        Lines lines = Lines.plain(1).then("inForce 0 = 0", "commit = 1", "inForce 0 = 0").numbers("inForce #", 0, 1,
            "BEYOND").numbers("undo #", 1, 1, "BEYOND");
        for (int t = 2; t <= 198; t++) {
            lines.then("commit = " + t);
        }
        lines.then("write 0 0 3 0", "commit = 199", "strike 0 0 3", "commit = 200", "write 0 0 4 0", "commit = FULL",
            "count 2 = 1", "forget = 1", "commit = FULL", "would 0 0 true = 0 by FULL", "count 0 = 200",
            "who 0 0 199 = {3}", "who 0 0 200 = 0", "inForce 199 = 1", "inForce 200 = 0", "change 199 0 = 1",
            "change 198 0 = 0", "change 198 1 = 1", "change 200 0 = NONE", "undo 200 = 1", "undo 201 = BEYOND",
            "inForce 201 = BEYOND", "who 0 0 201 = 0 by BEYOND", "differ 199 200 = 1");
        test("2: TURNS are numbered from 1 (0: ahead of all, no PAIRS), 200 at most", lines);
        String[] calls = {"inForce #", "change # 0", "may 0 0 0 #", "who 0 0 #", "reach 0 0 0 0 #", "differ # 0",
            "differ 0 #", "list 0 0 0 #"};
        for (int latest : new int[] {0, 3}) {
            Lines numbers = Lines.plain(1).times(latest, "commit");
            for (String call : calls) {
                numbers.numbers(call, 0, latest, "BEYOND");
            }
            test("2: a TURN 0 .. " + latest + ", in each call", numbers.refuses("why 0 0 0 #", "MISSING", 0, latest)
                .refuses("why 0 0 0 #", "BEYOND", -1, latest + 1, Integer.MIN_VALUE, Integer.MAX_VALUE));
        }
    }

    private static void acts() {
        test("2: ACTS (20 at most)", Lines.plain(1).times(19, "write 0 0 # 0").then("strike 0 0 0 = 20", "count 2 = 20",
            "write 0 0 20 0 = FULL", "strike 0 0 20 = FULL", "count 2 = 20", "when 0 0 0 false = 1", "commit = 1",
            "count 2 = 0", "write 0 0 20 0 = 1", "inForce 1 = 18", "count 4 = 19"));
    }

    private static void conditions() {
        test("2: CONDITIONS (10 at most)", Lines.plain(1).times(9, "when 0 0 # false").then("when 0 0 9 false = 10",
            "count 3 = 10", "when 0 0 10 false = FULL", "when 0 0 10 true = FULL", "count 3 = 10", "write 0 0 0 0 = 1",
            "commit = 1", "count 3 = 0", "when 0 0 10 false = 1"));
    }

    private static void conditionsOfTheLatestTurn() {
        test("2: CONDITIONS: in force, or not, in the latest TURN (not by the ACTS; whatever the END)", Lines.plain(1)
            .then("when 0 0 1 true", "write 0 0 1 3", "commit = NO", "failed = 0", "forget", "when 0 0 1 false",
            "write 0 0 1 3", "commit = 1", "when 0 0 1 false", "strike 0 0 1", "commit = NO", "failed = 0", "forget",
            "tick 3", "when 0 0 1 true", "when 0 0 2 false", "when 0 1 1 false", "strike 0 0 1", "commit = 2",
            "when 0 0 1 true", "commit = NO", "failed = 0", "forget", "when 0 0 1 false", "commit = 3"));
        test("2: CONDITIONS: of this THING, RELATION and USER alone", Lines.of("thing 0", "thing 0", "write 1 7 1010 0",
            "commit = 1", "when 1 7 1010 false", "commit = NO", "failed = 0", "forget", "when 0 7 1010 true",
            "commit = NO", "failed = 0", "forget", "when 1 6 1010 true", "commit = NO", "forget", "when 1 7 1000 true",
            "commit = NO", "forget", "when 1 7 1010 true", "when 0 7 1010 false", "when 1 6 1010 false",
            "when 1 7 1000 false", "when 1 7 10 false", "when 1 7 101 false", "commit = 2"));
    }

    private static void firstThatFails() {
        test("2: the first that fails, CONDITIONS as they came, then ACTS as they came", Lines.plain(1)
            .then("strike 0 0 0", "when 0 0 0 false", "when 0 0 1 true", "when 0 0 2 true", "write 0 0 0 0",
            "write 0 0 0 0", "commit = NO", "failed = 1", "undo 1 = BEYOND", "forget = 3", "write 0 0 0 0",
            "write 0 0 0 0", "strike 0 0 5", "commit = NO", "failed = 101", "forget = 3", "strike 0 0 5",
            "write 0 0 0 0", "write 0 0 0 0", "commit = NO", "failed = 100", "count 0 = 0", "count 4 = 0"));
    }

    private static void byActsBefore() {
        test("2: a PAIR that is in force by then, one to be struck that is not (by ACTS before it, too)", Lines.plain(1)
            .then("write 0 0 0 0", "strike 0 0 0", "write 0 0 0 4", "strike 0 0 0", "commit = 1", "inForce 1 = 0",
            "count 4 = 2", "pair 0 5 = 1", "pair 1 4 = 1", "pair 1 5 = 1", "change 0 0 = 0", "change 0 1 = 1",
            "change 0 2 = 2", "change 0 3 = 3", "change 0 4 = NONE", "write 0 0 0 0", "write 0 0 0 4", "commit = NO",
            "failed = 101", "forget", "write 0 0 0 0", "strike 0 0 0", "strike 0 0 0", "commit = NO", "failed = 102",
            "forget", "strike 0 0 0", "write 0 0 0 0", "commit = NO", "failed = 100", "count 4 = 2"));
    }

    private static void pairs() {
        test("2: PAIRS are numbered from 0 (written anew it is another one)", Lines.plain(1).then("pair 0 0 = BEYOND",
            "write 0 0 0 0", "commit = 1", "strike 0 0 0", "commit = 2", "write 0 0 0 0", "commit = 3", "count 4 = 2",
            "pair 0 4 = 1", "pair 0 5 = 2", "pair 1 4 = 3", "pair 1 5 = NONE", "why 0 0 0 1 = 1", "reason 0 = 0",
            "why 0 0 0 3 = 1", "reason 0 = 1", "pair 2 0 = BEYOND"));
        Lines full = Lines.plain(2).pairs(399).then("count 4 = 399", "write 1 7 38 0", "write 1 7 39 0",
            "commit = FULL", "would 0 0 true = 0 by FULL", "count 2 = 2", "forget = 2", "write 1 7 39 0",
            "would 1 7 true = {39}", "commit = 21", "count 4 = 400", "write 1 7 38 0", "commit = FULL", "forget = 1",
            "strike 0 0 0", "commit = 22", "write 0 0 0 0", "commit = FULL", "inForce 22 = 399", "pair 399 2 = 39",
            "pair 400 2 = BEYOND", "forget = 1", "change 21 0 = 1", "change 20 0 = 798", "who 1 7 22 = {39}",
            "why 1 7 39 22 = 1", "reason 0 = 399", "without 399 = 0", "without 400 = BEYOND");
        test("2: 400 PAIRS at most", full);
        Lines last = Lines.plain(2).pairs(380).then("undo 1 = 20", "commit = 20", "undo 1 = 20").times(2, "inForce 19")
            .then("undo 20 = 20", "commit = 21", "count 4 = 400", "undo 21 = 20", "commit = 22", "undo 22 = 20",
            "commit = FULL", "count 2 = 20", "inForce 21 = 380", "inForce 22 = 360", "pair 399 3 = 0",
            "change 21 19 = 761", "change 21 20 = NONE", "change 0 439 = 761", "change 0 440 = NONE");
        test("2: 400 PAIRS at most, and more changes", last);
    }

    private static void endsAboveTheTick() {
        test("2: at TICK k: PAIRS that have no END, or one above k", Lines.plain(1).then("rule 63 1 0 0",
            "relate 0 0 63", "write 0 0 0 0", "write 0 0 1 1", "write 0 0 2 2", "write 0 0 3 1000000", "write 0 1 9 1",
            "commit = 1", "who 0 0 1 = {1 2 3}", "tick 1", "who 0 0 1 = {2 3}", "may 0 0 1 1 = 0", "may 0 0 2 1 = 1",
            "tick 1 = 2", "who 0 0 1 = {3}", "inForce 1 = 5", "tick 999997 = 999999", "who 0 0 1 = {3}",
            "tick 1 = 1000000", "who 0 0 1 = 0", "inForce 1 = 5", "rule 63 0 0 0", "who 0 0 1 = {0}",
            "write 0 2 5 1000000", "commit = 2", "relate 0 2 63", "rule 63 1 0 0", "who 0 2 2 = 0", "inForce 2 = 6"));
    }

    private static void theTick() {
        test("2: THE TICK is 0 at first, and only goes up", Lines.of("count 1 = 0", "tick 0 = 0", "tick -1 = BELOW",
            "tick 1 = 1", "tick 0 = 1", "tick -1 = BELOW", "tick -2147483648 = BELOW", "tick 2147483647 = NO",
            "tick 1000000 = NO", "tick 999999 = 1000000", "tick 1 = NO", "tick 2147483647 = NO", "tick 0 = 1000000",
            "count 1 = 1000000"));
        test("2: THE TICK, all at once", Lines.of("tick 1000001 = NO", "tick 1000000 = 1000000", "tick 0 = 1000000",
            "tick 1 = NO"));
    }

    // ---- 3: cost, reason

    private static void costs() {
        test("3: 1 by a PAIR that tells the PERSON, 1 and the COST in the CLUB", Lines.plain(3).then("write 0 0 5 0",
            "write 1 0 1000 0", "write 2 0 1010 0", "commit = 1", "why 0 0 5 1 = 1", "why 1 0 5 1 = 2",
            "why 2 0 5 1 = 3", "write 2 0 5 0", "commit = 2", "why 2 0 5 2 = 1", "why 2 0 5 1 = 3", "rule 63 1 0 0",
            "relate 0 1 63", "write 0 1 1020 1", "write 0 1 6 1", "commit = 3", "why 0 1 6 3 = 1", "why 0 1 5 3 = 2",
            "tick 1", "why 0 1 6 3 = MISSING", "why 0 1 5 3 = MISSING"));
        test("3: ALSO: 1 and that COST; THROUGH: 1 and the COST in that", Lines.plain(2).then("rule 10 2 1 0",
            "rule 11 2 0 0", "rule 12 3 7 2", "relate 0 0 10", "relate 0 2 11", "relate 0 3 12", "write 1 1 5 0",
            "write 0 7 101 9", "commit = 1", "why 1 1 5 1 = 1", "why 1 0 5 1 = 2", "why 1 2 5 1 = 3", "why 0 3 5 1 = 4",
            "reason 0 = 1", "reason 1 = 0", "reason 2 = BEYOND", "tick 9", "why 0 3 5 1 = MISSING"));
    }

    private static void costsOfJoins() {
        Lines base = Lines.plain(1).then("rule 10 2 1 0", "rule 11 2 2 0", "relate 0 0 63", "write 0 1 5 0",
            "write 0 2 1001 0", "write 0 1 6 0", "write 0 2 7 0", "commit = 1");
        test("3: ANY: the lesser one of those who tell the PERSON; ALL: the greater one; LESS: that of the first", base
            .then("rule 63 4 10 11", "why 0 0 5 1 = 2", "why 0 0 7 1 = 2", "rule 63 4 11 10", "why 0 0 5 1 = 2",
            "why 0 0 6 1 = 2", "rule 63 5 10 11", "why 0 0 5 1 = 3", "why 0 0 7 1 = MISSING", "rule 63 5 11 10",
            "why 0 0 5 1 = 3", "rule 63 6 11 10", "why 0 0 7 1 = 2", "why 0 0 5 1 = MISSING", "why 0 0 6 1 = MISSING",
            "rule 63 6 10 50", "why 0 0 5 1 = 2", "rule 63 5 10 10", "why 0 0 5 1 = 2", "rule 63 4 11 11",
            "why 0 0 5 1 = 3", "rule 63 5 50 10", "why 0 0 5 1 = MISSING"));
    }

    private static void costsByOtherSorts() {
        test("3: COST by HERE, UNTIL: of PAIRS that have no END, that have one, alone", Lines.plain(2)
            .then("rule 63 0 0 0", "relate 0 0 63", "write 0 0 5 9", "write 0 0 1010 0", "write 0 0 6 0",
            "write 0 0 1011 9", "write 1 0 5 0", "write 1 1 6 0", "write 0 0 100 0", "commit = 1",
            "why 1 0 5 1 = 1", "why 0 0 5 1 = 2", "reason 0 = 1",
            "why 0 0 6 1 = 1", "reason 0 = 2", "rule 63 1 0 0", "relate 0 0 63", "why 0 0 5 1 = 1", "reason 0 = 0",
            "why 0 0 6 1 = 2", "reason 0 = 3"));
        test("3: COST by THROUGH: of PAIRS that tell a THING alone", Lines.plain(3).then("rule 63 3 2 1",
            "relate 0 0 63", "write 0 2 5 0", "write 0 2 1011 0", "write 0 2 1021 9", "write 0 2 101 0",
            "write 0 2 102 9", "write 1 1 1021 0", "write 2 1 5 0", "commit = 1", "why 0 0 5 1 = 2", "reason 0 = 4",
            "reason 1 = 6", "tick 9", "why 0 0 5 1 = 3", "reason 0 = 3", "reason 1 = 5", "reason 2 = 6"));
        Lines none = Lines.plain(1).then("rule 10 2 1 0", "relate 0 0 63", "write 0 1 5 0", "commit = 1");
        for (String nothing : new String[] {"empty 50", "name 50 0"}) {
            none.then(nothing, "rule 63 4 50 10", "why 0 0 5 1 = 2", "reason 0 = 0", "rule 63 4 10 50",
                "why 0 0 5 1 = 2", "reason 0 = 0", "rule 63 6 10 50", "why 0 0 5 1 = 2", "rule 63 5 50 10",
                "why 0 0 5 1 = MISSING", "rule 63 6 50 10", "why 0 0 5 1 = MISSING");
        }
        test("3: COST where a PLACE that is asked holds no RULE", none);
        test("3: COST by LESS: at each THING who is taken away there", Lines.plain(2).then("rule 10 2 1 0",
            "rule 11 2 2 0", "rule 12 6 10 11", "rule 13 2 3 0", "rule 14 4 12 13", "relate 0 0 14", "write 0 1 5 0",
            "write 0 2 5 0", "write 0 3 1004 0", "write 0 4 5 0", "write 1 1 5 0", "write 1 3 5 0", "commit = 1",
            "why 0 0 5 1 = 3", "reason 0 = 2", "reason 1 = 3", "why 1 0 5 1 = 2", "reason 0 = 4", "strike 0 2 5",
            "write 1 2 5 0", "commit = 2", "why 0 0 5 2 = 2", "reason 0 = 0", "why 1 0 5 2 = 2", "reason 0 = 5"));
    }

    private static void reasons() {
        test("3: of PAIRS by which it is the same the one with the least number", Lines.plain(4)
            .then("write 3 0 1020 0", "write 3 0 1010 0", "write 3 0 1000 0", "write 0 0 5 0", "write 1 0 5 0",
            "write 2 0 5 0", "write 0 1 1000 0", "commit = 1", "why 3 0 5 1 = 2", "reason 0 = 0", "reason 1 = 5",
            "strike 2 0 5", "commit = 2", "why 3 0 5 2 = 2", "reason 0 = 1", "reason 1 = 4", "write 2 0 5 0",
            "commit = 3", "why 3 0 5 3 = 2", "reason 0 = 0", "reason 1 = 7", "without 0 = 1", "strike 3 0 1020",
            "write 3 0 1020 0", "commit = 4", "why 3 0 5 4 = 2", "reason 0 = 1", "reason 1 = 4"));
        test("3: the least COST ahead of the least number", Lines.plain(3).then("write 0 0 1010 0", "write 0 0 1020 0",
            "write 1 0 1020 0", "write 2 0 5 0", "write 0 0 5 0", "commit = 1", "why 0 0 5 1 = 1", "reason 0 = 4",
            "reason 1 = BEYOND", "strike 0 0 5", "commit = 2", "why 0 0 5 2 = 2", "reason 0 = 1", "reason 1 = 3",
            "strike 0 0 1020", "commit = 3", "why 0 0 5 3 = 3", "reason 0 = 0", "reason 1 = 2", "reason 2 = 3",
            "reason 3 = BEYOND"));
    }

    private static void reasonsOfJoins() {
        Lines base = Lines.plain(1).then("rule 10 2 1 0", "rule 11 2 2 0", "relate 0 0 63", "write 0 2 5 0",
            "write 0 1 5 0", "write 0 1 1002 0", "commit = 1");
        test("3: of ANY x ahead of y; of ALL those of x, then those of y", base.then("rule 63 4 10 11",
            "why 0 0 5 1 = 2", "reason 0 = 1", "reason 1 = BEYOND", "rule 63 4 11 10", "why 0 0 5 1 = 2",
            "reason 0 = 0", "rule 63 5 10 11", "why 0 0 5 1 = 2", "reason 0 = 1", "reason 1 = 0", "reason 2 = BEYOND",
            "rule 63 5 11 10", "why 0 0 5 1 = 2", "reason 0 = 0", "reason 1 = 1", "rule 63 5 10 10", "why 0 0 5 1 = 2",
            "reason 0 = 1", "reason 1 = 1", "reason 2 = BEYOND", "rule 63 6 11 50", "why 0 0 5 1 = 2", "reason 0 = 0",
            "reason 1 = BEYOND"));
        test("3: of ALL those of x, then those of y, where both lead on to ALLS of other THINGS", Lines.plain(3)
            .then("rule 10 2 1 0", "rule 11 2 2 0", "rule 12 5 10 11", "relate 0 0 12", "write 0 1 1010 0",
            "write 0 2 1020 0", "write 1 1 5 0", "write 1 2 5 0", "write 2 1 5 0", "write 2 2 5 0", "commit = 1",
            "why 0 0 5 1 = 4", "reason 0 = 0", "reason 1 = 2", "reason 2 = 3", "reason 3 = 1", "reason 4 = 4",
            "reason 5 = 5", "reason 6 = BEYOND"));
        test("3: of ALL each of its own least COST", Lines.plain(1).then("rule 10 2 1 0", "rule 11 2 2 0",
            "rule 12 2 3 0", "rule 13 4 10 12", "rule 63 5 11 13", "relate 0 0 63", "write 0 1 1004 0",
            "write 0 2 1005 0", "write 0 3 5 0", "write 0 4 5 0", "write 0 5 1004 0", "commit = 1", "why 0 0 5 1 = 4",
            "reason 0 = 1", "reason 1 = 4", "reason 2 = 3", "reason 3 = 2", "reason 4 = BEYOND"));
    }

    // ---- 4: refusals

    private static void refusalsInOrder() {
        test("4: of several the first as each line has them: things, rules", Lines.plain(1).times(39, "thing 0")
            .then("thing 6 = BEYOND", "thing -1 = BEYOND", "rule 64 7 0 0 = BEYOND", "rule -1 4 9 9 = BEYOND",
            "rule 64 2 8 0 = BEYOND", "rule 20 6 20 0 = NO", "name 20 1", "asks 64 2 = BEYOND", "asks 20 2 = KIND",
            "asks 20 0 = KIND", "asks 21 2 = MISSING", "asks 0 2 = NO", "named 64 = BEYOND", "rule 10 2 1 0",
            "rule 11 6 0 10", "relate 0 0 11", "rule 12 2 0 0", "relate 0 8 12 = BEYOND", "relate 6 1 12 = BEYOND",
            "relate 0 1 64 = BEYOND", "relate 0 1 12 = RING", "rule 1 6 1 12 = NO", "rule 1 3 0 8 = BEYOND",
            "rule 1 7 0 0 = NO", "rule 1 3 7 0 = RING"));
        test("4: of several the first as each line has them: turns", Lines.plain(1).times(20, "strike 0 0 0").times(10,
            "when 0 0 0 true").then("write 1 0 0 -1 = BEYOND", "write 0 0 0 -1 = NO", "write 1 0 0 0 = BEYOND",
            "write 0 8 0 0 = BEYOND", "write 0 0 40 0 = BEYOND", "write 0 0 0 1000001 = NO", "write 0 0 0 0 = FULL",
            "strike 1 0 0 = BEYOND", "strike 0 8 0 = BEYOND", "strike 0 0 40 = BEYOND", "strike 0 0 0 = FULL",
            "when 1 0 0 true = BEYOND", "when 0 8 0 true = BEYOND", "when 0 0 40 true = BEYOND",
            "when 0 0 0 true = FULL", "commit = NO", "failed = 0", "pair 0 6 = BEYOND", "change 1 -1 = BEYOND",
            "change 0 -1 = BELOW"));
        test("4: of several the first as each line has them: questions, rows", Lines.plain(1)
            .then("reach 6 0 0 -1 0 = BEYOND", "reach 0 8 0 -1 0 = BEYOND", "reach 0 0 40 -1 0 = BEYOND",
            "reach 0 0 0 -1 1 = BEYOND", "reach 0 0 0 -1 0 = BELOW", "without 0 = BEYOND", "strike 0 0 0",
            "would 0 8 true = 0 by BEYOND", "would 1 0 true = 0 by BEYOND", "would 0 0 true = 0 by NO",
            "row -1 = MISSING", "copy -1 0 -1 = MISSING", "copy -1 0 1 = MISSING", "list 0 0 0 0 = 0",
            "row -1 = BEYOND", "copy -1 0 -1 = BELOW", "copy 1 0 -1 = BELOW", "copy -1 0 0 = COPY"));
        test("4: of several the first as each line has them: commit, FULL ahead of NO ahead of RING",
            lessOfRelationOne().then("rule 40 0 0 0", "write 0 1 1000 0", "strike 0 0 9", "commit = NO", "failed = 101",
            "would 0 0 true = 0 by NO", "forget", "write 0 1 1000 0", "commit = RING", "forget").times(200, "commit")
            .then("write 0 1 1000 0", "commit = FULL", "would 0 0 true = 0 by FULL", "strike 0 0 9", "commit = FULL",
            "would 0 0 true = 0 by FULL", "would 2 0 true = 0 by BEYOND", "failed = 101"));
    }
}
