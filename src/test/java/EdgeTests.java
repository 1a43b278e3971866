/** A test for each sentence of the promises 1 to 34 that names a boundary: too small, too large, empty, full,
    refused. */
public final class EdgeTests {
    private static final Checks CHECKS = new Checks();
    private static final Script SCRIPT = new Script(CHECKS);
    private static final int LOW = Integer.MIN_VALUE;
    private static final int HIGH = Integer.MAX_VALUE;

    private EdgeTests() {
    }

    public static void main(String[] args) {
        newObject();
        thing();
        rule();
        ruleThatIsRefused();
        name();
        empty();
        holds();
        asks();
        named();
        relate();
        write();
        strike();
        when();
        forget();
        commit();
        commitFull();
        commitRefused();
        failed();
        undo();
        undoOfMany();
        tick();
        count();
        inForce();
        pair();
        change();
        may();
        who();
        reach();
        why();
        whyByLongWays();
        reason();
        reasonOfSixty();
        without();
        would();
        wouldRefused();
        differ();
        list();
        tear();
        row();
        copy();
        copyOverlapping();
        status();
        CHECKS.isTrue("refused calls were looked at", SCRIPT.refusedCalls() > 500);
        CHECKS.end("terms 4: a refused call changes nothing but status(): " + SCRIPT.refusedCalls() + " of them");
        CHECKS.exit();
    }

    private static void test(String name, Lines script) {
        SCRIPT.test("edges of promise " + name, script);
    }

    // ---- things, rules

    private static void newObject() {
        test("1: no THINGS, RULES, PAIRS; TURN 0 is the latest; the TURN that is made is empty; TICK 0", Lines.of()
            .times(6, "count # = 0").times(64, "holds # = NONE").then("forget = 0", "inForce 0 = 0",
            "inForce 1 = BEYOND", "pair 0 0 = BEYOND", "change 0 0 = NONE", "change 1 0 = BEYOND", "differ 0 0 = 0",
            "failed = NONE", "reason 0 = BEYOND", "without 0 = BEYOND", "tear = 0", "row 0 = MISSING",
            "undo 0 = BEYOND", "undo 1 = BEYOND", "reach 0 0 0 0 0 = NONE", "list 5 7 39 0 = 0", "may 0 0 0 0 = BEYOND")
            .times(64, "empty # = 0").then("commit = 1"));
    }

    private static void thing() {
        test("2: BEYOND: KIND", Lines.of().refuses("thing #", "BEYOND", -1, 6, 7, LOW, HIGH).then("count 5 = 0",
            "thing 0 = 0", "thing 6 = BEYOND", "thing 5 = 1", "count 5 = 2"));
        test("2: FULL, and BEYOND ahead of it", Lines.of().times(39, "thing 3 = #").then("thing 0 = 39",
            "thing 3 = FULL", "thing 0 = FULL", "thing 5 = FULL", "thing -1 = BEYOND", "thing 6 = BEYOND",
            "count 5 = 40"));
    }

    private static void rule() {
        test("3: what was there goes", Lines.of("thing 0", "relate 0 0 63", "write 0 0 1 0", "write 0 0 2 9",
            "write 0 1 3 0", "commit = 1", "relate 0 1 0", "rule 0 0 0 0 = 1", "rule 63 0 5 6 = 1", "who 0 0 1 = {1}",
            "rule 63 1 7 8 = 1", "holds 63 = 1", "who 0 0 1 = {2}", "rule 63 2 1 0 = 1", "who 0 0 1 = {3}",
            "rule 63 6 1 2 = 1", "asks 63 1 = 2", "rule 63 0 0 0 = 1", "asks 63 0 = NONE", "asks 63 1 = NONE",
            "name 63 5", "rule 63 3 4 5 = 1", "named 63 = KIND", "asks 63 0 = 4", "asks 63 1 = 5", "who 0 0 1 = 0"));
        Lines unread = Lines.of();
        for (int n : new int[] {LOW, -1, 8, 64, HIGH}) {
            unread.then("rule 0 0 " + n + " " + n + " = 1", "rule 0 1 " + n + " " + n + " = 1",
                "rule 0 2 7 " + n + " = 1");
        }
        test("3: numbers that a SORT has not are not looked at", unread.then("asks 0 0 = 7", "asks 0 1 = NONE"));
        test("3: lower PLACES (0 .. PLACE - 1; they may hold nothing)", Lines.of("rule 63 4 62 0 = 1",
            "rule 63 5 0 62 = 1", "rule 63 6 62 62 = 1", "rule 1 4 0 0 = 1", "holds 0 = NONE", "name 0 3",
            "rule 1 5 0 0 = 1", "rule 1 6 0 0 = 1"));
    }

    private static void ruleThatIsRefused() {
        Lines lines = Lines.of("name 9 4").refuses("rule # 0 0 0", "BEYOND", -1, 64, LOW, HIGH).refuses("rule # 9 0 0",
            "BEYOND", -1, 64).refuses("rule 9 2 # 0", "BEYOND", -1, 8, LOW, HIGH).refuses("rule 9 3 # 7", "BEYOND", -1,
            8, LOW, HIGH).refuses("rule 9 3 7 #", "BEYOND", -1, 8, LOW, HIGH).refuses("rule 9 # 0 0", "NO", -1, 7, LOW,
            HIGH);
        for (int sort = 4; sort <= 6; sort++) {
            lines.refuses("rule 9 " + sort + " # 0", "NO", -1, 9, 10, 63, 64, LOW, HIGH);
            lines.refuses("rule 9 " + sort + " 8 #", "NO", -1, 9, 10, 63, 64, LOW, HIGH);
        }
        test("3: BEYOND (PLACE; RELATIONS of ALSO, THROUGH), NO", lines.then("named 9 = 4"));
        Lines ring = Lines.of("rule 0 0 0 0", "rule 1 2 1 0", "rule 2 6 0 1", "rule 3 2 7 0", "name 4 -7",
            "relate 5 0 2");
        for (String held : new String[] {"rule 9 0 0 0", "rule 9 1 0 0", "rule 9 2 6 0", "rule 9 3 4 5", "rule 9 4 3 8",
            "rule 9 5 8 3", "rule 9 6 3 0", "name 9 -2147483648", "empty 9"}) {
            ring.then(held, "relate 5 1 9 = 1", "rule 9 2 0 0 = RING", "rule 9 3 0 0 = RING", "rule 9 5 9 0 = NO",
                "relate 5 1 -1");
        }
        test("3: RING, and what was there stays", ring.then("relate 5 1 9", "holds 9 = NONE", "rule 9 2 7 0 = 1",
            "rule 3 2 0 0 = 1", "relate 5 7 3 = RING"));
    }

    private static void name() {
        test("4: a PLACE holds a NAME: 1", Lines.of("name 0 0 = 1", "named 0 = 0", "name 0 2147483647 = 1",
            "named 0 = 2147483647", "name 63 -2147483648 = 1", "named 63 = -2147483648", "rule 5 6 0 1 = 1",
            "name 5 -1 = 1", "named 5 = -1", "holds 5 = 7", "asks 5 0 = KIND"));
        test("4: BEYOND", Lines.of("name 0 1").refuses("name # -3", "BEYOND", -1, 64, 65, LOW, HIGH).then("named 0 = 1",
            "named 63 = MISSING"));
        test("4: a NAME takes a LESS away: what led over it may come", Lines.of("rule 0 0 0 0", "rule 1 2 1 0",
            "rule 2 6 0 1", "rule 3 2 0 0", "relate 0 0 2", "relate 0 1 3 = RING", "name 2 1", "relate 0 1 3 = 1",
            "rule 2 6 0 1 = RING", "named 2 = 1"));
    }

    private static void empty() {
        test("5: 1 if it held something, else 0", Lines.of("empty 0 = 0", "rule 0 0 0 0", "empty 0 = 1", "empty 0 = 0",
            "name 0 0", "empty 0 = 1", "empty 0 = 0", "holds 0 = NONE", "rule 63 6 0 62", "empty 63 = 1",
            "asks 63 0 = MISSING", "named 63 = MISSING", "empty 63 = 0"));
        test("5: BEYOND", Lines.of("rule 0 0 0 0", "name 63 1").refuses("empty #", "BEYOND", -1, 64, LOW, HIGH)
            .then("holds 0 = 0", "holds 63 = 7"));
    }

    private static void holds() {
        test("6: NONE it holds nothing, 0 .. 6 its RULE's SORT, 7 a NAME", Lines.of("holds 9 = NONE")
            .then("rule 9 0 0 0", "holds 9 = 0", "rule 9 1 0 0", "holds 9 = 1", "rule 9 2 0 0", "holds 9 = 2",
            "rule 9 3 0 0", "holds 9 = 3", "rule 9 4 0 0", "holds 9 = 4", "rule 9 5 0 0", "holds 9 = 5", "rule 9 6 0 0",
            "holds 9 = 6", "name 9 0", "holds 9 = 7", "empty 9", "holds 9 = NONE", "holds 8 = NONE",
            "holds 10 = NONE"));
        test("6: BEYOND", Lines.of().refuses("holds #", "BEYOND", -1, 64, LOW, HIGH));
    }

    private static void asks() {
        test("7: x (what = 0), y (1), NONE where its SORT has none", Lines.of("rule 9 0 1 2", "asks 9 0 = NONE",
            "asks 9 1 = NONE", "rule 9 1 1 2", "asks 9 0 = NONE", "asks 9 1 = NONE", "rule 9 2 7 2", "asks 9 0 = 7",
            "asks 9 1 = NONE", "rule 9 2 0 2", "asks 9 0 = 0", "rule 9 3 0 7", "asks 9 0 = 0", "asks 9 1 = 7",
            "rule 9 4 8 0", "asks 9 0 = 8", "asks 9 1 = 0", "rule 9 5 0 8", "asks 9 0 = 0", "asks 9 1 = 8",
            "rule 9 6 8 8", "asks 9 0 = 8", "asks 9 1 = 8"));
        test("7: BEYOND, MISSING, KIND, NO", Lines.of("rule 9 4 8 0", "name 8 0").refuses("asks # 0", "BEYOND", -1, 64,
            LOW, HIGH).refuses("asks 64 #", "BEYOND", -1, 1, 2).refuses("asks 7 #", "MISSING", -1, 0, 1, 2, LOW, HIGH)
            .refuses("asks 8 #", "KIND", -1, 0, 1, 2, LOW, HIGH).refuses("asks 9 #", "NO", -1, 2, LOW, HIGH)
            .then("empty 8", "asks 8 2 = MISSING"));
    }

    private static void named() {
        test("8: BEYOND, MISSING, KIND: these as answers", Lines.of("named 0 = MISSING", "named 63 = MISSING",
            "name 0 -2", "named 0 = -2", "name 0 -3", "named 0 = -3", "name 0 -5", "named 0 = -5", "rule 0 0 0 0",
            "named 0 = KIND", "empty 0", "named 0 = MISSING").refuses("named #", "BEYOND", -1, 64, LOW, HIGH));
    }

    private static void relate() {
        test("9: a PLACE, or none (NONE): 1", Lines.plain(1).then("write 0 0 1 0", "write 0 7 2 0", "commit = 1",
            "relate 0 0 -1 = 1", "who 0 0 1 = 0", "relate 0 0 -1 = 1", "relate 0 0 63 = 1", "who 0 0 1 = 0",
            "relate 0 0 7 = 1", "who 0 0 1 = {1}", "relate 5 7 -1 = 1", "who 0 7 1 = {2}"));
        test("9: BEYOND (KIND, RELATION, PLACE)", Lines.plain(1).then("write 0 0 1 0", "commit = 1")
            .refuses("relate # 0 8", "BEYOND", -1, 6, LOW, HIGH).refuses("relate 0 # 8", "BEYOND", -1, 8, LOW, HIGH)
            .refuses("relate 0 0 #", "BEYOND", -2, 64, LOW, HIGH).refuses("relate 6 8 #", "BEYOND", -1, 0)
            .then("who 0 0 1 = {1}"));
        test("9: RING, and what it was stays", Lines.of("thing 0", "rule 0 0 0 0", "rule 1 2 1 0", "rule 2 6 0 1",
            "rule 3 2 0 0", "rule 4 6 0 3", "write 0 1 5 0", "write 0 0 5 0", "write 0 0 6 0", "commit = 1",
            "relate 0 0 4 = RING", "who 0 0 1 = 0", "relate 0 0 2 = 1", "relate 0 1 3 = RING", "who 0 0 1 = {5 6}",
            "relate 0 1 0 = 1", "who 0 0 1 = {6}", "relate 0 1 3 = RING", "relate 0 1 2 = RING", "who 0 1 1 = {5}",
            "who 0 0 1 = {6}", "relate 0 0 -1 = 1", "relate 0 1 3 = 1", "relate 0 0 2 = RING", "relate 0 1 -1 = 1",
            "relate 0 0 2 = 1", "relate 1 1 3 = 1", "relate 0 1 63 = 1"));
    }

    // ---- turns

    private static void write() {
        test("10: how many ACTS it has; FULL", Lines.of("thing 0", "write 0 0 0 0 = 1", "strike 0 0 0 = 2",
            "write 0 0 0 0 = 3").times(16, "write 0 1 # 0").then("write 0 7 1007 1000000 = 20", "write 0 0 0 0 = FULL",
            "strike 0 0 0 = FULL", "forget = 20", "write 0 0 0 0 = 1"));
        test("10: BEYOND (THING, RELATION, USER: none such THING, RELATION, PERSON in it)", Lines.of("thing 0",
            "thing 1").refuses("write # 0 0 0", "BEYOND", -1, 2, 39, 40, LOW, HIGH).refuses("write 0 # 0 0", "BEYOND",
            -1, 8, 9, LOW, HIGH).refuses("write 0 0 # 0", "BEYOND", -1, 40, 99, 102, 139, 140, 999, 1008, 1009, 1018,
            1020, 1397, 1400, LOW, HIGH).then("count 2 = 0"));
        test("10: NO: END, behind BEYOND and ahead of FULL", Lines.of("thing 0").refuses("write 0 0 0 #", "NO", -1,
            1000001, -2, LOW, HIGH).refuses("write 1 0 0 #", "BEYOND", -1, 1000001).refuses("write 0 8 0 #", "BEYOND",
            -1, 1000001).refuses("write 0 0 101 #", "BEYOND", -1, 1000001).times(20, "write 0 0 # 1")
            .refuses("write 0 0 0 #", "NO", -1, 1000001).refuses("write 0 0 0 #", "FULL", 0, 1, 1000000)
            .refuses("write 0 0 1010 #", "BEYOND", 0, 1000001));
        test("10: an END that THE TICK is past is taken", Lines.plain(1).then("tick 5", "write 0 0 1 5 = 1",
            "write 0 0 2 1 = 2", "write 0 0 3 6 = 3", "commit = 1", "inForce 1 = 3", "rule 0 1 0 0",
            "who 0 0 1 = {3}"));
    }

    private static void strike() {
        test("11: BEYOND, FULL", Lines.of("thing 0").refuses("strike # 0 0", "BEYOND", -1, 1, LOW, HIGH)
            .refuses("strike 0 # 0", "BEYOND", -1, 8, LOW, HIGH).refuses("strike 0 0 #", "BEYOND", -1, 40, 101, 1008,
            1010, LOW, HIGH).then("count 2 = 0").times(19, "strike 0 0 5").then("strike 0 7 39 = 20",
            "strike 0 0 0 = FULL", "strike 1 0 0 = BEYOND", "strike 0 8 0 = BEYOND", "strike 0 0 40 = BEYOND",
            "count 2 = 20"));
        test("11: to strike one: of this THING, RELATION and USER alone", Lines.plain(2).then("write 0 0 1 0",
            "write 0 1 1 0", "write 1 0 1 0", "write 0 0 2 0", "write 0 0 101 0", "write 0 0 1010 0", "commit = 1",
            "strike 0 0 1", "commit = 2", "inForce 2 = 5", "pair 0 5 = 2", "strike 0 0 101", "commit = 3",
            "pair 4 5 = 3", "strike 0 0 1010", "commit = 4", "pair 5 5 = 4", "inForce 4 = 3", "strike 1 1 1",
            "commit = NO"));
    }

    private static void when() {
        test("12: FULL: there are 10; BEYOND", Lines.of("thing 0").refuses("when # 0 0 true", "BEYOND", -1, 1, LOW,
            HIGH).refuses("when 0 # 0 false", "BEYOND", -1, 8, LOW, HIGH).refuses("when 0 0 # true", "BEYOND", -1, 40,
            101, 1008, 1010, LOW, HIGH).then("count 3 = 0", "when 0 0 1 false = 1", "when 0 0 1 false = 2").times(7,
            "when 0 7 # false").then("when 0 7 39 false = 10", "when 0 0 0 false = FULL", "when 0 0 0 true = FULL",
            "when 1 0 0 true = BEYOND", "when 0 8 0 true = BEYOND", "when 0 0 40 true = BEYOND", "count 3 = 10",
            "commit = 1"));
        test("12: of one PAIR, that is there, and that is not: one of both fails", Lines.of("thing 0",
            "when 0 0 1 true", "when 0 0 1 false", "commit = NO", "failed = 0", "forget", "write 0 0 1 0", "commit = 1",
            "when 0 0 1 true", "when 0 0 1 false", "commit = NO", "failed = 1"));
    }

    private static void forget() {
        test("13: the TURN that is made is empty: how many ACTS it had", Lines.of("thing 0", "forget = 0",
            "when 0 0 0 true", "forget = 0", "count 3 = 0").times(20, "strike 0 0 0").times(10, "when 0 0 0 true")
            .then("forget = 20", "forget = 0", "count 2 = 0", "count 3 = 0", "commit = 1", "count 4 = 0",
            "write 0 0 0 0 = 1", "when 0 0 0 false = 1", "commit = 2"));
    }

    private static void commit() {
        test("14: becomes the next TURN, and is empty then", Lines.of("thing 0", "commit = 1", "write 0 0 0 0",
            "when 0 0 0 false", "commit = 2", "count 2 = 0", "count 3 = 0", "commit = 3", "count 4 = 1",
            "inForce 1 = 0", "inForce 2 = 1", "inForce 3 = 1"));
        test("14: CONDITIONS alone make a TURN, too", Lines.of("thing 0", "when 0 0 0 true", "commit = NO",
            "count 0 = 0", "forget", "when 0 0 0 false", "commit = 1", "change 0 0 = NONE"));
    }

    private static void commitFull() {
        test("14: FULL: no more TURNS", Lines.of("thing 0").times(199, "commit").then("strike 0 0 0", "commit = NO",
            "forget", "commit = 200", "commit = FULL", "strike 0 0 0", "commit = FULL", "when 0 0 0 true",
            "commit = FULL", "count 0 = 200", "count 2 = 1", "count 3 = 1", "failed = 100",
            "would 0 0 false = 0 by FULL"));
        test("14: FULL: there would be more than 400 PAIRS", Lines.of("thing 0", "thing 0").pairs(381).times(19,
            "write 1 6 # 0").then("write 1 6 19 0 = 20", "commit = FULL", "would 0 0 true = 0 by FULL", "failed = NONE",
            "forget = 20").times(19, "write 1 6 # 0").then("strike 0 0 0 = 20", "commit = 21", "count 4 = 400",
            "write 0 0 0 0", "strike 0 0 0", "commit = FULL", "count 4 = 400", "forget", "write 1 6 0 0",
            "commit = FULL", "forget", "strike 1 6 0", "strike 1 6 0", "commit = NO", "failed = 101",
            "pair 399 5 = NONE", "pair 381 5 = NONE", "commit = NO", "forget", "commit = 22"));
    }

    private static void commitRefused() {
        test("14: refused it stays: NO", Lines.plain(1).then("write 0 0 1 4", "commit = 1", "strike 0 0 1",
            "write 0 0 2 0", "write 0 0 1 6", "when 0 0 1 true", "strike 0 0 9", "commit = NO", "failed = 103",
            "count 0 = 1", "count 2 = 4", "count 3 = 1", "count 4 = 1", "pair 0 5 = NONE", "inForce 1 = 1",
            "change 0 1 = NONE", "change 1 0 = NONE", "write 0 0 9 0 = 5", "commit = NO", "failed = 103", "count 2 = 5",
            "forget = 5", "commit = 2", "inForce 2 = 1"));
        Lines ring = Lines.of("thing 0", "rule 0 0 0 0", "rule 1 2 1 0", "rule 2 6 0 1", "relate 0 0 2", "relate 0 1 0",
            "write 0 1 3 0", "commit = 1");
        test("14: refused it stays: RING", ring.then("write 0 0 4 0", "write 0 1 1000 0", "strike 0 1 3",
            "commit = RING", "count 0 = 1", "count 2 = 3", "count 4 = 1", "pair 0 5 = NONE", "change 1 0 = NONE",
            "failed = NONE", "would 0 0 true = 0 by RING", "relate 0 1 -1 = 1", "would 0 0 true = {4}", "commit = 2",
            "pair 0 5 = 2", "relate 0 1 0 = RING"));
    }

    private static void failed() {
        test("15: NONE: there was none such", Lines.of("thing 0", "failed = NONE", "commit = 1", "failed = NONE",
            "strike 0 0 0", "would 0 0 true = 0 by NO", "failed = NONE", "tick -1 = BELOW", "count 9 = NO",
            "failed = NONE"));
        test("15: 0 .. 9 a CONDITION", Lines.of("thing 0", "when 0 0 0 true", "commit = NO", "failed = 0", "forget")
            .times(9, "when 0 0 # false").then("when 0 0 9 true", "strike 0 0 0", "commit = NO", "failed = 9", "forget",
            "failed = 9", "commit = 1", "failed = 9"));
        test("15: 100 .. 119 an ACT (less 100)", Lines.of("thing 0", "strike 0 0 0", "commit = NO", "failed = 100",
            "forget").times(19, "write 0 0 # 0").then("write 0 0 18 5", "commit = NO", "failed = 119",
            "would 0 0 true = 0 by NO", "forget", "failed = 119", "when 0 0 0 false", "strike 0 0 1", "commit = NO",
            "failed = 100", "forget", "when 0 0 0 true", "would 0 0 true = 0 by NO", "failed = 100", "commit = NO",
            "failed = 0"));
        test("15: the latest that was refused by NO, not by FULL, RING", Lines.of("thing 0", "rule 0 0 0 0",
            "rule 1 2 1 0", "rule 2 6 0 1", "relate 0 0 2", "relate 0 1 0", "write 0 0 0 0", "strike 0 0 1",
            "commit = NO", "failed = 101", "forget", "write 0 1 1000 0", "commit = RING", "failed = 101", "forget")
            .times(200, "commit").then("strike 0 0 0", "commit = FULL", "failed = 101"));
    }

    private static void undo() {
        test("16: BEYOND: t is not 1 .. latest", Lines.of("thing 0", "write 0 0 1 0", "when 0 0 1 false")
            .refuses("undo #", "BEYOND", -1, 0, 1, LOW, HIGH).then("count 2 = 1", "count 3 = 1", "commit = 1",
            "commit = 2").refuses("undo #", "BEYOND", -1, 0, 3, LOW, HIGH).then("undo 1 = 1", "undo 2 = 0"));
        test("16: what it had goes, the CONDITIONS told, too", Lines.of("thing 0", "commit = 1").times(20,
            "strike 0 0 0").times(10, "when 0 0 0 true").then("undo 1 = 0", "count 2 = 0", "count 3 = 0", "commit = 2",
            "write 0 0 1 3", "commit = 3", "write 0 0 2 0", "undo 3 = 1", "count 2 = 1", "commit = 4", "pair 0 5 = 4",
            "count 4 = 1"));
        test("16: write back what it struck, its ACTS from the last one on, with their ENDS", Lines.of("thing 0",
            "write 0 0 1 1000000", "write 0 0 2 1", "write 0 0 3 0", "commit = 1", "strike 0 0 2", "strike 0 0 1",
            "write 0 0 4 7", "strike 0 0 3", "strike 0 0 4", "commit = 2", "undo 2 = 5", "commit = 3", "change 2 0 = 8",
            "pair 4 2 = 4", "pair 4 3 = 7", "change 2 1 = 10", "pair 5 2 = 3", "pair 5 3 = 0", "change 2 2 = 9",
            "change 2 3 = 12", "pair 6 2 = 1", "pair 6 3 = 1000000", "change 2 4 = 14", "pair 7 2 = 2", "pair 7 3 = 1",
            "change 2 5 = NONE", "inForce 3 = 3"));
    }

    private static void undoOfMany() {
        test("16: an undo that fails, of a TURN that is taken back already", Lines.of("thing 0", "write 0 0 1 0",
            "commit = 1", "undo 1 = 1", "commit = 2", "undo 1 = 1", "commit = NO", "failed = 100", "undo 2 = 1",
            "commit = 3", "undo 2 = 1", "commit = NO", "failed = 100", "undo 3 = 1", "undo 1 = 1", "commit = 4",
            "inForce 4 = 0", "count 4 = 2"));
        test("16: of 20 ACTS, and then FULL", Lines.of("thing 0").times(20, "write 0 0 # 9").then("commit = 1",
            "undo 1 = 20", "write 0 0 0 0 = FULL", "strike 0 0 0 = FULL", "when 0 0 0 true = 1", "commit = 2",
            "inForce 2 = 0", "change 1 0 = 39", "change 1 19 = 1", "change 1 20 = NONE", "undo 2 = 20", "commit = 3",
            "pair 20 2 = 0", "pair 39 2 = 19", "pair 39 3 = 9"));
    }

    private static void tick() {
        test("17: BELOW; NO: it would be above 1000000", Lines.of().refuses("tick #", "BELOW", -1, -1000000, LOW)
            .refuses("tick #", "NO", 1000001, HIGH).then("count 1 = 0", "tick 0 = 0", "tick 1 = 1").refuses("tick #",
            "BELOW", -1, LOW).refuses("tick #", "NO", 1000000, 1000001, HIGH, HIGH - 1).then("tick 999999 = 1000000",
            "tick 0 = 1000000", "tick 1 = NO", "tick -1 = BELOW", "tick 2147483647 = NO", "count 1 = 1000000"));
    }

    private static void count() {
        test("18: NO, and the last what that is taken", Lines.of("thing 3", "count 5 = 1", "write 0 0 1 0",
            "when 0 0 1 false", "commit = 1", "write 0 0 2 0", "strike 0 0 1", "when 0 0 1 true", "tick 4",
            "count 0 = 1", "count 1 = 4", "count 2 = 2", "count 3 = 1", "count 4 = 1", "count 5 = 1").refuses("count #",
            "NO", -1, 6, 7, LOW, HIGH));
        test("18: PAIRS ever written, those that are struck, too", Lines.of("thing 0", "write 0 0 1 0", "strike 0 0 1",
            "commit = 1", "count 4 = 1", "write 0 0 1 0", "count 4 = 1", "commit = 2", "count 4 = 2", "strike 0 0 1",
            "commit = 3", "count 4 = 2", "inForce 3 = 0"));
    }

    private static void inForce() {
        test("19: in TURN t, whatever their ENDS; BEYOND", Lines.of("thing 0", "inForce 0 = 0", "inForce 1 = BEYOND",
            "write 0 0 1 1", "write 0 0 2 1000000", "write 0 0 3 0", "inForce 0 = 0", "commit = 1", "tick 1000000",
            "inForce 0 = 0", "inForce 1 = 3", "strike 0 0 1", "commit = 2", "inForce 1 = 3", "inForce 2 = 2",
            "write 0 0 1 0", "strike 0 0 2", "commit = 3", "inForce 2 = 2", "inForce 3 = 2").refuses("inForce #",
            "BEYOND", -1, 4, 200, LOW, HIGH));
    }

    private static void pair() {
        test("20: BEYOND, NO", Lines.of("thing 0").refuses("pair # 0", "BEYOND", -1, 0, LOW, HIGH).then("write 0 0 0 0",
            "pair 0 0 = BEYOND", "commit = 1", "pair 0 0 = 0", "pair 0 5 = NONE").refuses("pair # 0", "BEYOND", -1, 1,
            400, LOW, HIGH).refuses("pair 0 #", "NO", -1, 6, LOW, HIGH).refuses("pair 1 #", "BEYOND", -1, 6)
            .refuses("pair -1 #", "BEYOND", -1, 6));
        test("20: each what, at its edges", Lines.of().times(40, "thing 5").then("write 39 7 1397 1000000",
            "write 0 0 0 0", "commit = 1", "strike 39 7 1397", "commit = 2", "pair 0 0 = 39", "pair 0 1 = 7",
            "pair 0 2 = 1397", "pair 0 3 = 1000000", "pair 0 4 = 1", "pair 0 5 = 2", "pair 1 0 = 0", "pair 1 1 = 0",
            "pair 1 2 = 0", "pair 1 3 = 0", "pair 1 4 = 1", "pair 1 5 = NONE"));
    }

    private static void change() {
        test("21: TURNS after t (not t itself); NONE: there are not so many", Lines.of("thing 0", "change 0 0 = NONE",
            "write 0 0 1 0", "change 0 0 = NONE", "commit = 1", "commit = 2", "write 0 0 2 0", "strike 0 0 1",
            "commit = 3", "change 0 0 = 0", "change 0 1 = 2", "change 0 2 = 1", "change 0 3 = NONE", "change 1 0 = 2",
            "change 1 1 = 1", "change 1 2 = NONE", "change 2 0 = 2", "change 2 1 = 1", "change 2 2 = NONE",
            "change 3 0 = NONE", "change 0 2147483647 = NONE", "change 3 2147483647 = NONE"));
        Lines most = Lines.of("thing 0", "rule 0 1 0 0", "relate 0 0 0").times(20, "write 0 0 # 3").then("commit = 1");
        for (int t = 1; t < 40; t++) {
            most.then("undo " + t + " = 20", "commit = " + (t + 1));
        }
        test("21: the most that there can be: 400 PAIRS, each written and struck", most.then("count 4 = 400",
            "inForce 40 = 0", "inForce 39 = 20", "change 0 799 = 761", "change 0 780 = 799", "change 0 800 = NONE",
            "change 39 0 = 799", "change 39 19 = 761", "change 39 20 = NONE", "change 38 19 = 798", "pair 399 5 = 40",
            "pair 399 3 = 3", "undo 40 = 20", "commit = FULL", "would 0 0 true = 0 by FULL", "forget = 20",
            "strike 0 0 0", "commit = NO", "forget", "commit = 41", "differ 0 39 = 20", "differ 0 41 = 0"));
        test("21: BEYOND: t is not 0 .. latest; BELOW: i", Lines.of("thing 0", "write 0 0 1 0", "commit = 1",
            "change 0 0 = 0").refuses("change # 0", "BEYOND", -1, 2, LOW, HIGH).refuses("change 0 #", "BELOW", -1, LOW)
            .refuses("change 1 #", "BELOW", -1, LOW).refuses("change 2 #", "BEYOND", -1, LOW).refuses("change -1 #",
            "BEYOND", -1, LOW));
    }

    // ---- questions

    private static void may() {
        test("22: 1, or 0", Lines.plain(1).then("write 0 0 0 0", "write 0 7 39 0", "commit = 1", "may 0 0 0 1 = 1",
            "may 0 7 39 1 = 1", "may 0 0 39 1 = 0", "may 0 7 0 1 = 0", "may 0 0 0 0 = 0", "may 0 1 0 1 = 0"));
        test("22: BEYOND", Lines.plain(1).then("write 0 0 0 0", "commit = 1").refuses("may # 0 0 1", "BEYOND", -1, 1,
            40, LOW, HIGH).refuses("may 0 # 0 1", "BEYOND", -1, 8, LOW, HIGH).refuses("may 0 0 # 1", "BEYOND", -1, 40,
            100, LOW, HIGH).refuses("may 0 0 0 #", "BEYOND", -1, 2, LOW, HIGH));
    }

    private static void who() {
        test("23: all who are, as bits (PERSON p: bit p)", Lines.plain(1).then("who 0 0 0 = 0", "write 0 0 0 0",
            "write 0 0 31 0", "write 0 0 32 0", "write 0 0 39 0", "who 0 0 0 = 0", "commit = 1",
            "who 0 0 1 = {0 31 32 39}", "who 0 0 0 = 0", "who 0 7 1 = 0"));
        test("23: 0L where it is refused (BEYOND)", Lines.plain(1).then("write 0 0 0 0", "write 0 7 1 0", "commit = 1")
            .refuses("who # 0 1", "BEYOND", -1, 1, 40, LOW, HIGH).refuses("who 0 # 1", "BEYOND", -1, 8, LOW, HIGH)
            .refuses("who 0 0 #", "BEYOND", -1, 2, LOW, HIGH));
    }

    private static void reach() {
        test("24: the first THING of a KIND, from number from on; NONE", Lines.plain(2).then("thing 1", "thing 0",
            "relate 1 0 0", "reach 0 0 39 0 0 = NONE", "write 0 0 39 0", "write 2 0 39 0", "write 3 0 39 0",
            "commit = 1", "reach 0 0 39 0 1 = 0", "reach 0 0 39 1 1 = 3", "reach 0 0 39 3 1 = 3",
            "reach 0 0 39 4 1 = NONE", "reach 0 0 39 40 1 = NONE", "reach 0 0 39 2147483647 1 = NONE",
            "reach 1 0 39 0 1 = 2", "reach 1 0 39 3 1 = NONE", "reach 5 0 39 0 1 = NONE", "reach 0 7 39 0 1 = NONE",
            "reach 0 0 0 0 1 = NONE", "reach 0 0 39 0 0 = NONE"));
        test("24: BEYOND (KIND, RELATION, PERSON, TURN), BELOW: from", Lines.plain(1).then("commit = 1")
            .refuses("reach # 0 0 0 0", "BEYOND", -1, 6, LOW, HIGH).refuses("reach 0 # 0 0 0", "BEYOND", -1, 8, LOW,
            HIGH).refuses("reach 0 0 # 0 0", "BEYOND", -1, 40, LOW, HIGH).refuses("reach 0 0 0 0 #", "BEYOND", -1, 2,
            LOW, HIGH).refuses("reach 0 0 0 # 1", "BELOW", -1, LOW).refuses("reach 6 0 0 # 1", "BEYOND", -1, LOW)
            .refuses("reach 0 8 0 # 1", "BEYOND", -1).refuses("reach 0 0 40 # 1", "BEYOND", -1)
            .refuses("reach 0 0 0 # 2", "BEYOND", -1));
        test("24: of all 40 THINGS", Lines.plain(40).then("write 39 0 0 0", "write 39 7 39 0", "commit = 1",
            "reach 0 7 39 0 1 = 39", "reach 0 7 39 39 1 = 39", "reach 0 7 39 40 1 = NONE", "reach 0 7 38 0 1 = NONE",
            "reach 0 0 39 39 1 = NONE", "reach 5 7 39 0 1 = NONE", "list 0 7 38 1 = 0", "list 0 7 39 1 = 1"));
        test("24: where there is no THING", Lines.of("reach 0 0 0 0 0 = NONE", "reach 5 7 39 2147483647 0 = NONE",
            "reach 0 0 0 -1 0 = BELOW"));
    }

    private static void why() {
        test("25: BEYOND; MISSING: the PERSON is not in", Lines.plain(1).then("write 0 0 39 0", "commit = 1",
            "why 0 0 39 1 = 1").refuses("why # 0 39 1", "BEYOND", -1, 1, LOW, HIGH).refuses("why 0 # 39 1", "BEYOND",
            -1, 8, LOW, HIGH).refuses("why 0 0 # 1", "BEYOND", -1, 40, LOW, HIGH).refuses("why 0 0 39 #", "BEYOND", -1,
            2, LOW, HIGH).refuses("why 0 0 # 1", "MISSING", 0, 38).then("why 0 1 39 1 = MISSING",
            "why 0 0 39 0 = MISSING", "strike 0 0 39", "commit = 2", "why 0 0 39 2 = MISSING", "why 0 0 39 1 = 1"));
    }

    /** Thing by thing, relation by relation, each a club of the next one; the last tells person 39. */
    private static Lines longChain() {
        Lines chain = Lines.plain(40);
        for (int spot = 0; spot < 320; spot++) {
            int next = spot + 1;
            int user = spot == 319 ? 39 : 1000 + next / 8 * 10 + next % 8;
            chain.then("write " + spot / 8 + " " + spot % 8 + " " + user + " 0");
            chain.then(spot % 20 == 19 ? new String[] {"commit"} : new String[0]);
        }
        return chain;
    }

    private static void whyByLongWays() {
        test("25: the longest way over CLUBS, all 320 behind one another", longChain().then("why 0 0 39 16 = 320",
            "why 39 7 39 16 = 1", "why 0 1 39 16 = 319", "why 0 0 39 15 = MISSING", "why 0 0 38 16 = MISSING"));
        Lines also = Lines.of();
        for (int r = 0; r < 8; r++) {
            also.then("rule " + r + " 2 " + (r + 1) % 8 + " 0");
        }
        also.then("rule 7 0 0 0", "rule 8 3 0 0", "rule 9 4 7 8").times(40, "thing 0");
        for (int r = 0; r < 7; r++) {
            also.then("relate 0 " + r + " " + r);
        }
        also.then("relate 0 7 9");
        for (int t = 0; t < 39; t++) {
            also.then("write " + t + " 0 " + (101 + t) + " 0");
            also.then(t == 19 ? new String[] {"commit"} : new String[0]);
        }
        test("25: the longest way over ALSOS and THROUGHS", also.then("write 39 7 0 0", "commit = 2",
            "why 0 0 0 2 = 320", "reason 0 = 0", "reason 38 = 38", "reason 39 = 39", "reason 40 = BEYOND",
            "why 39 0 0 2 = 8", "reason 0 = 39", "reason 1 = BEYOND", "without 38 = 1", "why 0 7 0 2 = 313",
            "without 38 = 0", "list 0 0 0 2 = 40"));
    }

    private static void reason() {
        test("26: BEYOND: there is none", Lines.plain(2).refuses("reason #", "BEYOND", -1, 0, LOW, HIGH)
            .then("write 0 0 1 0", "write 1 0 1000 0", "commit = 1", "reason 0 = BEYOND", "why 1 0 1 1 = 2",
            "reason 0 = 1", "reason 1 = 0").refuses("reason #", "BEYOND", -1, 2, LOW, HIGH).then("why 0 0 1 1 = 1",
            "reason 0 = 0").refuses("reason #", "BEYOND", -1, 1, 59, 60));
        test("26: of why() that was not refused; told last", Lines.plain(2).then("write 0 0 1 0", "write 1 0 1000 0",
            "commit = 1", "why 1 0 1 1 = 2", "why 1 0 2 1 = MISSING", "why 2 0 1 1 = BEYOND", "why 1 0 1 2 = BEYOND",
            "reason 0 = 1", "reason 1 = 0", "strike 1 0 1000", "commit = 2", "rule 0 2 5 0", "reason 0 = 1",
            "reason 1 = 0", "without 0 = 0", "may 1 0 1 1 = 0", "who 0 0 1 = 0", "reason 1 = 0"));
    }

    private static void reasonOfSixty() {
        test("26: the first 60 are told", longChain().then("why 0 0 39 16 = 320", "reason 0 = 0", "reason 58 = 58",
            "reason 59 = 59", "reason 60 = BEYOND", "reason 319 = BEYOND", "why 32 4 39 16 = 60", "reason 0 = 260",
            "reason 59 = 319", "reason 60 = BEYOND", "why 32 5 39 16 = 59", "reason 58 = 319", "reason 59 = BEYOND",
            "why 32 3 39 16 = 61", "reason 59 = 318", "reason 60 = BEYOND"));
        Lines alls = Lines.plain(1).then("rule 8 2 1 0", "rule 9 2 2 0", "rule 10 5 8 9");
        for (int place = 11; place < 64; place++) {
            alls.then("rule " + place + " 5 " + (place == 11 ? "10 8" : place - 1 + " " + (place % 2 == 0 ? 8 : 10)));
        }
        alls.then("write 0 2 5 0", "write 0 1 5 0", "commit = 1", "relate 0 0 63", "why 0 0 5 1 = 2");
        // place 10 tells pairs 1, 0; 11 adds 1; then each even place adds 1, each odd one 1, 0
        int[] told = new int[60];
        int many = 0;
        for (int p : new int[] {1, 0, 1}) {
            told[many++] = p;
        }
        for (int place = 12; place < 64 && many < 60; place++) {
            told[many++] = 1;
            if (place % 2 == 1 && many < 60) {
                told[many++] = 0;
            }
        }
        for (int i = 0; i < 60; i++) {
            alls.then("reason " + i + " = " + told[i]);
        }
        test("26: the first 60 are told, of many ALLS", alls.then("reason 60 = BEYOND", "why 0 1 5 1 = 1",
            "reason 0 = 1", "reason 1 = BEYOND", "why 0 0 5 1 = 2", "reason 59 = " + told[59], "without 0 = 0",
            "without 1 = 0"));
    }

    private static void without() {
        test("27: BEYOND: no such PAIR; MISSING: there is no REASON", Lines.plain(1).refuses("without #", "BEYOND", -1,
            0, LOW, HIGH).then("write 0 0 1 0", "write 0 1 1 0", "without 0 = BEYOND", "commit = 1",
            "without 0 = MISSING", "without 1 = MISSING", "why 0 0 2 1 = MISSING", "without 0 = MISSING")
            .refuses("without #", "BEYOND", -1, 2, 400, LOW, HIGH).then("why 0 0 1 1 = 1", "without 0 = 0",
            "without 1 = 1").refuses("without #", "BEYOND", -1, 2, LOW, HIGH));
        test("27: in the same TURN and at THE TICK as it is", Lines.plain(1).then("rule 8 1 0 0", "rule 9 4 0 8",
            "relate 0 0 9", "write 0 0 1 5", "write 0 0 1000 0", "write 0 0 1001 0", "write 0 1 1 0", "commit = 1",
            "strike 0 0 1001", "strike 0 1 1", "commit = 2", "why 0 0 1 1 = 1", "reason 0 = 0", "without 0 = 1",
            "without 2 = 1", "tick 4", "without 2 = 1", "tick 1", "without 2 = 0", "without 3 = 0", "without 0 = 1",
            "without 1 = 1", "reason 0 = 0"));
        test("27: PAIRS of other TURNS", Lines.plain(1).then("write 0 0 1 0", "commit = 1", "why 0 0 1 1 = 1",
            "strike 0 0 1", "write 0 1 1 0", "commit = 2", "write 0 0 1 0", "commit = 3", "without 0 = 0",
            "without 1 = 1", "without 2 = 1", "why 0 0 1 3 = 1", "without 0 = 1", "without 2 = 0"));
    }

    private static void would() {
        test("28: who would be, and is not (opens), or is, and would not be", Lines.plain(2).then("would 0 0 true = 0",
            "would 0 0 false = 0", "write 0 0 0 0", "write 0 0 39 0", "would 0 0 true = {0 39}", "would 0 0 false = 0",
            "would 1 0 true = 0", "commit = 1", "would 0 0 true = 0", "would 0 0 false = 0", "strike 0 0 39",
            "write 0 0 1 0", "strike 0 0 0", "write 0 0 0 0", "would 0 0 true = {1}", "would 0 0 false = {39}",
            "count 2 = 4", "count 0 = 1", "count 4 = 2", "commit = 2", "who 0 0 2 = {0 1}"));
        test("28: at THE TICK", Lines.of("thing 0", "rule 0 1 0 0", "relate 0 0 0", "write 0 0 1 5", "write 0 0 2 6",
            "would 0 0 true = {1 2}", "tick 5", "would 0 0 true = {2}", "commit = 1", "strike 0 0 1", "strike 0 0 2",
            "would 0 0 false = {2}", "tick 1", "would 0 0 false = 0", "commit = 2"));
        test("28: the last TURN, the last ACT, the last PAIR", Lines.plain(1).times(199, "commit").times(19,
            "write 0 0 # 0").then("write 0 0 39 0 = 20", "would 0 0 true = 549756338175", "commit = 200",
            "would 0 0 true = 0 by FULL", "who 0 0 200 = 549756338175"));
    }

    private static void wouldRefused() {
        test("28: 0L where it is refused: BEYOND, and as commit()", Lines.plain(1).then("write 0 0 1 0")
            .refuses("would # 0 true", "BEYOND", -1, 1, LOW, HIGH).refuses("would 0 # false", "BEYOND", -1, 8, LOW,
            HIGH).then("would 0 0 true = {1}", "when 0 0 1 true", "would 0 0 true = 0 by NO",
            "would 0 0 false = 0 by NO", "would 1 0 true = 0 by BEYOND", "failed = NONE", "forget = 1", "write 0 0 1 0",
            "write 0 0 1 0", "would 0 0 true = 0 by NO", "failed = NONE", "count 2 = 2", "count 4 = 0", "inForce 0 = 0",
            "change 0 0 = NONE"));
        test("28: a TURN that is refused, and then one that is not", Lines.plain(1).then("write 0 0 1 0",
            "strike 0 0 2", "would 0 0 true = 0 by NO", "write 0 0 2 0", "would 0 0 true = 0 by NO", "forget",
            "write 0 0 3 0", "would 0 0 true = {3}", "commit = 1", "count 4 = 1", "pair 0 2 = 3", "who 0 0 1 = {3}"));
    }

    private static void differ() {
        test("29: of all THINGS, RELATIONS and PERSONS; BEYOND", Lines.plain(2).then("differ 0 0 = 0", "write 0 0 0 0",
            "write 1 7 39 0", "write 0 1 1000 0", "commit = 1", "differ 0 1 = 3", "differ 1 0 = 3", "differ 1 1 = 0",
            "strike 0 0 0", "write 0 0 1 0", "commit = 2", "differ 1 2 = 4", "differ 2 1 = 4", "differ 0 2 = 3")
            .refuses("differ # 0", "BEYOND", -1, 3, LOW, HIGH).refuses("differ 0 #", "BEYOND", -1, 3, LOW, HIGH)
            .refuses("differ # 3", "BEYOND", -1, 3));
        Lines all = Lines.of("rule 0 0 0 0", "rule 1 2 0 0").times(40, "thing 0").then("relate 0 0 0");
        for (int r = 1; r < 8; r++) {
            all.then("relate 0 " + r + " 1");
        }
        all.times(20, "write 39 0 # 0").then("commit = 1");
        for (int p = 20; p < 40; p++) {
            all.then("write 39 0 " + p + " 0");
        }
        all.then("commit = 2");
        for (int t = 0; t < 39; t++) {
            all.then("write " + t + " 0 1390 0");
            all.then(t % 20 == 19 ? new String[] {"commit"} : new String[0]);
        }
        test("29: all of them", all.then("commit = 4", "differ 0 4 = 12800", "differ 4 0 = 12800", "differ 2 4 = 12480",
            "differ 1 2 = 160", "differ 0 1 = 160"));
    }

    // ---- rows

    /** The row has things 0, 1, 2 and so on, in the order of their numbers. */
    private static Lines rowOf(int many) {
        Lines lines = Lines.plain(40);
        for (int t = 0; t < many; t++) {
            lines.then("write " + t + " 7 39 0");
            lines.then(t % 20 == 19 || t == many - 1 ? new String[] {"commit"} : new String[0]);
        }
        return lines.then("count 0 = " + (many + 19) / 20, "list 0 7 39 " + (many + 19) / 20 + " = " + many);
    }

    private static void list() {
        test("30: THE ROW (of at most 40 numbers)", rowOf(40).times(40, "row # = #").then("row 40 = BEYOND",
            "copy 0 0 40 = 40", "copy 0 0 41 = COPY", "copy 40 40 0 = 0", "copy 41 40 0 = COPY", "copy 1 0 39 = 39",
            "row 0 = 1", "row 38 = 39", "row 39 = 39", "list 0 7 38 2 = 0", "row 0 = BEYOND", "tear = 1"));
        test("30: BEYOND, and THE ROW stays", rowOf(2).refuses("list # 7 39 1", "BEYOND", -1, 6, LOW, HIGH)
            .refuses("list 0 # 39 1", "BEYOND", -1, 8, LOW, HIGH).refuses("list 0 7 # 1", "BEYOND", -1, 40, LOW, HIGH)
            .refuses("list 0 7 39 #", "BEYOND", -1, 2, LOW, HIGH).then("row 1 = 1", "tear = 1",
            "list 0 7 39 2 = BEYOND", "row 0 = MISSING", "tear = 0"));
        test("30: none at all", Lines.of("list 0 0 0 0 = 0", "row 0 = BEYOND", "copy 0 0 0 = 0", "copy 0 0 1 = COPY",
            "tear = 1", "thing 0", "list 0 0 0 0 = 0", "thing 1", "list 1 0 0 0 = 0", "tear = 1"));
    }

    private static void tear() {
        test("31: 1 if it was there, else 0 (at first it is missing)", Lines.of("tear = 0", "tear = 0",
            "list 0 0 0 0 = 0", "tear = 1", "tear = 0", "row 0 = MISSING", "copy 0 0 0 = MISSING",
            "list 6 0 0 0 = BEYOND", "tear = 0"));
    }

    private static void row() {
        test("32: MISSING, BEYOND", Lines.plain(1).refuses("row #", "MISSING", -1, 0, 1, LOW, HIGH)
            .then("write 0 0 5 0", "commit = 1", "list 0 0 5 1 = 1", "row 0 = 0").refuses("row #", "BEYOND", -1, 1, 39,
            40, LOW, HIGH).then("list 0 0 6 1 = 0").refuses("row #", "BEYOND", -1, 0, LOW, HIGH).then("tear = 1")
            .refuses("row #", "MISSING", -1, 0, HIGH));
        test("32: what a longer ROW had is gone", rowOf(3).then("row 2 = 2", "write 5 0 39 0", "commit = 2",
            "list 0 0 39 2 = 1", "row 0 = 5", "row 1 = BEYOND", "copy 0 0 2 = COPY", "copy 0 1 1 = COPY",
            "copy 1 0 1 = COPY"));
    }

    private static void copy() {
        test("33: MISSING, BELOW: n", Lines.of("copy 0 0 0 = MISSING", "copy 0 0 -1 = MISSING", "copy -1 0 1 = MISSING",
            "list 0 0 0 0").refuses("copy 0 0 #", "BELOW", -1, LOW).refuses("copy -1 9 #", "BELOW", -1, LOW));
        test("33: COPY: i or j below 0, i + n or j + n above how many there are", rowOf(5).then("copy 0 0 0 = 0",
            "copy 5 0 0 = 0", "copy 0 5 0 = 0", "copy 5 5 0 = 0", "copy 4 0 1 = 1", "row 0 = 4", "copy 1 4 1 = 1",
            "row 4 = 1", "copy 0 0 5 = 5").refuses("copy # 0 0", "COPY", -1, 6, LOW, HIGH).refuses("copy 0 # 0", "COPY",
            -1, 6, LOW, HIGH).refuses("copy # 0 1", "COPY", -1, 5, LOW, HIGH).refuses("copy 0 # 1", "COPY", -1, 5, LOW,
            HIGH).refuses("copy 1 0 #", "COPY", 5, 6, HIGH, HIGH - 1).refuses("copy 0 1 #", "COPY", 5, 6, HIGH,
            HIGH - 1).refuses("copy 0 0 #", "COPY", 6, HIGH).refuses("copy 2147483647 # 2147483647", "COPY", 0, HIGH)
            .then("copy 0 2147483647 2147483647 = COPY", "copy 0 2147483647 1 = COPY", "row 0 = 4", "row 1 = 1",
            "row 4 = 1"));
    }

    private static void copyOverlapping() {
        test("33: n numbers come to their place (as they were)", rowOf(5).then("copy 0 1 4 = 4", "row 0 = 0",
            "row 1 = 0", "row 2 = 1", "row 3 = 2", "row 4 = 3", "copy 2 0 3 = 3", "row 0 = 1", "row 1 = 2", "row 2 = 3",
            "row 3 = 2", "row 4 = 3", "row 5 = BEYOND", "copy 3 2 2 = 2", "row 2 = 2", "row 3 = 3", "row 4 = 3",
            "copy 1 1 3 = 3", "row 1 = 2"));
    }

    private static void status() {
        test("34: NO: another number", Lines.of("status -2 = 0", "status -9 = 0").refuses("status #", "NO", -1, 0, 1, 2,
            9, -10, LOW, HIGH).then("status -8 = 8", "status -9 = 0", "status -1 = NO", "status -8 = 9"));
        test("34: how many calls were refused by an answer -2 .. -9 (who(), would(): by what would be told)",
            Lines.of("name 0 -3", "named 0 = -3", "status -3 = 0", "who 0 0 0 = 0 by BEYOND", "status -3 = 1",
            "thing 0", "who 0 0 0 = 0", "would 0 0 true = 0", "status -3 = 1", "would 1 0 true = 0 by BEYOND",
            "status -3 = 2", "strike 0 0 0", "would 0 0 true = 0 by NO", "status -8 = 1", "commit = NO",
            "status -8 = 2", "holds 1 = NONE", "failed = 100", "named 1 = MISSING", "status -2 = 1", "tick -1 = BELOW",
            "status -4 = 1", "asks 0 0 = KIND", "status -5 = 1", "list 0 0 0 0", "copy 1 0 0 = COPY", "status -6 = 1",
            "status -7 = 0", "status -9 = 0"));
    }
}
