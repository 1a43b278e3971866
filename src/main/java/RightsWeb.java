import java.util.Arrays;

/** A web of rights: who is in which relation of what, by pairs and rules, true to one turn and tick. */
public final class RightsWeb {
    public static final int NONE = -1;
    public static final int MISSING = -2;
    public static final int BEYOND = -3;
    public static final int BELOW = -4;
    public static final int KIND = -5;
    public static final int COPY = -6;
    public static final int RING = -7;
    public static final int NO = -8;
    public static final int FULL = -9;

    private static final int KINDS = 6;
    private static final int THINGS = 40;
    private static final int PERSONS = 40;
    private static final int RELATIONS = 8;
    private static final int PLACES = 64;
    private static final int TURNS = 200;
    private static final int PAIRS = 400;
    private static final int ACTS = 20;
    private static final int CONDITIONS = 10;
    private static final int TOLD = 60;
    private static final int LAST_TICK = 1000000;

    /** A spot is a relation of a thing; a knot is a relation of a kind. */
    private static final int SPOTS = THINGS * RELATIONS;
    private static final int KNOTS = KINDS * RELATIONS;

    private static final int FIRST_THING_USER = 100;
    private static final int FIRST_CLUB_USER = 1000;
    private static final int CLUB_STEP = 10;

    private static final int HERE = 0;
    private static final int UNTIL = 1;
    private static final int ALSO = 2;
    private static final int THROUGH = 3;
    private static final int ANY = 4;
    private static final int ALL = 5;
    private static final int LESS = 6;
    private static final int NAMED = 7;

    /** The end of an act that strikes. */
    private static final int STRUCK = -1;
    /** What failed() adds to an act's number. */
    private static final int FIRST_ACT = 100;
    /** What attempt() answers when nothing refuses. */
    private static final int DONE = 0;
    /** The cost for a person who is not in: above every cost that can be. */
    private static final int FAR = 1000000;

    private final Things things;
    private final Rules rules;
    private final Ledger ledger;
    private final Draft draft;
    private final Leads leads;
    private final Scene scene;
    private final Costs costs;
    private final Reason latestReason;
    private final Row theRow;
    private final long[] otherTurn;
    private final int[] refusals;
    private int theTick;
    private int failing;
    private int failedLast;

    public RightsWeb() {
        things = new Things();
        rules = new Rules();
        ledger = new Ledger();
        draft = new Draft();
        leads = new Leads(things, rules, ledger);
        scene = new Scene(things, rules, ledger, leads);
        costs = new Costs(rules, ledger, scene);
        latestReason = new Reason(rules, ledger, scene, costs);
        theRow = new Row();
        otherTurn = new long[SPOTS];
        refusals = new int[MISSING - FULL + 1];
        theTick = 0;
        failing = NONE;
        failedLast = NONE;
    }

    // ---- things, rules

    public int thing(int kind) {
        if (!within(kind, KINDS)) {
            return refuse(BEYOND);
        }
        if (things.many >= THINGS) {
            return refuse(FULL);
        }
        return things.add(kind);
    }

    public int rule(int place, int sort, int x, int y) {
        if (!within(place, PLACES) || !areRelations(sort, x, y)) {
            return refuse(BEYOND);
        }
        if (sort < HERE || sort > LESS || !areLower(place, sort, x, y)) {
            return refuse(NO);
        }
        int oldSort = rules.sort[place];
        int oldX = rules.x[place];
        int oldY = rules.y[place];
        rules.hold(place, sort, sort >= ALSO ? x : NONE, sort >= THROUGH ? y : NONE);
        if (!leads.settle()) {
            rules.hold(place, oldSort, oldX, oldY);
            return refuse(RING);
        }
        return 1;
    }

    public int name(int place, int v) {
        if (!within(place, PLACES)) {
            return refuse(BEYOND);
        }
        rules.hold(place, NAMED, v, NONE);
        return 1;
    }

    public int empty(int place) {
        if (!within(place, PLACES)) {
            return refuse(BEYOND);
        }
        int held = rules.sort[place] == NONE ? 0 : 1;
        rules.hold(place, NONE, NONE, NONE);
        return held;
    }

    public int holds(int place) {
        if (!within(place, PLACES)) {
            return refuse(BEYOND);
        }
        return rules.sort[place];
    }

    public int asks(int place, int what) {
        if (!within(place, PLACES)) {
            return refuse(BEYOND);
        }
        if (rules.sort[place] == NONE) {
            return refuse(MISSING);
        }
        if (rules.sort[place] == NAMED) {
            return refuse(KIND);
        }
        if (what != 0 && what != 1) {
            return refuse(NO);
        }
        return what == 0 ? rules.x[place] : rules.y[place];
    }

    public int named(int place) {
        if (!within(place, PLACES)) {
            return refuse(BEYOND);
        }
        if (rules.sort[place] == NONE) {
            return refuse(MISSING);
        }
        if (rules.sort[place] != NAMED) {
            return refuse(KIND);
        }
        return rules.x[place];
    }

    public int relate(int kind, int relation, int place) {
        if (!within(kind, KINDS) || !within(relation, RELATIONS)) {
            return refuse(BEYOND);
        }
        if (place != NONE && !within(place, PLACES)) {
            return refuse(BEYOND);
        }
        int knot = knotOf(kind, relation);
        int old = rules.placeOf[knot];
        rules.placeOf[knot] = place;
        if (!leads.settle()) {
            rules.placeOf[knot] = old;
            return refuse(RING);
        }
        return 1;
    }

    // ---- turns

    public int write(int thing, int relation, int user, int end) {
        if (!isSpot(thing, relation) || !things.hasUser(user)) {
            return refuse(BEYOND);
        }
        if (end < 0 || end > LAST_TICK) {
            return refuse(NO);
        }
        if (draft.acts >= ACTS) {
            return refuse(FULL);
        }
        draft.addAct(thing, relation, user, end);
        return draft.acts;
    }

    public int strike(int thing, int relation, int user) {
        if (!isSpot(thing, relation) || !things.hasUser(user)) {
            return refuse(BEYOND);
        }
        if (draft.acts >= ACTS) {
            return refuse(FULL);
        }
        draft.addAct(thing, relation, user, STRUCK);
        return draft.acts;
    }

    public int when(int thing, int relation, int user, boolean there) {
        if (!isSpot(thing, relation) || !things.hasUser(user)) {
            return refuse(BEYOND);
        }
        if (draft.conditions >= CONDITIONS) {
            return refuse(FULL);
        }
        draft.addCondition(thing, relation, user, there);
        return draft.conditions;
    }

    public int forget() {
        int had = draft.acts;
        draft.clear();
        return had;
    }

    public int commit() {
        int by = attempt();
        if (by == NO) {
            failedLast = failing;
        }
        if (by != DONE) {
            return refuse(by);
        }
        draft.clear();
        return ledger.latest;
    }

    public int failed() {
        return failedLast;
    }

    public int undo(int t) {
        if (t < 1 || t > ledger.latest) {
            return refuse(BEYOND);
        }
        draft.reverse(ledger, t);
        return draft.acts;
    }

    public int tick(int n) {
        if (n < 0) {
            return refuse(BELOW);
        }
        if (n > LAST_TICK - theTick) {
            return refuse(NO);
        }
        theTick += n;
        return theTick;
    }

    public int count(int what) {
        switch (what) {
            case 0:
                return ledger.latest;
            case 1:
                return theTick;
            case 2:
                return draft.acts;
            case 3:
                return draft.conditions;
            case 4:
                return ledger.many;
            case 5:
                return things.many;
            default:
                return refuse(NO);
        }
    }

    public int inForce(int t) {
        if (!isTurn(t)) {
            return refuse(BEYOND);
        }
        int many = 0;
        for (int p = 0; p < ledger.many; p++) {
            if (ledger.inForceAt(p, t)) {
                many++;
            }
        }
        return many;
    }

    public int pair(int p, int what) {
        if (!within(p, ledger.many)) {
            return refuse(BEYOND);
        }
        switch (what) {
            case 0:
                return ledger.thing[p];
            case 1:
                return ledger.relation[p];
            case 2:
                return ledger.user[p];
            case 3:
                return ledger.end[p];
            case 4:
                return ledger.wrote[p];
            case 5:
                return ledger.struck[p];
            default:
                return refuse(NO);
        }
    }

    public int change(int t, int i) {
        if (!isTurn(t)) {
            return refuse(BEYOND);
        }
        if (i < 0) {
            return refuse(BELOW);
        }
        int first = ledger.changesUpTo[t];
        return i < ledger.changes - first ? ledger.change[first + i] : NONE;
    }

    // ---- questions

    public int may(int thing, int relation, int person, int t) {
        if (!isSpot(thing, relation) || !within(person, PERSONS) || !isTurn(t)) {
            return refuse(BEYOND);
        }
        scene.look(t, theTick, NONE);
        return scene.isIn(spotOf(thing, relation), person) ? 1 : 0;
    }

    public long who(int thing, int relation, int t) {
        if (!isSpot(thing, relation) || !isTurn(t)) {
            refuse(BEYOND);
            return 0L;
        }
        scene.look(t, theTick, NONE);
        return scene.in[spotOf(thing, relation)];
    }

    public int reach(int kind, int relation, int person, int from, int t) {
        if (!isSearch(kind, relation, person, t)) {
            return refuse(BEYOND);
        }
        if (from < 0) {
            return refuse(BELOW);
        }
        scene.look(t, theTick, NONE);
        return scene.nextThing(kind, relation, person, from);
    }

    public int why(int thing, int relation, int person, int t) {
        if (!isSpot(thing, relation) || !within(person, PERSONS) || !isTurn(t)) {
            return refuse(BEYOND);
        }
        scene.look(t, theTick, NONE);
        if (!scene.isIn(spotOf(thing, relation), person)) {
            return refuse(MISSING);
        }
        costs.weigh(person);
        latestReason.find(spotOf(thing, relation), person, t);
        return costs.cost[spotOf(thing, relation)];
    }

    public int reason(int i) {
        if (!within(i, latestReason.told)) {
            return refuse(BEYOND);
        }
        return latestReason.pairs[i];
    }

    public int without(int p) {
        if (!within(p, ledger.many)) {
            return refuse(BEYOND);
        }
        if (latestReason.spot == NONE) {
            return refuse(MISSING);
        }
        scene.look(latestReason.turn, theTick, p);
        return scene.isIn(latestReason.spot, latestReason.person) ? 1 : 0;
    }

    public long would(int thing, int relation, boolean opens) {
        if (!isSpot(thing, relation)) {
            refuse(BEYOND);
            return 0L;
        }
        int by = attempt();
        if (by != DONE) {
            refuse(by);
            return 0L;
        }
        int spot = spotOf(thing, relation);
        scene.look(ledger.latest, theTick, NONE);
        long then = scene.in[spot];
        ledger.takeBack();
        scene.look(ledger.latest, theTick, NONE);
        long now = scene.in[spot];
        return opens ? then & ~now : now & ~then;
    }

    public int differ(int t, int u) {
        if (!isTurn(t) || !isTurn(u)) {
            return refuse(BEYOND);
        }
        scene.look(t, theTick, NONE);
        System.arraycopy(scene.in, 0, otherTurn, 0, SPOTS);
        scene.look(u, theTick, NONE);
        int others = 0;
        for (int spot = 0; spot < SPOTS; spot++) {
            others += Long.bitCount(scene.in[spot] ^ otherTurn[spot]);
        }
        return others;
    }

    // ---- rows

    public int list(int kind, int relation, int person, int t) {
        if (!isSearch(kind, relation, person, t)) {
            return refuse(BEYOND);
        }
        scene.look(t, theTick, NONE);
        theRow.begin();
        for (int thing = 0; thing < things.many; thing++) {
            if (things.kind[thing] == kind && scene.isIn(spotOf(thing, relation), person)) {
                theRow.append(thing);
            }
        }
        return theRow.many;
    }

    public int tear() {
        int was = theRow.many == NONE ? 0 : 1;
        theRow.many = NONE;
        return was;
    }

    public int row(int i) {
        if (theRow.many == NONE) {
            return refuse(MISSING);
        }
        if (!within(i, theRow.many)) {
            return refuse(BEYOND);
        }
        return theRow.numbers[i];
    }

    public int copy(int i, int j, int n) {
        if (theRow.many == NONE) {
            return refuse(MISSING);
        }
        if (n < 0) {
            return refuse(BELOW);
        }
        if (i < 0 || j < 0 || n > theRow.many - i || n > theRow.many - j) {
            return refuse(COPY);
        }
        System.arraycopy(theRow.numbers, i, theRow.numbers, j, n);
        return n;
    }

    public int status(int by) {
        if (by > MISSING || by < FULL) {
            return refuse(NO);
        }
        return refusals[MISSING - by];
    }

    // ---- what the calls share

    private int refuse(int by) {
        if (by <= MISSING && by >= FULL) {
            refusals[MISSING - by]++;
        }
        return by;
    }

    /** Puts the turn that is made behind the latest one: DONE, or what refuses it, and nothing is put then. */
    private int attempt() {
        if (!ledger.hasRoom(draft.writes())) {
            return FULL;
        }
        failing = draft.perform(ledger);
        if (failing != NONE) {
            ledger.dropOpenTurn();
            return NO;
        }
        if (!leads.settle()) {
            ledger.dropOpenTurn();
            return RING;
        }
        ledger.closeTurn();
        return DONE;
    }

    private boolean isSpot(int thing, int relation) {
        return within(thing, things.many) && within(relation, RELATIONS);
    }

    private boolean isTurn(int t) {
        return t >= 0 && t <= ledger.latest;
    }

    private boolean isSearch(int kind, int relation, int person, int t) {
        return within(kind, KINDS) && within(relation, RELATIONS) && within(person, PERSONS) && isTurn(t);
    }

    private static boolean within(int number, int many) {
        return number >= 0 && number < many;
    }

    private static boolean areRelations(int sort, int x, int y) {
        if (sort == ALSO) {
            return within(x, RELATIONS);
        }
        return sort != THROUGH || within(x, RELATIONS) && within(y, RELATIONS);
    }

    private static boolean areLower(int place, int sort, int x, int y) {
        return !isJoin(sort) || within(x, place) && within(y, place);
    }

    private static boolean isJoin(int sort) {
        return sort == ANY || sort == ALL || sort == LESS;
    }

    private static boolean hasBit(long bits, int bit) {
        return (bits >>> bit & 1L) != 0L;
    }

    private static int spotOf(int thing, int relation) {
        return thing * RELATIONS + relation;
    }

    private static int knotOf(int kind, int relation) {
        return kind * RELATIONS + relation;
    }

    private static boolean isThingUser(int user) {
        return user >= FIRST_THING_USER && user < FIRST_CLUB_USER;
    }

    private static boolean isClub(int user) {
        return user >= FIRST_CLUB_USER;
    }

    private static int clubThing(int club) {
        return (club - FIRST_CLUB_USER) / CLUB_STEP;
    }

    private static int clubRelation(int club) {
        return (club - FIRST_CLUB_USER) % CLUB_STEP;
    }

    private static final class Things {
        final int[] kind = new int[THINGS];
        int many = 0;

        int add(int newKind) {
            if (many < THINGS) {
                kind[many] = newKind;
                many++;
            }
            return many - 1;
        }

        int knotAt(int spot) {
            return kind[spot / RELATIONS] * RELATIONS + spot % RELATIONS;
        }

        boolean hasUser(int user) {
            if (isClub(user)) {
                return within(clubThing(user), many) && within(clubRelation(user), RELATIONS);
            }
            return isThingUser(user) ? within(user - FIRST_THING_USER, many) : within(user, PERSONS);
        }
    }

    private static final class Rules {
        /** What a place holds: NONE, a rule's sort, or NAMED with the name in x. */
        final int[] sort = new int[PLACES];
        final int[] x = new int[PLACES];
        final int[] y = new int[PLACES];
        final int[] placeOf = new int[KNOTS];
        /** The places that a place asks, itself too, as bits: those not behind the second one of a LESS. */
        final long[] joined = new long[PLACES];
        /** Those behind the second one of a LESS; a place may be among both. */
        final long[] taken = new long[PLACES];

        Rules() {
            Arrays.fill(sort, NONE);
            Arrays.fill(x, NONE);
            Arrays.fill(y, NONE);
            Arrays.fill(placeOf, NONE);
            survey();
        }

        void hold(int place, int newSort, int newX, int newY) {
            sort[place] = newSort;
            x[place] = newX;
            y[place] = newY;
            survey();
        }

        /** Lower places come first: what a place asks is known by then. */
        private void survey() {
            for (int place = 0; place < PLACES; place++) {
                joined[place] = 1L << place;
                taken[place] = 0L;
                if (isJoin(sort[place])) {
                    surveyJoin(place, x[place], y[place]);
                }
            }
        }

        private void surveyJoin(int place, int first, int second) {
            joined[place] |= joined[first];
            taken[place] = taken[first] | taken[second];
            if (sort[place] == LESS) {
                taken[place] |= joined[second];
            } else {
                joined[place] |= joined[second];
            }
        }
    }

    /** All pairs and changes; those behind the latest turn's are of a turn that is open. */
    private static final class Ledger {
        final int[] thing = new int[PAIRS];
        final int[] relation = new int[PAIRS];
        final int[] user = new int[PAIRS];
        final int[] end = new int[PAIRS];
        final int[] wrote = new int[PAIRS];
        final int[] struck = new int[PAIRS];
        /** The spot a pair is of; the spot of the club it tells, or NONE; the thing it tells, or NONE. */
        final int[] spot = new int[PAIRS];
        final int[] clubSpot = new int[PAIRS];
        final int[] thingTold = new int[PAIRS];
        int many = 0;
        /** As change() tells them; a pair is written once and struck once at most. */
        final int[] change = new int[2 * PAIRS];
        int changes = 0;
        final int[] changesUpTo = new int[TURNS + 1];
        int latest = 0;

        boolean hasRoom(int newPairs) {
            return latest < TURNS && many + newPairs <= PAIRS;
        }

        boolean inForceAt(int pair, int turn) {
            return wrote[pair] <= turn && (struck[pair] == NONE || struck[pair] > turn);
        }

        boolean countsAt(int pair, int turn, int atTick) {
            return inForceAt(pair, turn) && (end[pair] == 0 || end[pair] > atTick);
        }

        /** The pair that is in force by now, with what the open turn has done; or NONE. */
        int standing(int ofThing, int ofRelation, int ofUser) {
            for (int p = 0; p < many; p++) {
                if (struck[p] == NONE && thing[p] == ofThing && relation[p] == ofRelation && user[p] == ofUser) {
                    return p;
                }
            }
            return NONE;
        }

        boolean add(int newThing, int newRelation, int newUser, int newEnd) {
            if (many >= PAIRS || standing(newThing, newRelation, newUser) != NONE) {
                return false;
            }
            thing[many] = newThing;
            relation[many] = newRelation;
            user[many] = newUser;
            end[many] = newEnd;
            wrote[many] = latest + 1;
            struck[many] = NONE;
            spot[many] = spotOf(newThing, newRelation);
            clubSpot[many] = isClub(newUser) ? spotOf(clubThing(newUser), clubRelation(newUser)) : NONE;
            thingTold[many] = isThingUser(newUser) ? newUser - FIRST_THING_USER : NONE;
            note(2 * many);
            many++;
            return true;
        }

        boolean remove(int ofThing, int ofRelation, int ofUser) {
            int p = standing(ofThing, ofRelation, ofUser);
            if (p == NONE) {
                return false;
            }
            struck[p] = latest + 1;
            note(2 * p + 1);
            return true;
        }

        private void note(int what) {
            if (changes < change.length) {
                change[changes] = what;
                changes++;
            }
        }

        void closeTurn() {
            if (latest < TURNS) {
                latest++;
                changesUpTo[latest] = changes;
            }
        }

        void dropOpenTurn() {
            for (int c = changes - 1; c >= changesUpTo[latest]; c--) {
                if ((change[c] & 1) == 1) {
                    struck[change[c] >> 1] = NONE;
                } else {
                    many--;
                }
            }
            changes = changesUpTo[latest];
        }

        void takeBack() {
            if (latest > 0) {
                latest--;
                dropOpenTurn();
            }
        }
    }

    /** The turn that is made. */
    private static final class Draft {
        final int[] thing = new int[ACTS];
        final int[] relation = new int[ACTS];
        final int[] user = new int[ACTS];
        final int[] end = new int[ACTS];
        int acts = 0;
        final int[] whenThing = new int[CONDITIONS];
        final int[] whenRelation = new int[CONDITIONS];
        final int[] whenUser = new int[CONDITIONS];
        final boolean[] whenThere = new boolean[CONDITIONS];
        int conditions = 0;

        void clear() {
            acts = 0;
            conditions = 0;
        }

        void addAct(int newThing, int newRelation, int newUser, int newEnd) {
            if (acts < ACTS) {
                thing[acts] = newThing;
                relation[acts] = newRelation;
                user[acts] = newUser;
                end[acts] = newEnd;
                acts++;
            }
        }

        void addCondition(int newThing, int newRelation, int newUser, boolean there) {
            if (conditions < CONDITIONS) {
                whenThing[conditions] = newThing;
                whenRelation[conditions] = newRelation;
                whenUser[conditions] = newUser;
                whenThere[conditions] = there;
                conditions++;
            }
        }

        int writes() {
            int many = 0;
            for (int a = 0; a < acts; a++) {
                if (end[a] != STRUCK) {
                    many++;
                }
            }
            return many;
        }

        /** Opens a turn with the acts, up to the first one that fails: what fails, as failed() tells it, or NONE. */
        int perform(Ledger ledger) {
            for (int c = 0; c < conditions; c++) {
                boolean there = ledger.standing(whenThing[c], whenRelation[c], whenUser[c]) != NONE;
                if (there != whenThere[c]) {
                    return c;
                }
            }
            for (int a = 0; a < acts; a++) {
                if (!performAct(ledger, a)) {
                    return FIRST_ACT + a;
                }
            }
            return NONE;
        }

        private boolean performAct(Ledger ledger, int a) {
            if (end[a] == STRUCK) {
                return ledger.remove(thing[a], relation[a], user[a]);
            }
            return ledger.add(thing[a], relation[a], user[a], end[a]);
        }

        void reverse(Ledger ledger, int turn) {
            clear();
            for (int c = ledger.changesUpTo[turn] - 1; c >= ledger.changesUpTo[turn - 1]; c--) {
                int p = ledger.change[c] >> 1;
                boolean wasStruck = (ledger.change[c] & 1) == 1;
                addAct(ledger.thing[p], ledger.relation[p], ledger.user[p], wasStruck ? ledger.end[p] : STRUCK);
            }
        }
    }

    /** Which knots lead to which, as bits, and in which order they can be told. */
    private static final class Leads {
        final Things things;
        final Rules rules;
        final Ledger ledger;
        final long[] clubs = new long[KNOTS];
        final long[] joined = new long[KNOTS];
        final long[] taken = new long[KNOTS];
        /** A knot's level is at least that of what it leads to, and above it where a LESS takes that away. */
        final int[] level = new int[KNOTS];
        int topLevel = 0;

        Leads(Things things, Rules rules, Ledger ledger) {
            this.things = things;
            this.rules = rules;
            this.ledger = ledger;
        }

        /** Finds the levels; false if there are none, as some knot leads over the second one of a LESS to itself. */
        boolean settle() {
            findClubs();
            for (int knot = 0; knot < KNOTS; knot++) {
                findLeads(knot);
                level[knot] = 0;
            }
            topLevel = 0;
            // without a ring no way is longer than there are knots: what still rises then rises forever
            boolean rising = true;
            for (int round = 0; rising && round <= KNOTS; round++) {
                rising = raiseLevels();
            }
            return !rising;
        }

        private void findClubs() {
            Arrays.fill(clubs, 0L);
            for (int p = 0; p < ledger.many; p++) {
                int club = ledger.clubSpot[p];
                if (club != NONE) {
                    clubs[things.knotAt(ledger.spot[p])] |= 1L << things.knotAt(club);
                }
            }
        }

        private void findLeads(int knot) {
            joined[knot] = 0L;
            taken[knot] = 0L;
            int root = rules.placeOf[knot];
            for (int place = 0; place <= root; place++) {
                boolean isJoined = hasBit(rules.joined[root], place);
                boolean isTaken = hasBit(rules.taken[root], place);
                long to = isJoined || isTaken ? asked(place, knot) : 0L;
                joined[knot] |= isJoined ? to : 0L;
                taken[knot] |= isTaken ? to : 0L;
            }
        }

        private long asked(int place, int knot) {
            switch (rules.sort[place]) {
                case HERE:
                case UNTIL:
                    return clubs[knot];
                case ALSO:
                    return 1L << knotOf(knot / RELATIONS, rules.x[place]);
                case THROUGH:
                    long all = 0L;
                    for (int kind = 0; kind < KINDS; kind++) {
                        all |= 1L << knotOf(kind, rules.y[place]);
                    }
                    return all;
                default:
                    return 0L;
            }
        }

        private boolean raiseLevels() {
            boolean rose = false;
            for (int knot = 0; knot < KNOTS; knot++) {
                int least = Math.max(highest(joined[knot]), highest(taken[knot]) + 1);
                if (least > level[knot]) {
                    level[knot] = least;
                    topLevel = Math.max(topLevel, least);
                    rose = true;
                }
            }
            return rose;
        }

        private int highest(long knots) {
            int high = -1;
            for (int knot = 0; knots != 0L && knot < KNOTS; knot++) {
                if (hasBit(knots, knot)) {
                    high = Math.max(high, level[knot]);
                }
            }
            return high;
        }
    }

    /** Who is in, in one turn at one tick. */
    private static final class Scene {
        final Things things;
        final Rules rules;
        final Ledger ledger;
        final Leads leads;
        /** The pairs that count, spot by spot, by number: spot s has those from first[s] to before first[s + 1]. */
        final int[] counting = new int[PAIRS];
        final int[] first = new int[SPOTS + 1];
        final long[] in = new long[SPOTS];
        /** Whom each place tells at the spot that was told last. */
        final long[] told = new long[PLACES];

        Scene(Things things, Rules rules, Ledger ledger, Leads leads) {
            this.things = things;
            this.rules = rules;
            this.ledger = ledger;
            this.leads = leads;
        }

        /** Finds all who are in, without one pair (NONE: with all). */
        void look(int turn, int atTick, int without) {
            sift(turn, atTick, without);
            leads.settle();
            Arrays.fill(in, 0L);
            for (int level = 0; level <= leads.topLevel; level++) {
                fill(level);
            }
        }

        private void sift(int turn, int atTick, int without) {
            Arrays.fill(first, 0);
            for (int p = 0; p < ledger.many; p++) {
                if (p != without && ledger.countsAt(p, turn, atTick)) {
                    first[ledger.spot[p]]++;
                }
            }
            for (int spot = 1; spot <= SPOTS; spot++) {
                first[spot] += first[spot - 1];
            }
            // from the last pair on, each spot's end goes down to its start
            for (int p = ledger.many - 1; p >= 0; p--) {
                if (p != without && ledger.countsAt(p, turn, atTick)) {
                    int spot = ledger.spot[p];
                    first[spot]--;
                    counting[first[spot]] = p;
                }
            }
        }

        /** From nobody up, what a LESS takes away being of lower levels: so nobody is in by a ring alone. */
        private void fill(int level) {
            boolean growing = true;
            for (int round = 0; growing && round <= SPOTS * PERSONS; round++) {
                growing = grow(level);
            }
        }

        private boolean grow(int level) {
            boolean grew = false;
            for (int spot = 0; spot < spotOf(things.many, 0); spot++) {
                if (leads.level[things.knotAt(spot)] == level) {
                    long all = tell(spot);
                    grew = grew || all != in[spot];
                    in[spot] = all;
                }
            }
            return grew;
        }

        int rootOf(int spot) {
            return rules.placeOf[things.knotAt(spot)];
        }

        long tell(int spot) {
            int root = rootOf(spot);
            if (root == NONE) {
                return 0L;
            }
            long asked = rules.joined[root] | rules.taken[root];
            for (int place = 0; place <= root; place++) {
                if (hasBit(asked, place)) {
                    told[place] = tellPlace(place, spot);
                }
            }
            return told[root];
        }

        private long tellPlace(int place, int spot) {
            int x = rules.x[place];
            int y = rules.y[place];
            int thing = spot / RELATIONS;
            switch (rules.sort[place]) {
                case HERE:
                    return members(spot, false);
                case UNTIL:
                    return members(spot, true);
                case ALSO:
                    return in[spotOf(thing, x)];
                case THROUGH:
                    return behindThings(spotOf(thing, x), y);
                case ANY:
                    return told[x] | told[y];
                case ALL:
                    return told[x] & told[y];
                case LESS:
                    return told[x] & ~told[y];
                default:
                    return 0L;
            }
        }

        private long members(int spot, boolean ending) {
            long all = 0L;
            for (int i = first[spot]; i < first[spot + 1]; i++) {
                int p = counting[i];
                int club = ledger.clubSpot[p];
                if ((ledger.end[p] != 0) == ending && ledger.thingTold[p] == NONE) {
                    all |= club == NONE ? 1L << ledger.user[p] : in[club];
                }
            }
            return all;
        }

        private long behindThings(int spot, int relation) {
            long all = 0L;
            for (int i = first[spot]; i < first[spot + 1]; i++) {
                int thing = ledger.thingTold[counting[i]];
                if (thing != NONE) {
                    all |= in[thing * RELATIONS + relation];
                }
            }
            return all;
        }

        boolean isIn(int spot, int person) {
            return hasBit(in[spot], person);
        }

        int nextThing(int kind, int relation, int person, int from) {
            for (int thing = from; thing < things.many; thing++) {
                if (things.kind[thing] == kind && isIn(spotOf(thing, relation), person)) {
                    return thing;
                }
            }
            return NONE;
        }
    }

    /** What it costs one person to be in, in a scene. */
    private static final class Costs {
        final Rules rules;
        final Ledger ledger;
        final Scene scene;
        final int[] cost = new int[SPOTS];
        /** What each place costs at the spot that was priced last. */
        final int[] price = new int[PLACES];
        int person = NONE;

        Costs(Rules rules, Ledger ledger, Scene scene) {
            this.rules = rules;
            this.ledger = ledger;
            this.scene = scene;
        }

        void weigh(int newPerson) {
            person = newPerson;
            Arrays.fill(cost, FAR);
            // each round settles all of one cost more, and no cost is above the number of spots
            boolean falling = true;
            for (int round = 0; falling && round <= SPOTS; round++) {
                falling = lowerCosts();
            }
        }

        private boolean lowerCosts() {
            boolean fell = false;
            for (int spot = 0; spot < SPOTS; spot++) {
                if (scene.isIn(spot, person)) {
                    int least = priceSpot(spot);
                    fell = fell || least < cost[spot];
                    cost[spot] = least;
                }
            }
            return fell;
        }

        int priceSpot(int spot) {
            int root = scene.rootOf(spot);
            if (root == NONE) {
                return FAR;
            }
            scene.tell(spot);
            long asked = rules.joined[root] | rules.taken[root];
            for (int place = 0; place <= root; place++) {
                if (hasBit(asked, place)) {
                    price[place] = priceOf(place, spot);
                }
            }
            return price[root];
        }

        private int priceOf(int place, int spot) {
            int x = rules.x[place];
            int y = rules.y[place];
            switch (rules.sort[place]) {
                case HERE:
                case UNTIL:
                case THROUGH:
                    int p = bestPair(place, spot);
                    return p == NONE ? FAR : behind(p, place) + 1;
                case ALSO:
                    return Math.min(cost[spotOf(spot / RELATIONS, x)] + 1, FAR);
                case ANY:
                    return Math.min(price[x], price[y]);
                case ALL:
                    return Math.max(price[x], price[y]);
                case LESS:
                    return hasBit(scene.told[y], person) ? FAR : price[x];
                default:
                    return FAR;
            }
        }

        /** The pair by which a HERE, UNTIL or THROUGH costs least, of several the least number; or NONE. */
        int bestPair(int place, int spot) {
            int from = spot;
            if (rules.sort[place] == THROUGH) {
                from = spotOf(spot / RELATIONS, rules.x[place]);
            }
            int best = NONE;
            int least = FAR;
            for (int i = scene.first[from]; i < scene.first[from + 1]; i++) {
                int costs = behind(scene.counting[i], place);
                if (costs < least) {
                    best = scene.counting[i];
                    least = costs;
                }
            }
            return best;
        }

        /** The cost in what a pair leads on to, 0 if it tells the person itself, FAR if it leads to nothing. */
        private int behind(int p, int place) {
            if (rules.sort[place] == THROUGH) {
                int thing = ledger.thingTold[p];
                return thing == NONE ? FAR : cost[thing * RELATIONS + rules.y[place]];
            }
            if ((ledger.end[p] != 0) != (rules.sort[place] == UNTIL)) {
                return FAR;
            }
            int club = ledger.clubSpot[p];
            if (club != NONE) {
                return cost[club];
            }
            return ledger.user[p] == person ? 0 : FAR;
        }
    }

    /** The reason that was told last. */
    private static final class Reason {
        /** No way between two pairs that are told is longer than there are spots. */
        static final int MOST_STEPS = TOLD * (SPOTS + 1);

        final Rules rules;
        final Ledger ledger;
        final Scene scene;
        final Costs costs;
        final int[] pairs = new int[TOLD];
        int told = 0;
        int spot = NONE;
        int person = NONE;
        int turn = NONE;
        /** Second ones of ALLs, to be followed when the first ones are told. */
        final int[] waitingSpot = new int[TOLD];
        final int[] waitingPlace = new int[TOLD];
        int waiting = 0;
        int atSpot = NONE;
        int atPlace = NONE;

        Reason(Rules rules, Ledger ledger, Scene scene, Costs costs) {
            this.rules = rules;
            this.ledger = ledger;
            this.scene = scene;
            this.costs = costs;
        }

        /** Finds the reason in the scene as it was looked at, its costs being weighed for that person. */
        void find(int newSpot, int newPerson, int newTurn) {
            spot = newSpot;
            person = newPerson;
            turn = newTurn;
            told = 0;
            waiting = 0;
            enter(spot);
            for (int step = 0; step < MOST_STEPS && told < TOLD && atPlace != NONE; step++) {
                follow();
            }
        }

        private void enter(int newSpot) {
            atSpot = newSpot;
            atPlace = scene.rootOf(newSpot);
        }

        private void follow() {
            costs.priceSpot(atSpot);
            descend();
            if (rules.sort[atPlace] == ALSO) {
                enter(spotOf(atSpot / RELATIONS, rules.x[atPlace]));
                return;
            }
            int p = costs.bestPair(atPlace, atSpot);
            if (p == NONE) {
                resume();
                return;
            }
            pairs[told] = p;
            told++;
            if (rules.sort[atPlace] == THROUGH) {
                enter(spotOf(ledger.thingTold[p], rules.y[atPlace]));
            } else if (ledger.clubSpot[p] != NONE) {
                enter(ledger.clubSpot[p]);
            } else {
                resume();
            }
        }

        /** Goes down to a place that joins nothing. */
        private void descend() {
            for (int depth = 0; depth < PLACES && isJoin(rules.sort[atPlace]); depth++) {
                int x = rules.x[atPlace];
                int y = rules.y[atPlace];
                if (rules.sort[atPlace] == ALL) {
                    hold(y);
                }
                boolean second = rules.sort[atPlace] == ANY && costs.price[y] < costs.price[x];
                atPlace = second ? y : x;
            }
        }

        private void hold(int place) {
            // each one that waits tells a pair at least: the lowest one would come behind all that are told
            if (waiting == TOLD) {
                waiting--;
                System.arraycopy(waitingSpot, 1, waitingSpot, 0, waiting);
                System.arraycopy(waitingPlace, 1, waitingPlace, 0, waiting);
            }
            waitingSpot[waiting] = atSpot;
            waitingPlace[waiting] = place;
            waiting++;
        }

        private void resume() {
            if (waiting == 0) {
                atPlace = NONE;
                return;
            }
            waiting--;
            atSpot = waitingSpot[waiting];
            atPlace = waitingPlace[waiting];
        }
    }

    private static final class Row {
        final int[] numbers = new int[THINGS];
        /** How many numbers there are; NONE: the row is missing. */
        int many = NONE;

        void begin() {
            many = 0;
        }

        void append(int number) {
            if (within(many, THINGS)) {
                numbers[many] = number;
                many++;
            }
        }
    }
}
