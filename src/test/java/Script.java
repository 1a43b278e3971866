import java.lang.reflect.InvocationTargetException;
import java.lang.reflect.Method;
import java.lang.reflect.Modifier;
import java.util.ArrayList;
import java.util.HashMap;
import java.util.List;
import java.util.Map;

/**
 * Runs of calls as texts, a call a line, on a new object each: "thing 5 = 0", "rule 64 0 0 0 = BEYOND",
 * "who 0 0 1 = {3 39}", "who 9 0 1 = 0 by BEYOND". A line without an answer must be taken, whatever it answers.
 */
final class Script {
    /** So many calls of an object are promised, eight of which ask status() at the end. */
    private static final int MOST_CALLS = 512;
    private static final int STATUS_CALLS = 8;
    private static final List<String> CONSTANTS =
        List.of("", "NONE", "MISSING", "BEYOND", "BELOW", "KIND", "COPY", "RING", "NO", "FULL");
    private static final Map<String, Method> METHODS = methods();
    private static final Map<String, Line> PARSED = new HashMap<>();

    /** A call, what it is due to answer, and by what it is due to be refused (0: it is taken). */
    private record Line(String text, Method method, Object[] arguments, boolean isTold, long due, int by) {
        long ask(RightsWeb web) {
            try {
                return ((Number) method.invoke(web, arguments)).longValue();
            } catch (IllegalAccessException | InvocationTargetException e) {
                throw new IllegalStateException(text + " has thrown", e);
            }
        }
    }

    private final Checks checks;
    private int refusedCalls = 0;

    Script(Checks checks) {
        this.checks = checks;
    }

    int refusedCalls() {
        return refusedCalls;
    }

    /** Each answer is as due, status() counts all that was refused, and a refused call changes nothing else. */
    void test(String name, Lines script) {
        List<Line> lines = new ArrayList<>();
        for (String text : script.all) {
            lines.add(parse(text));
        }
        checks.isTrue(lines.size() + " calls are not too many", lines.size() + STATUS_CALLS <= MOST_CALLS);
        answersAreDue(lines);
        for (int i = 0; i < lines.size(); i++) {
            if (lines.get(i).by != 0) {
                refusedCalls++;
                changesNothing(lines.subList(0, i), lines.get(i));
            }
        }
        checks.end(name);
    }

    private void answersAreDue(List<Line> lines) {
        RightsWeb web = new RightsWeb();
        int[] refused = new int[CONSTANTS.size()];
        for (int i = 0; i < lines.size(); i++) {
            Line line = lines.get(i);
            long got = line.ask(web);
            String what = "call " + (i + 1) + ", " + line.text + ",";
            if (line.isTold) {
                checks.due(what, got, line.due);
            } else {
                checks.isTrue(what + " is taken (" + got + ")", got >= RightsWeb.NONE);
            }
            refused[-line.by]++;
        }
        for (int by = RightsWeb.MISSING; by >= RightsWeb.FULL; by--) {
            checks.due("status(" + by + ") at the end", web.status(by), refused[-by]);
        }
    }

    /** Two objects are led to the same state; one refuses a call then: both must answer alike, but for status(). */
    private void changesNothing(List<Line> before, Line refused) {
        RightsWeb was = led(before);
        RightsWeb is = led(before);
        refused.ask(is);
        for (int by = RightsWeb.MISSING; by >= RightsWeb.FULL; by--) {
            int due = was.status(by) + (by == refused.by ? 1 : 0);
            checks.due("status(" + by + ") behind " + refused.text, is.status(by), due);
        }
        List<Line> looks = looks(led(before));
        if (refused.text.equals("commit = NO")) {
            // failed() is there to tell of just this call
            looks.removeIf(look -> look.text.equals("failed"));
        }
        int room = MOST_CALLS - before.size() - 1;
        for (int from = 0; from < looks.size(); from += room) {
            lookAlike(before, refused, looks.subList(from, Math.min(looks.size(), from + room)));
        }
        // what the turn that is made holds is seen by what comes of it
        lookAlike(before, refused, lines("commit", "failed", "count 0", "count 2", "count 3", "count 4", "change 0 0"));
    }

    private void lookAlike(List<Line> before, Line refused, List<Line> looks) {
        RightsWeb was = led(before);
        RightsWeb is = led(before);
        refused.ask(is);
        for (Line look : looks) {
            checks.due(look.text + " behind " + refused.text, look.ask(is), look.ask(was));
        }
    }

    private static RightsWeb led(List<Line> lines) {
        RightsWeb web = new RightsWeb();
        for (Line line : lines) {
            line.ask(web);
        }
        return web;
    }

    /** Questions that tell nearly all of an object's state. */
    private static List<Line> looks(RightsWeb web) {
        int latest = web.count(0);
        int pairs = web.count(4);
        int things = web.count(5);
        List<String> all = new ArrayList<>(Lines.of("failed").times(6, "count #").times(7, "row #").all);
        all.addAll(Lines.of().times(6, "reason #").times(Math.min(pairs, 6), "without #").all);
        for (int place = 0; place < 64; place++) {
            all.add("holds " + place);
        }
        for (int place : new int[] {0, 1, 2, 3, 4, 5, 9, 10, 11, 12, 63}) {
            all.addAll(List.of("asks " + place + " 0", "asks " + place + " 1", "named " + place));
        }
        for (int t : new int[] {0, 1, latest}) {
            all.addAll(List.of("inForce " + t, "change " + t + " 0", "change " + t + " 1", "change " + t + " 2"));
        }
        for (int p : new int[] {0, 1, 2, 3, pairs - 2, pairs - 1}) {
            all.addAll(Lines.of().times(6, "pair " + p + " #").all);
        }
        for (int thing : new int[] {0, 1, things - 1}) {
            all.addAll(Lines.of().times(8, "who " + thing + " # " + latest).all);
        }
        all.addAll(Lines.of().times(8, "would 0 # true").times(8, "would 0 # false").all);
        return lines(all.toArray(new String[0]));
    }

    private static List<Line> lines(String... texts) {
        List<Line> all = new ArrayList<>();
        for (String text : texts) {
            all.add(parse(text));
        }
        return all;
    }

    private static Map<String, Method> methods() {
        Map<String, Method> all = new HashMap<>();
        for (Method m : RightsWeb.class.getDeclaredMethods()) {
            if (Modifier.isPublic(m.getModifiers())) {
                all.put(m.getName(), m);
            }
        }
        return all;
    }

    private static Line parse(String text) {
        return PARSED.computeIfAbsent(text, Script::parseNew);
    }

    private static Line parseNew(String text) {
        String[] sides = text.split(" = ");
        String[] words = sides[0].split(" ");
        Method method = METHODS.get(words[0]);
        if (method == null || method.getParameterCount() != words.length - 1) {
            throw new IllegalArgumentException("no such call: " + text);
        }
        Object[] arguments = new Object[words.length - 1];
        for (int i = 0; i < arguments.length; i++) {
            boolean isFlag = method.getParameterTypes()[i] == boolean.class;
            arguments[i] = isFlag ? (Object) Boolean.valueOf(words[i + 1]) : (Object) Integer.valueOf(words[i + 1]);
        }
        if (sides.length == 1) {
            return new Line(text, method, arguments, false, 0, 0);
        }
        String[] answer = sides[1].split(" by ");
        String by = answer[answer.length - 1];
        return new Line(text, method, arguments, true, parseAnswer(answer[0]), refusal(by));
    }

    private static long parseAnswer(String answer) {
        if (CONSTANTS.contains(answer)) {
            return -CONSTANTS.indexOf(answer);
        }
        if (!answer.startsWith("{")) {
            return Long.parseLong(answer);
        }
        long bits = 0;
        for (String person : answer.substring(1, answer.length() - 1).split(" ")) {
            bits |= 1L << Integer.parseInt(person);
        }
        return bits;
    }

    private static int refusal(String by) {
        int number = CONSTANTS.indexOf(by);
        return number >= 2 ? -number : 0;
    }
}
