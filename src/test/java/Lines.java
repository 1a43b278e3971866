import java.util.ArrayList;
import java.util.List;

/** The lines of a Script, put together. */
final class Lines {
    final List<String> all = new ArrayList<>();

    private Lines() {
    }

    static Lines of(String... lines) {
        return new Lines().then(lines);
    }

    /** Some things of kind 0, whose relations 0 .. 7 have the places 0 .. 7, each with a rule HERE. */
    static Lines plain(int things) {
        Lines lines = new Lines().times(things, "thing 0");
        for (int r = 0; r < 8; r++) {
            lines.then("rule " + r + " 0 0 0", "relate 0 " + r + " " + r);
        }
        return lines;
    }

    Lines then(String... lines) {
        all.addAll(List.of(lines));
        return this;
    }

    Lines then(Lines more) {
        all.addAll(more.all);
        return this;
    }

    /** A line again and again; '#' in it stands for 0, 1, 2 and so on. */
    Lines times(int many, String line) {
        for (int i = 0; i < many; i++) {
            all.add(line.replace("#", "" + i));
        }
        return this;
    }

    /** Writes pairs that differ, turn by turn, 20 to a turn: of relation 0 .. 7 and person 0 .. 39, things 0 and 1. */
    Lines pairs(int many) {
        for (int p = 0; p < many; p++) {
            all.add("write " + p / 320 + " " + p / 40 % 8 + " " + p % 40 + " 0");
            if (p % 20 == 19 || p == many - 1) {
                all.add("commit");
            }
        }
        return this;
    }

    /** The first and the last number ('#') that a call takes, and those next to them and far off that it refuses. */
    Lines numbers(String call, int first, int last, String refusal) {
        takes(call, first, last);
        return refuses(call, refusal, first - 1, last + 1, Integer.MIN_VALUE, Integer.MAX_VALUE);
    }

    Lines takes(String call, int... numbers) {
        for (int n : numbers) {
            all.add(call.replace("#", "" + n));
        }
        return this;
    }

    Lines refuses(String call, String refusal, int... numbers) {
        boolean tellsBits = call.startsWith("who ") || call.startsWith("would ");
        for (int n : numbers) {
            all.add(call.replace("#", "" + n) + (tellsBits ? " = 0 by " : " = ") + refusal);
        }
        return this;
    }
}
