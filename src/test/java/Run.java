import java.util.ArrayList;
import java.util.List;

/**
 * A run of calls on a new kernel, written as text, the calls apart by ';':
 * <pre>
 *   spawn = 0              the answer that is due
 *   16x spawn = 0..15      16 calls, each with its own answer
 *   block -1,8,MAX = BAD   a call for each argument, all with one answer
 *   about 0..127 0..1      a call for each pair, the last argument changing fastest
 * </pre>
 */
final class Run {
    // Nothing is promised beyond: a run that goes there proves nothing.
    private static final int MOST_CALLS = 512;

    private final PageKernel kernel = new PageKernel();
    private int made;

    /** Makes the calls, and looks at the answers that are told. */
    Run calls(String text) {
        for (String call : text.split(";")) {
            if (!call.isBlank()) {
                lookAt(call.trim());
            }
        }
        return this;
    }

    /** All answers of the calls, one behind another. */
    List<Integer> answers(String text) {
        List<Integer> all = new ArrayList<>();
        for (String call : text.split(";")) {
            if (!call.isBlank()) {
                all.addAll(make(call.trim()));
            }
        }
        return all;
    }

    private void lookAt(String text) {
        String[] sides = text.split("=");
        List<Integer> got = make(sides[0].trim());
        if (sides.length < 2) {
            return;
        }
        List<Integer> due = values(sides[1].trim());
        Due.that(text + ": has one answer for each call", due.size() == 1 || due.size() == got.size());
        for (int i = 0; i < got.size(); i++) {
            String which = got.size() == 1 ? "" : ", number " + i;
            Due.is(text + which, due.get(due.size() == 1 ? 0 : i % due.size()), got.get(i));
        }
    }

    private List<Integer> make(String call) {
        String[] parts = call.split(" +");
        int from = parts[0].endsWith("x") ? 1 : 0;
        int times = from == 0 ? 1 : Integer.parseInt(parts[0].substring(0, parts[0].length() - 1));
        List<int[]> rows = new ArrayList<>();
        rows.add(new int[0]);
        for (int i = from + 1; i < parts.length; i++) {
            rows = withEach(rows, values(parts[i]));
        }
        List<Integer> got = new ArrayList<>();
        for (int i = 0; i < times; i++) {
            for (int[] row : rows) {
                got.add(one(parts[from], row));
            }
        }
        return got;
    }

    private static List<int[]> withEach(List<int[]> rows, List<Integer> values) {
        List<int[]> longer = new ArrayList<>();
        for (int[] row : rows) {
            for (int value : values) {
                int[] next = java.util.Arrays.copyOf(row, row.length + 1);
                next[row.length] = value;
                longer.add(next);
            }
        }
        return longer;
    }

    private static List<Integer> values(String text) {
        List<Integer> all = new ArrayList<>();
        for (String piece : text.split(",")) {
            String[] ends = piece.trim().split("\\.\\.");
            int last = value(ends[ends.length - 1]);
            for (int v = value(ends[0]); v < last; v++) {
                all.add(v);
            }
            all.add(last);
        }
        return all;
    }

    private static int value(String text) {
        return switch (text) {
            case "NONE" -> PageKernel.NONE;
            case "BAD" -> PageKernel.BAD;
            case "NO_MEMORY" -> PageKernel.NO_MEMORY;
            case "NO_PROCESS" -> PageKernel.NO_PROCESS;
            case "FAULT" -> PageKernel.FAULT;
            case "NO_CHILD" -> PageKernel.NO_CHILD;
            case "WAITS" -> PageKernel.WAITS;
            case "MIN" -> Integer.MIN_VALUE;
            case "MAX" -> Integer.MAX_VALUE;
            case "true" -> 1;
            case "false" -> 0;
            default -> Integer.parseInt(text);
        };
    }

    private int one(String name, int[] a) {
        made++;
        Due.that("a run has at most 512 calls", made <= MOST_CALLS);
        return switch (name + a.length) {
            case "spawn0" -> kernel.spawn();
            case "fork1" -> kernel.fork(a[0]);
            case "grow2" -> kernel.grow(a[0], a[1]);
            case "load2" -> kernel.load(a[0], a[1]);
            case "has2" -> kernel.has(a[0], a[1]) ? 1 : 0;
            case "store3" -> kernel.store(a[0], a[1], a[2]);
            case "exit2" -> kernel.exit(a[0], a[1]);
            case "reap1" -> kernel.reap(a[0]);
            case "tick0" -> kernel.tick();
            case "current0" -> kernel.current();
            case "block1" -> kernel.block(a[0]);
            case "unblock1" -> kernel.unblock(a[0]);
            case "freeFrames0" -> kernel.freeFrames();
            case "free2" -> kernel.free(a[0], a[1]);
            case "frame2" -> kernel.frame(a[0], a[1]);
            case "about2" -> kernel.about(a[0], a[1]);
            case "process2" -> kernel.process(a[0], a[1]);
            case "told1" -> kernel.told(a[0]);
            default -> throw new IllegalArgumentException("no such call: " + name + " with " + a.length);
        };
    }
}
