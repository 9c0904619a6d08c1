import java.util.ArrayList;
import java.util.List;

/**
 * A second kernel, to compare with. It keeps only who has which frame, finds the
 * free blocks anew in each call, and goes back to a copy of all when memory ends.
 */
final class Model {
    private static final class NoMemory extends Exception {
        private static final long serialVersionUID = 1;
    }

    private static final class Proc {
        boolean live = true;
        int parent = PageKernel.NONE;
        int code;
        int recordFrame;
        List<Integer> tableFrames = new ArrayList<>();
        List<Integer> pageFrames = new ArrayList<>();

        Proc copy() {
            Proc p = new Proc();
            p.live = live;
            p.parent = parent;
            p.code = code;
            p.recordFrame = recordFrame;
            p.tableFrames.addAll(tableFrames);
            p.pageFrames.addAll(pageFrames);
            return p;
        }
    }

    private static final class State {
        boolean[] used = new boolean[128];
        int[][] words = new int[128][64];
        Proc[] procs = new Proc[16];
        List<Integer> row = new ArrayList<>();
        // Of the kernel: {first frame, order}
        List<int[]> kernels = new ArrayList<>();

        State copy() {
            State s = new State();
            s.used = used.clone();
            for (int i = 0; i < 128; i++) {
                s.words[i] = words[i].clone();
            }
            for (int i = 0; i < 16; i++) {
                s.procs[i] = procs[i] == null ? null : procs[i].copy();
            }
            s.row.addAll(row);
            s.kernels.addAll(kernels);
            return s;
        }
    }

    private State s = new State();
    private int copies;
    private int refusals;
    private int turns;

    private boolean allFree(int first, int order) {
        for (int f = first; f < first + (1 << order); f++) {
            if (s.used[f]) {
                return false;
            }
        }
        return true;
    }

    private boolean isFreeBlock(int first, int order) {
        return allFree(first, order) && (order == 7 || !allFree(first / (2 << order) * (2 << order), order + 1));
    }

    private int take(int order) throws NoMemory {
        for (int k = order; k <= 7; k++) {
            for (int first = 0; first < 128; first += 1 << k) {
                if (isFreeBlock(first, k)) {
                    mark(first, order, true);
                    return first;
                }
            }
        }
        throw new NoMemory();
    }

    private void mark(int first, int order, boolean used) {
        for (int f = first; f < first + (1 << order); f++) {
            s.used[f] = used;
        }
    }

    private int recordsIn(int frame) {
        int n = 0;
        for (Proc p : s.procs) {
            n += p != null && p.recordFrame == frame ? 1 : 0;
        }
        return n;
    }

    private static int count(List<Integer> list, int value) {
        int n = 0;
        for (int x : list) {
            n += x == value ? 1 : 0;
        }
        return n;
    }

    private int tablesIn(int frame) {
        int n = 0;
        for (Proc p : s.procs) {
            n += p == null ? 0 : count(p.tableFrames, frame);
        }
        return n;
    }

    private int pagesOf(int frame) {
        int n = 0;
        for (Proc p : s.procs) {
            n += p == null ? 0 : count(p.pageFrames, frame);
        }
        return n;
    }

    private int recordFrame() throws NoMemory {
        for (int f = 0; f < 128; f++) {
            if (recordsIn(f) > 0 && recordsIn(f) < 4) {
                return f;
            }
        }
        return take(0);
    }

    private void addTable(Proc p) throws NoMemory {
        for (int f = 0; f < 128; f++) {
            if (tablesIn(f) > 0 && tablesIn(f) < 4) {
                p.tableFrames.add(f);
                return;
            }
        }
        p.tableFrames.add(take(0));
    }

    /** Frees the frames that nobody has any more. */
    private void sweep() {
        for (int f = 0; f < 128; f++) {
            s.used[f] = kind(f) != 0;
        }
    }

    private int kind(int f) {
        for (int[] k : s.kernels) {
            if (f >= k[0] && f < k[0] + (1 << k[1])) {
                return 4;
            }
        }
        return recordsIn(f) > 0 ? 1 : tablesIn(f) > 0 ? 2 : pagesOf(f) > 0 ? 3 : 0;
    }

    private Proc live(int pid) {
        return pid < 0 || pid > 15 || s.procs[pid] == null || !s.procs[pid].live ? null : s.procs[pid];
    }

    private int back(State to) {
        s = to;
        refusals++;
        return PageKernel.NO_MEMORY;
    }

    private int make(int from) {
        int pid = 0;
        while (pid < 16 && s.procs[pid] != null) {
            pid++;
        }
        if (pid == 16) {
            return PageKernel.NO_PROCESS;
        }
        State before = s.copy();
        try {
            Proc p = new Proc();
            p.recordFrame = recordFrame();
            p.parent = from;
            s.procs[pid] = p;
            if (from != PageKernel.NONE) {
                for (int i = 0; i < s.procs[from].tableFrames.size(); i++) {
                    addTable(p);
                }
                p.pageFrames.addAll(s.procs[from].pageFrames);
            }
            s.row.add(pid);
            return pid;
        } catch (NoMemory e) {
            return back(before);
        }
    }

    int spawn() {
        return make(PageKernel.NONE);
    }

    int fork(int pid) {
        return live(pid) == null ? PageKernel.BAD : make(pid);
    }

    int grow(int pid, int n) {
        Proc p = live(pid);
        if (p == null) {
            return PageKernel.BAD;
        }
        int old = p.pageFrames.size();
        long after = (long) old + n;
        if (after < 0 || after > 256) {
            return PageKernel.BAD;
        }
        State before = s.copy();
        try {
            while (p.pageFrames.size() < after) {
                if (p.pageFrames.size() == 16 * p.tableFrames.size()) {
                    addTable(p);
                }
                int f = take(0);
                s.words[f] = new int[64];
                p.pageFrames.add(f);
            }
        } catch (NoMemory e) {
            return back(before);
        }
        cut(p, (int) after);
        return old;
    }

    private void cut(Proc p, int pages) {
        while (p.pageFrames.size() > pages) {
            p.pageFrames.remove(p.pageFrames.size() - 1);
        }
        while (p.tableFrames.size() > (pages + 15) / 16) {
            p.tableFrames.remove(p.tableFrames.size() - 1);
        }
        sweep();
    }

    int frame(int pid, int page) {
        Proc p = live(pid);
        return p == null || page < 0 || page >= p.pageFrames.size() ? PageKernel.NONE : p.pageFrames.get(page);
    }

    boolean has(int pid, int address) {
        return frame(pid, Math.floorDiv(address, 64)) != PageKernel.NONE;
    }

    int load(int pid, int address) {
        return has(pid, address) ? s.words[frame(pid, address / 64)][address % 64] : 0;
    }

    int store(int pid, int address, int v) {
        Proc p = live(pid);
        if (p == null) {
            return PageKernel.BAD;
        }
        if (!has(pid, address)) {
            return PageKernel.FAULT;
        }
        int f = frame(pid, address / 64);
        if (pagesOf(f) > 1) {
            State before = s.copy();
            try {
                int own = take(0);
                s.words[own] = s.words[f].clone();
                p.pageFrames.set(address / 64, own);
                f = own;
                copies++;
            } catch (NoMemory e) {
                return back(before);
            }
        }
        s.words[f][address % 64] = v;
        return 0;
    }

    int exit(int pid, int code) {
        Proc p = live(pid);
        if (p == null) {
            return PageKernel.BAD;
        }
        s.row.remove(Integer.valueOf(pid));
        for (int i = 0; i < 16; i++) {
            if (s.procs[i] != null && s.procs[i].parent == pid) {
                s.procs[i].parent = PageKernel.NONE;
                s.procs[i] = s.procs[i].live ? s.procs[i] : null;
            }
        }
        p.live = false;
        p.code = code;
        s.procs[pid] = p.parent == PageKernel.NONE ? null : p;
        cut(p, 0);
        return 0;
    }

    int reap(int pid) {
        if (live(pid) == null) {
            return PageKernel.BAD;
        }
        for (int i = 0; i < 16; i++) {
            Proc p = s.procs[i];
            if (p != null && p.parent == pid && !p.live) {
                s.procs[i] = null;
                sweep();
                return 256 * i + Math.floorMod(p.code, 256);
            }
        }
        return process(pid, 3) == 0 ? PageKernel.NO_CHILD : PageKernel.WAITS;
    }

    int tick() {
        if (s.row.isEmpty()) {
            return PageKernel.NONE;
        }
        turns++;
        s.row.add(s.row.remove(0));
        return current();
    }

    int current() {
        return s.row.isEmpty() ? PageKernel.NONE : s.row.get(0);
    }

    int block(int order) {
        if (order < 0 || order > 7) {
            return PageKernel.BAD;
        }
        try {
            int first = take(order);
            s.kernels.add(new int[] {first, order});
            return first;
        } catch (NoMemory e) {
            return back(s);
        }
    }

    int unblock(int frame) {
        for (int[] k : s.kernels) {
            if (k[0] == frame) {
                s.kernels.remove(k);
                sweep();
                return k[1];
            }
        }
        return PageKernel.BAD;
    }

    int freeFrames() {
        int n = 0;
        for (boolean u : s.used) {
            n += u ? 0 : 1;
        }
        return n;
    }

    int free(int order, int what) {
        if (order < 0 || order > 7 || what < 0 || what > 1) {
            return PageKernel.BAD;
        }
        int n = 0;
        int least = PageKernel.NONE;
        for (int first = 128 - (1 << order); first >= 0; first -= 1 << order) {
            if (isFreeBlock(first, order)) {
                n++;
                least = first;
            }
        }
        return what == 0 ? n : least;
    }

    int about(int frame, int what) {
        if (frame < 0 || frame > 127 || what < 0 || what > 1) {
            return PageKernel.BAD;
        }
        return what == 0 ? kind(frame) : Math.max(recordsIn(frame), Math.max(tablesIn(frame), pagesOf(frame)));
    }

    int process(int pid, int what) {
        if (pid < 0 || pid > 15 || what < 0 || what > 4) {
            return PageKernel.BAD;
        }
        Proc p = s.procs[pid];
        int children = 0;
        for (Proc q : s.procs) {
            children += q != null && q.parent == pid ? 1 : 0;
        }
        return switch (what) {
            case 0 -> p == null ? 0 : p.live ? 1 : 2;
            case 1 -> p == null ? 0 : p.pageFrames.size();
            case 2 -> p == null ? PageKernel.NONE : p.parent;
            case 3 -> children;
            default -> s.row.indexOf(pid);
        };
    }

    int told(int what) {
        int live = s.row.size();
        int all = 0;
        for (Proc p : s.procs) {
            all += p == null ? 0 : 1;
        }
        return switch (what) {
            case 0 -> live;
            case 1 -> all - live;
            case 2 -> copies;
            case 3 -> refusals;
            case 4 -> turns;
            default -> PageKernel.BAD;
        };
    }
}
