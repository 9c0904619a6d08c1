/** Each promise by itself: ordinary inputs, the edges that the document names, wrong inputs. */
public final class PromisesTest {
    private static final int[] NO_NUMBERS = {-1, 16, 17, 128, 256, Integer.MIN_VALUE, Integer.MAX_VALUE};
    private static final int[] NO_ADDRESSES = {-1, -63, -64, -65, Integer.MIN_VALUE, Integer.MAX_VALUE};

    public static void main(String[] args) {
        newObject();
        spawn();
        spawnRecords();
        fork();
        forkTables();
        forkWithoutMemory();
        grow();
        growTables();
        growWithoutMemory();
        growClears();
        load();
        has();
        store();
        storeCopies();
        storeWithoutMemory();
        exit();
        exitChildren();
        reap();
        tick();
        current();
        block();
        blockLeast();
        unblock();
        freeFrames();
        free();
        frame();
        about();
        process();
        processRow();
        told();
        Due.end();
    }

    private static PageKernel spawned(int processes) {
        PageKernel x = new PageKernel();
        for (int i = 0; i < processes; i++) {
            Due.is("spawn()", i, x.spawn());
        }
        return x;
    }

    /** Leaves just the given number of frames free (below 64), in one go at the end of the frames. */
    private static PageKernel leaving(int frames) {
        PageKernel x = new PageKernel();
        int taken = 128 - frames;
        for (int order = 7; order >= 0; order--) {
            if ((taken & (1 << order)) != 0) {
                Due.that("block() found room", x.block(order) >= 0);
            }
        }
        Due.is("freeFrames()", frames, x.freeFrames());
        return x;
    }

    private static void newObject() {
        Due.in("1 a new object");
        PageKernel x = new PageKernel();
        Due.is("freeFrames()", 128, x.freeFrames());
        for (int order = 0; order < 7; order++) {
            Due.is("free(order, 0)", 0, x.free(order, 0));
            Due.is("free(order, 1)", PageKernel.NONE, x.free(order, 1));
        }
        Due.is("free(7, 0)", 1, x.free(7, 0));
        Due.is("free(7, 1)", 0, x.free(7, 1));
        for (int frame = 0; frame < 128; frame++) {
            Due.is("about(frame, 0)", 0, x.about(frame, 0));
            Due.is("about(frame, 1)", 0, x.about(frame, 1));
        }
        for (int pid = 0; pid < 16; pid++) {
            Due.is("process(pid, 0)", 0, x.process(pid, 0));
            Due.is("process(pid, 1)", 0, x.process(pid, 1));
            Due.is("process(pid, 2)", PageKernel.NONE, x.process(pid, 2));
            Due.is("process(pid, 3)", 0, x.process(pid, 3));
            Due.is("process(pid, 4)", PageKernel.NONE, x.process(pid, 4));
        }
        for (int what = 0; what < 5; what++) {
            Due.is("told(what)", 0, x.told(what));
        }
        Due.is("current()", PageKernel.NONE, x.current());
        PageKernel y = new PageKernel();
        y.spawn();
        Due.is("freeFrames() of another object", 128, x.freeFrames());
    }

    private static void spawn() {
        Due.in("2 spawn");
        PageKernel x = spawned(3);
        Due.is("process(2, 0)", 1, x.process(2, 0));
        Due.is("process(2, 1)", 0, x.process(2, 1));
        Due.is("process(2, 2)", PageKernel.NONE, x.process(2, 2));
        Due.is("process(2, 4)", 2, x.process(2, 4));
        x.exit(1, 0);
        Due.is("spawn()", 1, x.spawn());
        Due.is("process(1, 4)", 2, x.process(1, 4));
        Due.is("process(2, 4)", 1, x.process(2, 4));
        x = spawned(1);
        Due.is("fork(0)", 1, x.fork(0));
        x.exit(1, 0);
        Due.is("spawn() beside a dead one", 2, x.spawn());
        for (int i = 3; i < 16; i++) {
            Due.is("spawn()", i, x.spawn());
        }
        Due.is("spawn() beside 15 live, one dead", PageKernel.NO_PROCESS, x.spawn());
        Due.is("told(3)", 0, x.told(3));
        x.reap(0);
        Due.is("spawn()", 1, x.spawn());
        x = leaving(0);
        Due.is("spawn()", PageKernel.NO_MEMORY, x.spawn());
        Due.is("process(0, 0)", 0, x.process(0, 0));
        Due.is("told(3)", 1, x.told(3));
        Due.is("current()", PageKernel.NONE, x.current());
        x = spawned(16);
        for (int order = 6; order >= 2; order--) {
            x.block(order);
        }
        Due.is("freeFrames()", 0, x.freeFrames());
        Due.is("spawn() without number and room", PageKernel.NO_PROCESS, x.spawn());
    }

    private static void spawnRecords() {
        Due.in("2 spawn, its records");
        PageKernel x = spawned(9);
        Due.is("about(0, 1)", 4, x.about(0, 1));
        Due.is("about(1, 1)", 4, x.about(1, 1));
        Due.is("about(2, 1)", 1, x.about(2, 1));
        Due.is("about(2, 0)", 1, x.about(2, 0));
        x.exit(6, 0);
        x.exit(1, 0);
        Due.is("spawn()", 1, x.spawn());
        Due.is("about(0, 1)", 4, x.about(0, 1));
        Due.is("about(1, 1)", 3, x.about(1, 1));
        Due.is("spawn()", 6, x.spawn());
        Due.is("about(1, 1)", 4, x.about(1, 1));
        Due.is("about(2, 1)", 1, x.about(2, 1));
        x.exit(8, 0);
        Due.is("about(2, 0)", 0, x.about(2, 0));
        for (int pid = 0; pid < 4; pid++) {
            x.exit(pid, 0);
        }
        Due.is("about(0, 0)", 0, x.about(0, 0));
        Due.is("about(1, 1)", 4, x.about(1, 1));
        Due.is("spawn()", 0, x.spawn());
        Due.is("about(0, 1)", 1, x.about(0, 1));
    }

    private static void fork() {
        Due.in("3 fork");
        PageKernel x = spawned(2);
        x.grow(1, 20);
        x.store(1, 70, 5);
        Due.is("fork(1)", 2, x.fork(1));
        Due.is("process(2, 0)", 1, x.process(2, 0));
        Due.is("process(2, 1)", 20, x.process(2, 1));
        Due.is("process(2, 2)", 1, x.process(2, 2));
        Due.is("process(2, 4)", 2, x.process(2, 4));
        Due.is("process(1, 3)", 1, x.process(1, 3));
        for (int page = 0; page < 20; page++) {
            int frame = x.frame(1, page);
            Due.is("frame(2, page)", frame, x.frame(2, page));
            Due.is("about(frame, 1)", 2, x.about(frame, 1));
        }
        Due.is("load(2, 70)", 5, x.load(2, 70));
        Due.is("fork(2)", 3, x.fork(2));
        Due.is("process(3, 2)", 2, x.process(3, 2));
        Due.is("about(frame(3, 0), 1)", 3, x.about(x.frame(3, 0), 1));
        x.exit(3, 0);
        Due.is("fork(3) of a dead one", PageKernel.BAD, x.fork(3));
        Due.is("fork(4) of none", PageKernel.BAD, x.fork(4));
        for (int pid : NO_NUMBERS) {
            Due.is("fork(no number)", PageKernel.BAD, x.fork(pid));
        }
        x = spawned(16);
        Due.is("fork(0)", PageKernel.NO_PROCESS, x.fork(0));
        Due.is("fork(16)", PageKernel.BAD, x.fork(16));
        x.exit(5, 0);
        Due.is("fork(5)", PageKernel.BAD, x.fork(5));
        Due.is("fork(0)", 5, x.fork(0));
        Due.is("told(3)", 0, x.told(3));
    }

    private static void forkTables() {
        Due.in("3 fork, its tables");
        PageKernel x = spawned(4);
        x.grow(0, 17);
        Due.is("about(1, 0)", 2, x.about(1, 0));
        Due.is("about(1, 1)", 2, x.about(1, 1));
        int before = x.freeFrames();
        Due.is("fork(0)", 4, x.fork(0));
        Due.is("freeFrames(): a record", before - 1, x.freeFrames());
        Due.is("about(1, 1)", 4, x.about(1, 1));
        Due.is("fork(0)", 5, x.fork(0));
        Due.is("freeFrames(): tables", before - 2, x.freeFrames());
        Due.is("about(1, 1)", 4, x.about(1, 1));
        x.exit(4, 0);
        Due.is("about(1, 1)", 2, x.about(1, 1));
        Due.is("freeFrames()", before - 2, x.freeFrames());
        x = spawned(4);
        x.grow(0, 64);
        int least = x.free(0, 1) >= 0 ? x.free(0, 1) : x.free(1, 1);
        x.fork(0);
        Due.is("about(least, 0): the record comes first", 1, x.about(least, 0));
        Due.is("about(least + 1, 0): then the tables", 2, x.about(least + 1, 0));
        Due.is("about(least + 1, 1)", 4, x.about(least + 1, 1));
        x = spawned(1);
        int frames = x.freeFrames();
        Due.is("fork(0) without pages", 1, x.fork(0));
        Due.is("freeFrames()", frames, x.freeFrames());
        x.grow(0, 16);
        frames = x.freeFrames();
        Due.is("fork(0) with 16 pages", 2, x.fork(0));
        Due.is("freeFrames()", frames, x.freeFrames());
        Due.is("about(1, 1)", 2, x.about(1, 1));
    }

    private static void forkWithoutMemory() {
        Due.in("3 fork, no memory");
        PageKernel x = spawned(4);
        Due.is("grow(0, 80)", 0, x.grow(0, 80));
        int first = x.frame(0, 0);
        while (x.freeFrames() > 2) {
            Due.that("block(0) found room", x.block(0) >= 0);
        }
        // A record's frame and one for tables fit: the fifth table is with that of the old ones.
        Due.is("fork(0)", 4, x.fork(0));
        Due.is("freeFrames()", 0, x.freeFrames());
        x.exit(4, 0);
        x.reap(0);
        Due.is("freeFrames()", 2, x.freeFrames());
        Due.that("block(0) found room", x.block(0) >= 0);
        Due.is("fork(0)", PageKernel.NO_MEMORY, x.fork(0));
        Due.is("freeFrames()", 1, x.freeFrames());
        Due.is("process(4, 0)", 0, x.process(4, 0));
        Due.is("process(4, 1)", 0, x.process(4, 1));
        Due.is("process(0, 3)", 0, x.process(0, 3));
        Due.is("process(4, 4)", PageKernel.NONE, x.process(4, 4));
        Due.is("about(first, 1)", 1, x.about(first, 1));
        Due.is("told(0)", 4, x.told(0));
        Due.is("told(3)", 1, x.told(3));
        // Three of the five tables found a place before memory ended, and must be back.
        int tables = 0;
        for (int frame = 0; frame < 128; frame++) {
            if (x.about(frame, 0) == 2) {
                tables += x.about(frame, 1);
            }
        }
        Due.is("tables in all", 5, tables);
        Due.that("block(0) found room", x.block(0) >= 0);
        Due.is("fork(0) without a record", PageKernel.NO_MEMORY, x.fork(0));
        Due.is("told(3)", 2, x.told(3));
        Due.is("fork(9)", PageKernel.BAD, x.fork(9));
    }

    private static void grow() {
        Due.in("4 grow");
        PageKernel x = spawned(2);
        Due.is("grow(0, 0)", 0, x.grow(0, 0));
        Due.is("freeFrames()", 127, x.freeFrames());
        Due.is("grow(0, 3)", 0, x.grow(0, 3));
        Due.is("grow(0, 2)", 3, x.grow(0, 2));
        Due.is("grow(0, 0)", 5, x.grow(0, 0));
        Due.is("process(0, 1)", 5, x.process(0, 1));
        Due.is("process(1, 1)", 0, x.process(1, 1));
        Due.is("grow(0, -4)", 5, x.grow(0, -4));
        Due.is("process(0, 1)", 1, x.process(0, 1));
        Due.is("grow(0, -2)", PageKernel.BAD, x.grow(0, -2));
        Due.is("grow(0, -1)", 1, x.grow(0, -1));
        Due.is("freeFrames()", 127, x.freeFrames());
        Due.is("grow(0, -1)", PageKernel.BAD, x.grow(0, -1));
        Due.is("grow(0, 257)", PageKernel.BAD, x.grow(0, 257));
        Due.is("told(3)", 0, x.told(3));
        Due.is("grow(0, 256)", PageKernel.NO_MEMORY, x.grow(0, 256));
        x.grow(0, 1);
        Due.is("grow(0, 256) from 1", PageKernel.BAD, x.grow(0, 256));
        Due.is("grow(0, 255) from 1", PageKernel.NO_MEMORY, x.grow(0, 255));
        Due.is("grow(0, most)", PageKernel.BAD, x.grow(0, Integer.MAX_VALUE));
        Due.is("grow(0, least)", PageKernel.BAD, x.grow(0, Integer.MIN_VALUE));
        Due.is("process(0, 1)", 1, x.process(0, 1));
        Due.is("told(3)", 2, x.told(3));
        Due.is("grow(2, 1) of none", PageKernel.BAD, x.grow(2, 1));
        Due.is("grow(2, 0) of none", PageKernel.BAD, x.grow(2, 0));
        x.fork(0);
        x.exit(2, 0);
        Due.is("grow(2, 0) of a dead one", PageKernel.BAD, x.grow(2, 0));
        for (int pid : NO_NUMBERS) {
            Due.is("grow(no number, 0)", PageKernel.BAD, x.grow(pid, 0));
        }
    }

    private static void growTables() {
        Due.in("4 grow, its tables");
        PageKernel x = spawned(1);
        x.grow(0, 17);
        Due.is("about(1, 0): the table comes first", 2, x.about(1, 0));
        for (int page = 0; page < 17; page++) {
            Due.is("frame(0, page)", 2 + page, x.frame(0, page));
        }
        Due.is("about(1, 1)", 2, x.about(1, 1));
        x.grow(0, -1);
        Due.is("about(1, 1)", 1, x.about(1, 1));
        x.grow(0, -15);
        Due.is("about(1, 1)", 1, x.about(1, 1));
        x.grow(0, -1);
        Due.is("about(1, 0)", 0, x.about(1, 0));
        x.grow(0, 64);
        Due.is("about(1, 1)", 4, x.about(1, 1));
        Due.is("frame(0, 63)", 65, x.frame(0, 63));
        x.grow(0, 1);
        Due.is("about(66, 0): a table's frame, then the page's", 2, x.about(66, 0));
        Due.is("frame(0, 64)", 67, x.frame(0, 64));
        x.fork(0);
        Due.is("grow(0, -65): shared frames stay", 65, x.grow(0, -65));
        Due.is("about(2, 0)", 3, x.about(2, 0));
        Due.is("about(2, 1)", 1, x.about(2, 1));
        Due.is("frame(1, 0)", 2, x.frame(1, 0));
    }

    private static void growWithoutMemory() {
        Due.in("4 grow, no memory");
        PageKernel x = spawned(1);
        // 1 frame of records: 127 = 120 pages and 2 frames for 8 tables, 5 more pages of them.
        Due.is("grow(0, 126)", PageKernel.NO_MEMORY, x.grow(0, 126));
        Due.is("process(0, 1)", 0, x.process(0, 1));
        Due.is("freeFrames()", 127, x.freeFrames());
        for (int order = 0; order < 7; order++) {
            Due.is("free(order, 0)", 1, x.free(order, 0));
            Due.is("free(order, 1)", 1 << order, x.free(order, 1));
        }
        Due.is("grow(0, 125)", 0, x.grow(0, 125));
        Due.is("freeFrames()", 0, x.freeFrames());
        Due.is("grow(0, 1)", PageKernel.NO_MEMORY, x.grow(0, 1));
        Due.is("grow(0, -125)", 125, x.grow(0, -125));
        Due.is("freeFrames()", 127, x.freeFrames());
        Due.is("told(3)", 2, x.told(3));
        x = leaving(2);
        x.spawn();
        Due.is("grow(0, 1): a table, but no frame", PageKernel.NO_MEMORY, x.grow(0, 1));
        Due.is("freeFrames()", 1, x.freeFrames());
        Due.is("about(127, 0)", 0, x.about(127, 0));
        Due.is("free(0, 1)", 127, x.free(0, 1));
        x = leaving(3);
        x.spawn();
        Due.is("grow(0, 1): both", 0, x.grow(0, 1));
        Due.is("has(0, 63)", true, x.has(0, 63));
        Due.is("grow(0, 1)", PageKernel.NO_MEMORY, x.grow(0, 1));
        Due.is("has(0, 64)", false, x.has(0, 64));
        Due.is("process(0, 1)", 1, x.process(0, 1));
    }

    private static void growClears() {
        Due.in("4 grow, words are 0");
        PageKernel x = spawned(1);
        x.grow(0, 2);
        for (int address = 0; address < 128; address++) {
            x.store(0, address, 1000 + address);
        }
        x.grow(0, -1);
        x.grow(0, 1);
        for (int address = 0; address < 128; address++) {
            Due.is("load(0, address)", address < 64 ? 1000 + address : 0, x.load(0, address));
        }
    }

    private static void load() {
        Due.in("5 load");
        PageKernel x = spawned(2);
        x.grow(0, 18);
        for (int page = 0; page < 18; page++) {
            x.store(0, 64 * page, page + 1);
            x.store(0, 64 * page + 63, -page - 1);
        }
        for (int page = 0; page < 18; page++) {
            Due.is("load(0, 64 * page)", page + 1, x.load(0, 64 * page));
            Due.is("load(0, 64 * page + 63)", -page - 1, x.load(0, 64 * page + 63));
            Due.is("load(0, 64 * page + 1)", 0, x.load(0, 64 * page + 1));
        }
        Due.is("load(0, 64 * 18)", 0, x.load(0, 64 * 18));
        Due.is("load(1, 0)", 0, x.load(1, 0));
        Due.is("load(2, 0)", 0, x.load(2, 0));
        for (int address : NO_ADDRESSES) {
            Due.is("load(0, no address)", 0, x.load(0, address));
        }
        x.store(0, 0, 9);
        for (int pid : NO_NUMBERS) {
            Due.is("load(no number, 0)", 0, x.load(pid, 0));
        }
        x.fork(0);
        Due.is("load(2, 0)", 9, x.load(2, 0));
        x.exit(2, 0);
        Due.is("load(2, 0) of a dead one", 0, x.load(2, 0));
        x.grow(0, -18);
        Due.is("load(0, 0) without pages", 0, x.load(0, 0));
    }

    private static void has() {
        Due.in("6 has");
        PageKernel x = spawned(2);
        Due.is("has(0, 0)", false, x.has(0, 0));
        x.grow(0, 2);
        Due.is("has(0, 0)", true, x.has(0, 0));
        Due.is("has(0, 127)", true, x.has(0, 127));
        Due.is("has(0, 128)", false, x.has(0, 128));
        Due.is("has(1, 0)", false, x.has(1, 0));
        Due.is("has(2, 0)", false, x.has(2, 0));
        for (int address : NO_ADDRESSES) {
            Due.is("has(0, no address)", false, x.has(0, address));
        }
        for (int pid : NO_NUMBERS) {
            Due.is("has(no number, 0)", false, x.has(pid, 0));
        }
        x.fork(0);
        Due.is("has(2, 127)", true, x.has(2, 127));
        x.exit(2, 0);
        Due.is("has(2, 0) of a dead one", false, x.has(2, 0));
        x.grow(0, -1);
        Due.is("has(0, 63)", true, x.has(0, 63));
        Due.is("has(0, 64)", false, x.has(0, 64));
    }

    private static void store() {
        Due.in("7 store");
        PageKernel x = spawned(2);
        Due.is("store(0, 0, 1) without pages", PageKernel.FAULT, x.store(0, 0, 1));
        x.grow(0, 1);
        Due.is("store(0, 0, most)", 0, x.store(0, 0, Integer.MAX_VALUE));
        Due.is("store(0, 63, least)", 0, x.store(0, 63, Integer.MIN_VALUE));
        Due.is("load(0, 0)", Integer.MAX_VALUE, x.load(0, 0));
        Due.is("load(0, 63)", Integer.MIN_VALUE, x.load(0, 63));
        Due.is("store(0, 64, 1)", PageKernel.FAULT, x.store(0, 64, 1));
        for (int address : NO_ADDRESSES) {
            Due.is("store(0, no address, 1)", PageKernel.FAULT, x.store(0, address, 1));
            Due.is("store(2, no address, 1)", PageKernel.BAD, x.store(2, address, 1));
        }
        Due.is("store(2, 0, 1) of none", PageKernel.BAD, x.store(2, 0, 1));
        for (int pid : NO_NUMBERS) {
            Due.is("store(no number, 0, 1)", PageKernel.BAD, x.store(pid, 0, 1));
        }
        x.fork(0);
        x.exit(2, 0);
        Due.is("store(2, 0, 1) of a dead one", PageKernel.BAD, x.store(2, 0, 1));
        Due.is("load(0, 0)", Integer.MAX_VALUE, x.load(0, 0));
        Due.is("told(2)", 0, x.told(2));
    }

    private static void storeCopies() {
        Due.in("7 store, copies");
        PageKernel x = spawned(1);
        x.grow(0, 2);
        for (int address = 0; address < 128; address++) {
            x.store(0, address, address);
        }
        x.fork(0);
        x.fork(0);
        int shared = x.frame(0, 1);
        int frames = x.freeFrames();
        Due.is("store(0, 64, 64): the same word", 0, x.store(0, 64, 64));
        Due.is("freeFrames()", frames - 1, x.freeFrames());
        int own = x.frame(0, 1);
        Due.that("frame(0, 1) is another one", own != shared);
        Due.is("frame(1, 1)", shared, x.frame(1, 1));
        Due.is("frame(0, 0)", x.frame(1, 0), x.frame(0, 0));
        Due.is("about(shared, 1)", 2, x.about(shared, 1));
        Due.is("about(own, 0)", 3, x.about(own, 0));
        Due.is("about(own, 1)", 1, x.about(own, 1));
        for (int address = 0; address < 128; address++) {
            Due.is("load(0, address)", address, x.load(0, address));
        }
        Due.is("store(0, 65, -1): its own", 0, x.store(0, 65, -1));
        Due.is("frame(0, 1)", own, x.frame(0, 1));
        Due.is("load(1, 65)", 65, x.load(1, 65));
        Due.is("told(2)", 1, x.told(2));
        Due.is("store(2, 65, -2)", 0, x.store(2, 65, -2));
        Due.is("told(2)", 2, x.told(2));
        Due.is("about(shared, 1)", 1, x.about(shared, 1));
        Due.is("store(1, 65, -3): alone now", 0, x.store(1, 65, -3));
        Due.is("frame(1, 1)", shared, x.frame(1, 1));
        Due.is("told(2)", 2, x.told(2));
        Due.is("load(0, 65)", -1, x.load(0, 65));
        Due.is("load(1, 65)", -3, x.load(1, 65));
        Due.is("load(2, 65)", -2, x.load(2, 65));
    }

    private static void storeWithoutMemory() {
        Due.in("7 store, no memory");
        PageKernel x = leaving(3);
        x.spawn();
        x.grow(0, 1);
        x.store(0, 1, 5);
        x.fork(0);
        Due.is("store(1, 1, 6)", PageKernel.NO_MEMORY, x.store(1, 1, 6));
        Due.is("load(0, 1)", 5, x.load(0, 1));
        Due.is("load(1, 1)", 5, x.load(1, 1));
        Due.is("frame(1, 0)", x.frame(0, 0), x.frame(1, 0));
        Due.is("about(frame, 1)", 2, x.about(x.frame(0, 0), 1));
        Due.is("told(2)", 0, x.told(2));
        Due.is("told(3)", 1, x.told(3));
        Due.is("store(1, 64, 6)", PageKernel.FAULT, x.store(1, 64, 6));
        x.exit(1, 0);
        Due.is("store(0, 1, 7): alone", 0, x.store(0, 1, 7));
        Due.is("load(0, 1)", 7, x.load(0, 1));
    }

    private static void exit() {
        Due.in("8 exit");
        PageKernel x = spawned(3);
        x.grow(1, 40);
        Due.is("exit(1, 7)", 0, x.exit(1, 7));
        Due.is("process(1, 0): without a parent it is gone", 0, x.process(1, 0));
        Due.is("process(1, 1)", 0, x.process(1, 1));
        Due.is("process(1, 4)", PageKernel.NONE, x.process(1, 4));
        Due.is("process(2, 4)", 1, x.process(2, 4));
        Due.is("freeFrames()", 127, x.freeFrames());
        Due.is("about(0, 1)", 2, x.about(0, 1));
        Due.is("exit(1, 7) again", PageKernel.BAD, x.exit(1, 7));
        x.grow(0, 2);
        Due.is("fork(0)", 1, x.fork(0));
        x.grow(1, 1);
        int frames = x.freeFrames();
        Due.is("exit(1, 7)", 0, x.exit(1, 7));
        Due.is("process(1, 0)", 2, x.process(1, 0));
        Due.is("process(1, 1)", 0, x.process(1, 1));
        Due.is("process(1, 2)", 0, x.process(1, 2));
        Due.is("process(1, 4)", PageKernel.NONE, x.process(1, 4));
        Due.is("about(0, 1): it keeps its record", 3, x.about(0, 1));
        Due.is("freeFrames(): the third page", frames + 1, x.freeFrames());
        Due.is("about(frame(0, 0), 1)", 1, x.about(x.frame(0, 0), 1));
        Due.is("exit(1, 8) of a dead one", PageKernel.BAD, x.exit(1, 8));
        Due.is("reap(0): the first code", 256 + 7, x.reap(0));
        Due.is("exit(5, 0) of none", PageKernel.BAD, x.exit(5, 0));
        for (int pid : NO_NUMBERS) {
            Due.is("exit(no number, 0)", PageKernel.BAD, x.exit(pid, 0));
        }
        Due.is("exit(0, 0)", 0, x.exit(0, 0));
        Due.is("exit(2, 0)", 0, x.exit(2, 0));
        Due.is("freeFrames()", 128, x.freeFrames());
        Due.is("free(7, 0)", 1, x.free(7, 0));
        Due.is("current()", PageKernel.NONE, x.current());
    }

    private static void exitChildren() {
        Due.in("8 exit, children");
        PageKernel x = spawned(1);
        for (int child = 1; child < 6; child++) {
            Due.is("fork(0)", child, x.fork(0));
        }
        Due.is("fork(1)", 6, x.fork(1));
        x.exit(2, 1);
        x.exit(4, 1);
        Due.is("about(0, 1)", 4, x.about(0, 1));
        Due.is("about(1, 1)", 3, x.about(1, 1));
        Due.is("exit(0, 0)", 0, x.exit(0, 0));
        Due.is("process(2, 0): dead ones are gone", 0, x.process(2, 0));
        Due.is("process(4, 0)", 0, x.process(4, 0));
        Due.is("about(0, 1)", 2, x.about(0, 1));
        Due.is("about(1, 1)", 2, x.about(1, 1));
        Due.is("told(1)", 0, x.told(1));
        for (int child = 1; child < 6; child += 2) {
            Due.is("process(child, 0)", 1, x.process(child, 0));
            Due.is("process(child, 2)", PageKernel.NONE, x.process(child, 2));
        }
        Due.is("process(6, 2): a grandchild keeps its parent", 1, x.process(6, 2));
        Due.is("spawn() has the number 0", 0, x.spawn());
        Due.is("process(0, 3)", 0, x.process(0, 3));
        Due.is("exit(3, 0): gone at once", 0, x.exit(3, 0));
        Due.is("process(3, 0)", 0, x.process(3, 0));
        Due.is("exit(6, 3)", 0, x.exit(6, 3));
        Due.is("process(6, 0)", 2, x.process(6, 0));
    }

    private static void reap() {
        Due.in("9 reap");
        PageKernel x = spawned(2);
        Due.is("reap(0)", PageKernel.NO_CHILD, x.reap(0));
        for (int child = 2; child < 6; child++) {
            Due.is("fork(0)", child, x.fork(0));
        }
        Due.is("reap(0)", PageKernel.WAITS, x.reap(0));
        Due.is("reap(1)", PageKernel.NO_CHILD, x.reap(1));
        x.exit(5, 255);
        x.exit(4, -256);
        x.exit(2, 0x12345);
        int records = x.about(0, 1) + x.about(1, 1);
        Due.is("reap(0)", 2 * 256 + 0x45, x.reap(0));
        Due.is("process(2, 0)", 0, x.process(2, 0));
        Due.is("process(2, 2)", PageKernel.NONE, x.process(2, 2));
        Due.is("records", records - 1, x.about(0, 1) + x.about(1, 1));
        Due.is("reap(0)", 4 * 256, x.reap(0));
        Due.is("about(1, 0): its last record", 1, x.about(1, 0));
        Due.is("reap(1)", PageKernel.NO_CHILD, x.reap(1));
        Due.is("reap(0)", 5 * 256 + 255, x.reap(0));
        Due.is("about(1, 0)", 0, x.about(1, 0));
        Due.is("reap(0)", PageKernel.WAITS, x.reap(0));
        x.exit(3, -1);
        Due.is("reap(3) of a dead one", PageKernel.BAD, x.reap(3));
        Due.is("reap(0)", 3 * 256 + 255, x.reap(0));
        Due.is("reap(0)", PageKernel.NO_CHILD, x.reap(0));
        Due.is("reap(9) of none", PageKernel.BAD, x.reap(9));
        for (int pid : NO_NUMBERS) {
            Due.is("reap(no number)", PageKernel.BAD, x.reap(pid));
        }
    }

    private static void tick() {
        Due.in("10 tick");
        PageKernel x = new PageKernel();
        Due.is("tick()", PageKernel.NONE, x.tick());
        x.spawn();
        Due.is("tick() with one", 0, x.tick());
        x.spawn();
        x.spawn();
        Due.is("tick()", 1, x.tick());
        Due.is("process(0, 4)", 2, x.process(0, 4));
        x.spawn();
        Due.is("process(3, 4)", 3, x.process(3, 4));
        Due.is("tick()", 2, x.tick());
        Due.is("tick()", 0, x.tick());
        Due.is("tick()", 3, x.tick());
        Due.is("tick()", 1, x.tick());
        x.exit(2, 0);
        Due.is("tick()", 0, x.tick());
        x.fork(3);
        x.exit(2, 0);
        Due.is("tick(): the dead take no turns", 3, x.tick());
        Due.is("tick()", 1, x.tick());
        Due.is("tick()", 0, x.tick());
        Due.is("told(4)", 10, x.told(4));
        x = spawned(16);
        for (int i = 1; i <= 32; i++) {
            Due.is("tick() with 16", i % 16, x.tick());
        }
    }

    private static void current() {
        Due.in("11 current");
        PageKernel x = new PageKernel();
        Due.is("current()", PageKernel.NONE, x.current());
        x.spawn();
        x.spawn();
        x.spawn();
        Due.is("current()", 0, x.current());
        Due.is("current() again", 0, x.current());
        x.exit(0, 0);
        Due.is("current()", 1, x.current());
        x.tick();
        Due.is("current()", 2, x.current());
        x.exit(1, 0);
        Due.is("current()", 2, x.current());
        x.exit(2, 0);
        Due.is("current()", PageKernel.NONE, x.current());
        Due.is("told(4)", 1, x.told(4));
    }

    private static void block() {
        Due.in("12 block");
        for (int order = 0; order <= 7; order++) {
            PageKernel x = new PageKernel();
            int many = 128 >> order;
            for (int i = 0; i < many; i++) {
                Due.is("block(order)", i << order, x.block(order));
            }
            Due.is("freeFrames()", 0, x.freeFrames());
            Due.is("block(order)", PageKernel.NO_MEMORY, x.block(order));
            Due.is("block(0)", PageKernel.NO_MEMORY, x.block(0));
            Due.is("told(3)", 2, x.told(3));
            for (int wrong : new int[] {-1, 8, 31, 32, 39, Integer.MIN_VALUE, Integer.MAX_VALUE}) {
                Due.is("block(no order)", PageKernel.BAD, x.block(wrong));
            }
            Due.is("told(3)", 2, x.told(3));
        }
        PageKernel x = new PageKernel();
        x.block(0);
        Due.is("block(7)", PageKernel.NO_MEMORY, x.block(7));
        Due.is("freeFrames()", 127, x.freeFrames());
        Due.is("block(6)", 64, x.block(6));
        Due.is("block(6)", PageKernel.NO_MEMORY, x.block(6));
        Due.is("block(2)", 4, x.block(2));
        Due.is("block(2)", 8, x.block(2));
        Due.is("block(0)", 1, x.block(0));
        Due.is("block(0)", 2, x.block(0));
    }

    private static void blockLeast() {
        Due.in("12 block, the least order and frame");
        PageKernel x = new PageKernel();
        for (int i = 0; i < 16; i++) {
            Due.is("block(3)", 8 * i, x.block(3));
        }
        x.unblock(8);
        x.unblock(16);
        x.unblock(24);
        x.unblock(96);
        Due.is("free(4, 1)", 16, x.free(4, 1));
        Due.is("block(3): a least order before a least frame", 8, x.block(3));
        Due.is("block(3)", 96, x.block(3));
        Due.is("block(3): halved", 16, x.block(3));
        Due.is("free(3, 1): the upper half", 24, x.free(3, 1));
        x.unblock(112);
        x.unblock(64);
        Due.is("free(3, 0)", 3, x.free(3, 0));
        Due.is("block(1)", 24, x.block(1));
        Due.is("free(1, 1)", 26, x.free(1, 1));
        Due.is("free(2, 1)", 28, x.free(2, 1));
        Due.is("block(2)", 28, x.block(2));
        Due.is("block(2)", 64, x.block(2));
    }

    private static void unblock() {
        Due.in("13 unblock");
        PageKernel x = new PageKernel();
        for (int wrong : new int[] {-1, 0, 1, 127, 128, 129, Integer.MIN_VALUE, Integer.MAX_VALUE}) {
            Due.is("unblock(none)", PageKernel.BAD, x.unblock(wrong));
        }
        Due.is("block(7)", 0, x.block(7));
        Due.is("unblock(64)", PageKernel.BAD, x.unblock(64));
        Due.is("unblock(0)", 7, x.unblock(0));
        Due.is("unblock(0) again", PageKernel.BAD, x.unblock(0));
        Due.is("free(7, 0)", 1, x.free(7, 0));
        Due.is("block(2)", 0, x.block(2));
        Due.is("block(2)", 4, x.block(2));
        Due.is("block(2)", 8, x.block(2));
        Due.is("unblock(2) inside one", PageKernel.BAD, x.unblock(2));
        Due.is("unblock(4)", 2, x.unblock(4));
        Due.is("free(2, 0): 4 and 12 are no buddies", 2, x.free(2, 0));
        Due.is("free(2, 1)", 4, x.free(2, 1));
        Due.is("unblock(0)", 2, x.unblock(0));
        Due.is("free(2, 0)", 1, x.free(2, 0));
        Due.is("free(2, 1)", 12, x.free(2, 1));
        Due.is("free(3, 0)", 1, x.free(3, 0));
        Due.is("free(3, 1)", 0, x.free(3, 1));
        Due.is("block(1)", 12, x.block(1));
        Due.is("unblock(8): its buddy is halved", 2, x.unblock(8));
        Due.is("free(2, 1)", 8, x.free(2, 1));
        Due.is("free(1, 1)", 14, x.free(1, 1));
        Due.is("unblock(12)", 1, x.unblock(12));
        Due.is("free(7, 1)", 0, x.free(7, 1));
        x.spawn();
        x.grow(0, 1);
        for (int frame = 0; frame < 4; frame++) {
            Due.is("unblock(not the kernel's)", PageKernel.BAD, x.unblock(frame));
        }
        Due.is("load(0, 0)", 0, x.load(0, 0));
        x = new PageKernel();
        Due.is("block(2)", 0, x.block(2));
        Due.is("block(1)", 4, x.block(1));
        Due.is("block(1)", 6, x.block(1));
        x.unblock(4);
        Due.is("unblock(0): only half of its buddy is free", 2, x.unblock(0));
        Due.is("free(1, 1)", 4, x.free(1, 1));
        Due.is("free(2, 1)", 0, x.free(2, 1));
        Due.is("free(3, 1)", 8, x.free(3, 1));
        Due.is("unblock(6)", 1, x.unblock(6));
        Due.is("free(7, 0)", 1, x.free(7, 0));
    }

    private static void freeFrames() {
        Due.in("14 freeFrames");
        PageKernel x = new PageKernel();
        Due.is("freeFrames()", 128, x.freeFrames());
        x.block(5);
        Due.is("freeFrames()", 96, x.freeFrames());
        x.block(0);
        Due.is("freeFrames()", 95, x.freeFrames());
        x.spawn();
        x.grow(0, 17);
        Due.is("freeFrames()", 95 - 1 - 1 - 17, x.freeFrames());
        x.unblock(0);
        Due.is("freeFrames()", 127 - 19, x.freeFrames());
        x.exit(0, 0);
        Due.is("freeFrames()", 127, x.freeFrames());
        x = new PageKernel();
        x.block(7);
        Due.is("freeFrames()", 0, x.freeFrames());
    }

    private static void free() {
        Due.in("15 free");
        PageKernel x = new PageKernel();
        x.block(0);
        x.block(1);
        Due.is("free(0, 0)", 1, x.free(0, 0));
        Due.is("free(0, 1)", 1, x.free(0, 1));
        Due.is("free(1, 0)", 0, x.free(1, 0));
        Due.is("free(1, 1)", PageKernel.NONE, x.free(1, 1));
        Due.is("free(6, 0)", 1, x.free(6, 0));
        Due.is("free(6, 1)", 64, x.free(6, 1));
        Due.is("free(7, 0)", 0, x.free(7, 0));
        Due.is("free(7, 1)", PageKernel.NONE, x.free(7, 1));
        for (int wrong : new int[] {-1, 8, 32, 33, Integer.MIN_VALUE, Integer.MAX_VALUE}) {
            Due.is("free(no order, 0)", PageKernel.BAD, x.free(wrong, 0));
            Due.is("free(no order, 1)", PageKernel.BAD, x.free(wrong, 1));
        }
        for (int wrong : new int[] {-1, 2, Integer.MIN_VALUE, Integer.MAX_VALUE}) {
            Due.is("free(0, no what)", PageKernel.BAD, x.free(0, wrong));
            Due.is("free(7, no what)", PageKernel.BAD, x.free(7, wrong));
        }
        x = new PageKernel();
        for (int i = 0; i < 128; i++) {
            x.block(0);
        }
        for (int i = 127; i > 0; i -= 2) {
            x.unblock(i);
            Due.is("free(0, 1)", i, x.free(0, 1));
        }
        Due.is("free(0, 0)", 64, x.free(0, 0));
        Due.is("free(1, 0)", 0, x.free(1, 0));
    }

    private static void frame() {
        Due.in("16 frame");
        PageKernel x = spawned(2);
        Due.is("frame(0, 0)", PageKernel.NONE, x.frame(0, 0));
        x.grow(0, 1);
        x.grow(1, 1);
        x.grow(0, 1);
        Due.is("frame(0, 0)", 2, x.frame(0, 0));
        Due.is("frame(1, 0)", 3, x.frame(1, 0));
        Due.is("frame(0, 1)", 4, x.frame(0, 1));
        for (int page : new int[] {-1, 2, 16, 255, 256, Integer.MIN_VALUE, Integer.MAX_VALUE}) {
            Due.is("frame(0, no page)", PageKernel.NONE, x.frame(0, page));
        }
        for (int pid : NO_NUMBERS) {
            Due.is("frame(no number, 0)", PageKernel.NONE, x.frame(pid, 0));
        }
        Due.is("frame(5, 0)", PageKernel.NONE, x.frame(5, 0));
        x.fork(0);
        Due.is("frame(2, 1)", 4, x.frame(2, 1));
        x.exit(2, 0);
        Due.is("frame(2, 1) of a dead one", PageKernel.NONE, x.frame(2, 1));
        x.grow(0, -1);
        Due.is("frame(0, 1)", PageKernel.NONE, x.frame(0, 1));
        Due.is("frame(0, 0)", 2, x.frame(0, 0));
    }

    private static void about() {
        Due.in("17 about");
        PageKernel x = spawned(2);
        x.block(2);
        x.grow(1, 1);
        x.fork(1);
        // 0: records, 1: tables, 2: the page, 3: free, 4 .. 7: the kernel's
        int[] kinds = {1, 2, 3, 0, 4, 4, 4, 4, 0};
        int[] counts = {3, 2, 2, 0, 0, 0, 0, 0, 0};
        for (int frame = 0; frame < kinds.length; frame++) {
            Due.is("about(frame, 0)", kinds[frame], x.about(frame, 0));
            Due.is("about(frame, 1)", counts[frame], x.about(frame, 1));
        }
        Due.is("about(127, 0)", 0, x.about(127, 0));
        for (int wrong : new int[] {-1, 128, Integer.MIN_VALUE, Integer.MAX_VALUE}) {
            Due.is("about(no frame, 0)", PageKernel.BAD, x.about(wrong, 0));
            Due.is("about(no frame, 1)", PageKernel.BAD, x.about(wrong, 1));
        }
        for (int wrong : new int[] {-1, 2, 3, Integer.MIN_VALUE, Integer.MAX_VALUE}) {
            Due.is("about(0, no what)", PageKernel.BAD, x.about(0, wrong));
        }
        x.unblock(4);
        Due.is("about(4, 0)", 0, x.about(4, 0));
        x = new PageKernel();
        x.block(7);
        for (int frame = 0; frame < 128; frame++) {
            Due.is("about(frame, 0) in one of order 7", 4, x.about(frame, 0));
            Due.is("about(frame, 1)", 0, x.about(frame, 1));
        }
    }

    private static void process() {
        Due.in("18 process");
        PageKernel x = spawned(2);
        x.grow(1, 3);
        x.fork(1);
        x.fork(1);
        x.fork(2);
        x.exit(3, 1);
        // state, BREAK, PARENT, children, place in THE ROW
        int[][] due = {{1, 0, -1, 0, 0}, {1, 3, -1, 2, 1}, {1, 3, 1, 1, 2}, {2, 0, 1, 0, -1}, {1, 3, 2, 0, 3},
            {0, 0, -1, 0, -1}};
        for (int pid = 0; pid < due.length; pid++) {
            for (int what = 0; what < 5; what++) {
                Due.is("process(" + pid + ", " + what + ")", due[pid][what], x.process(pid, what));
            }
        }
        for (int pid : NO_NUMBERS) {
            for (int what = 0; what < 5; what++) {
                Due.is("process(no number, what)", PageKernel.BAD, x.process(pid, what));
            }
        }
        for (int wrong : new int[] {-1, 5, 6, Integer.MIN_VALUE, Integer.MAX_VALUE}) {
            Due.is("process(0, no what)", PageKernel.BAD, x.process(0, wrong));
            Due.is("process(9, no what)", PageKernel.BAD, x.process(9, wrong));
        }
        x.reap(1);
        Due.is("process(1, 3)", 1, x.process(1, 3));
        x.exit(1, 0);
        Due.is("process(2, 2)", PageKernel.NONE, x.process(2, 2));
        Due.is("process(2, 3)", 1, x.process(2, 3));
    }

    private static void processRow() {
        Due.in("18 process, THE ROW");
        PageKernel x = spawned(16);
        for (int i = 0; i < 5; i++) {
            x.tick();
        }
        for (int pid = 0; pid < 16; pid++) {
            Due.is("process(pid, 4)", (pid + 11) % 16, x.process(pid, 4));
        }
        x.exit(7, 0);
        Due.is("process(6, 4)", 1, x.process(6, 4));
        Due.is("process(7, 4)", PageKernel.NONE, x.process(7, 4));
        Due.is("process(8, 4)", 2, x.process(8, 4));
        Due.is("process(4, 4)", 14, x.process(4, 4));
    }

    private static void told() {
        Due.in("19 told");
        PageKernel x = spawned(3);
        x.grow(0, 2);
        x.fork(0);
        x.fork(0);
        x.exit(4, 0);
        x.store(3, 0, 1);
        x.store(3, 64, 1);
        x.store(0, 0, 1);
        x.tick();
        x.tick();
        x.tick();
        x.block(7);
        x.grow(0, 200);
        x.grow(0, 255);
        int[] due = {4, 1, 2, 2, 3};
        for (int what = 0; what < due.length; what++) {
            Due.is("told(" + what + ")", due[what], x.told(what));
        }
        for (int wrong : new int[] {-1, 5, 6, Integer.MIN_VALUE, Integer.MAX_VALUE}) {
            Due.is("told(no what)", PageKernel.BAD, x.told(wrong));
        }
        x.exit(0, 0);
        Due.is("told(0)", 3, x.told(0));
        Due.is("told(1)", 0, x.told(1));
        x.exit(1, 0);
        x.exit(2, 0);
        x.exit(3, 0);
        Due.is("tick()", PageKernel.NONE, x.tick());
        Due.is("told(0)", 0, x.told(0));
        Due.is("told(4)", 3, x.told(4));
        Due.is("told(2): what has been", 2, x.told(2));
    }
}
