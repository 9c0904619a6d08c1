/**
 * A small kernel: frames in blocks that are halved and joined, records and
 * tables side by side in frames, pages that processes share till one of them
 * writes, and a row in which the processes take turns.
 */
public final class PageKernel {
    public static final int NONE = -1;
    public static final int BAD = -2;
    public static final int NO_MEMORY = -3;
    public static final int NO_PROCESS = -4;
    public static final int FAULT = -5;
    public static final int NO_CHILD = -6;
    public static final int WAITS = -7;

    private static final int FRAMES = 128;
    private static final int FRAME_WORDS = 64;
    private static final int TOP_ORDER = 7;
    private static final int PLACES = 4;
    private static final int ALL_PLACES = 15;
    private static final int PLACE_WORDS = 16;
    private static final int TABLE_PAGES = 16;
    private static final int MOST_PAGES = 256;
    private static final int PROCESSES = 16;

    private static final int NOT_THERE = 0;
    private static final int LIVE = 1;
    private static final int DEAD = 2;

    private static final int IS_FREE = 0;
    private static final int FOR_RECORDS = 1;
    private static final int FOR_TABLES = 2;
    private static final int OF_A_PAGE = 3;
    private static final int OF_THE_KERNEL = 4;

    private final Blocks blocks;
    private final Places records;
    private final Places tables;

    // A record's words are the places of its tables, a table's words are the
    // frames of its pages: so they need no room beside that of the frames.
    private final int[] words;
    private final int[] sharers;
    private final int[] kernelOrder;

    private final int[] states;
    private final int[] parents;
    private final int[] codes;
    private final int[] breaks;
    private final int[] recordPlaces;
    private final int[] row;
    private int rowLength;

    private int copies;
    private int refusals;
    private int turns;

    public PageKernel() {
        blocks = new Blocks();
        records = new Places(blocks);
        tables = new Places(blocks);
        words = new int[FRAMES * FRAME_WORDS];
        sharers = new int[FRAMES];
        kernelOrder = new int[FRAMES];
        for (int i = 0; i < FRAMES; i++) {
            kernelOrder[i] = NONE;
        }
        states = new int[PROCESSES];
        parents = new int[PROCESSES];
        codes = new int[PROCESSES];
        breaks = new int[PROCESSES];
        recordPlaces = new int[PROCESSES];
        row = new int[PROCESSES];
        for (int i = 0; i < PROCESSES; i++) {
            states[i] = NOT_THERE;
            parents[i] = NONE;
        }
    }

    public int spawn() {
        return makeProcess(NONE);
    }

    public int fork(int pid) {
        return isLive(pid) ? makeProcess(pid) : BAD;
    }

    public int grow(int pid, int n) {
        if (!isLive(pid)) {
            return BAD;
        }
        int before = breaks[pid];
        // Compared with n alone, since before + n may wrap around.
        if (n < -before || n > MOST_PAGES - before) {
            return BAD;
        }
        int after = before + n;
        for (int page = before; page < after; page++) {
            if (!addPage(pid, page)) {
                shrinkTo(pid, before);
                return refuse();
            }
        }
        shrinkTo(pid, after);
        return before;
    }

    public int load(int pid, int address) {
        if (!hasPage(pid, pageOf(address))) {
            return 0;
        }
        return wordAt(wordIndex(pid, address));
    }

    public boolean has(int pid, int address) {
        return hasPage(pid, pageOf(address));
    }

    public int store(int pid, int address, int v) {
        if (!isLive(pid)) {
            return BAD;
        }
        if (!hasPage(pid, pageOf(address))) {
            return FAULT;
        }
        if (!ownPage(pid, pageOf(address))) {
            return refuse();
        }
        setWord(wordIndex(pid, address), v);
        return 0;
    }

    public int exit(int pid, int code) {
        if (!isLive(pid)) {
            return BAD;
        }
        leaveRow(pid);
        shrinkTo(pid, 0);
        leaveChildren(pid);
        if (parents[pid] == NONE) {
            removeProcess(pid);
        } else {
            states[pid] = DEAD;
            codes[pid] = code;
        }
        return 0;
    }

    public int reap(int pid) {
        if (!isLive(pid)) {
            return BAD;
        }
        if (childrenOf(pid) == 0) {
            return NO_CHILD;
        }
        for (int child = 0; child < PROCESSES; child++) {
            if (parents[child] == pid && states[child] == DEAD) {
                removeProcess(child);
                return 256 * child + (codes[child] & 255);
            }
        }
        return WAITS;
    }

    public int tick() {
        if (rowLength == 0) {
            return NONE;
        }
        int first = row[0];
        leaveRow(first);
        joinRow(first);
        turns++;
        return row[0];
    }

    public int current() {
        return rowLength == 0 ? NONE : row[0];
    }

    public int block(int order) {
        if (!isOrder(order)) {
            return BAD;
        }
        int first = blocks.takeBlock(order);
        if (!isFrame(first)) {
            return refuse();
        }
        kernelOrder[first] = order;
        return first;
    }

    public int unblock(int frame) {
        if (!isFrame(frame) || kernelOrder[frame] == NONE) {
            return BAD;
        }
        int order = kernelOrder[frame];
        kernelOrder[frame] = NONE;
        blocks.giveBlock(frame, order);
        return order;
    }

    public int freeFrames() {
        int sum = 0;
        for (int order = 0; order <= TOP_ORDER; order++) {
            sum += blocks.countOf(order) << order;
        }
        return sum;
    }

    public int free(int order, int what) {
        if (!isOrder(order)) {
            return BAD;
        }
        switch (what) {
            case 0:
                return blocks.countOf(order);
            case 1:
                return blocks.leastOf(order);
            default:
                return BAD;
        }
    }

    public int frame(int pid, int page) {
        return frameOfPage(pid, page);
    }

    public int about(int frame, int what) {
        if (!isFrame(frame)) {
            return BAD;
        }
        switch (what) {
            case 0:
                return kindOf(frame);
            case 1:
                // A frame is of one sort only, so the other two add nothing.
                return records.countIn(frame) + tables.countIn(frame) + sharers[frame];
            default:
                return BAD;
        }
    }

    public int process(int pid, int what) {
        if (!isNumber(pid)) {
            return BAD;
        }
        switch (what) {
            case 0:
                return states[pid];
            case 1:
                return breaks[pid];
            case 2:
                return parents[pid];
            case 3:
                return childrenOf(pid);
            case 4:
                return placeInRow(pid);
            default:
                return BAD;
        }
    }

    public int told(int what) {
        switch (what) {
            case 0:
                return countInState(LIVE);
            case 1:
                return countInState(DEAD);
            case 2:
                return copies;
            case 3:
                return refusals;
            case 4:
                return turns;
            default:
                return BAD;
        }
    }

    private static boolean isFrame(int frame) {
        return frame >= 0 && frame < FRAMES;
    }

    private static boolean isOrder(int order) {
        return order >= 0 && order <= TOP_ORDER;
    }

    private static boolean isNumber(int pid) {
        return pid >= 0 && pid < PROCESSES;
    }

    private boolean isLive(int pid) {
        return isNumber(pid) && states[pid] == LIVE;
    }

    private boolean hasPage(int pid, int page) {
        return isLive(pid) && page >= 0 && page < breaks[pid];
    }

    private int refuse() {
        refusals++;
        return NO_MEMORY;
    }

    // ---- processes

    /** A new process, with the pages of from unless that is NONE. */
    private int makeProcess(int from) {
        int pid = leastUnused();
        if (!isNumber(pid)) {
            return NO_PROCESS;
        }
        int place = records.takePlace();
        if (place == NONE) {
            return refuse();
        }
        recordPlaces[pid] = place;
        if (isLive(from)) {
            if (!takeTables(pid, breaks[from])) {
                records.givePlace(place);
                return refuse();
            }
            sharePages(from, pid);
        }
        states[pid] = LIVE;
        parents[pid] = from;
        joinRow(pid);
        return pid;
    }

    private void removeProcess(int pid) {
        records.givePlace(recordPlaces[pid]);
        states[pid] = NOT_THERE;
        parents[pid] = NONE;
    }

    private int leastUnused() {
        for (int pid = 0; pid < PROCESSES; pid++) {
            if (states[pid] == NOT_THERE) {
                return pid;
            }
        }
        return NONE;
    }

    private int countInState(int state) {
        int count = 0;
        for (int pid = 0; pid < PROCESSES; pid++) {
            if (states[pid] == state) {
                count++;
            }
        }
        return count;
    }

    private int childrenOf(int pid) {
        int count = 0;
        for (int child = 0; child < PROCESSES; child++) {
            if (parents[child] == pid) {
                count++;
            }
        }
        return count;
    }

    private void leaveChildren(int pid) {
        for (int child = 0; child < PROCESSES; child++) {
            if (parents[child] == pid) {
                if (states[child] == DEAD) {
                    removeProcess(child);
                } else {
                    parents[child] = NONE;
                }
            }
        }
    }

    // ---- the row

    private void joinRow(int pid) {
        if (rowLength < PROCESSES) {
            row[rowLength] = pid;
            rowLength++;
        }
    }

    private void leaveRow(int pid) {
        int kept = 0;
        for (int i = 0; i < rowLength; i++) {
            if (row[i] != pid) {
                row[kept] = row[i];
                kept++;
            }
        }
        rowLength = kept;
    }

    private int placeInRow(int pid) {
        for (int i = 0; i < rowLength; i++) {
            if (row[i] == pid) {
                return i;
            }
        }
        return NONE;
    }

    // ---- tables and pages

    /** Takes the tables for so many pages, or none at all. */
    private boolean takeTables(int pid, int pages) {
        for (int page = 0; page < pages; page += TABLE_PAGES) {
            if (!addTable(pid, page)) {
                for (int back = page - TABLE_PAGES; back >= 0; back -= TABLE_PAGES) {
                    dropTable(pid, back);
                }
                return false;
            }
        }
        return true;
    }

    private void sharePages(int from, int to) {
        int pages = breaks[from];
        for (int page = 0; page < pages; page++) {
            int frame = frameOfPage(from, page);
            if (isFrame(frame)) {
                sharers[frame]++;
            }
            setWord(pageIndex(to, page), frame);
        }
        breaks[to] = pages;
    }

    /** Adds the page behind the last one, or nothing at all. */
    private boolean addPage(int pid, int page) {
        boolean firstOfTable = page % TABLE_PAGES == 0;
        if (firstOfTable && !addTable(pid, page)) {
            return false;
        }
        int frame = takePageFrame();
        if (frame == NONE) {
            if (firstOfTable) {
                dropTable(pid, page);
            }
            return false;
        }
        for (int i = 0; i < FRAME_WORDS; i++) {
            setWord(frame * FRAME_WORDS + i, 0);
        }
        setWord(pageIndex(pid, page), frame);
        breaks[pid] = page + 1;
        return true;
    }

    private void shrinkTo(int pid, int pages) {
        for (int page = breaks[pid] - 1; page >= pages; page--) {
            dropPageFrame(frameOfPage(pid, page));
            if (page % TABLE_PAGES == 0) {
                dropTable(pid, page);
            }
            breaks[pid] = page;
        }
    }

    /** Gives a page that is to be written a frame of its own; false when there is none. */
    private boolean ownPage(int pid, int page) {
        int shared = frameOfPage(pid, page);
        if (!isFrame(shared) || sharers[shared] < 2) {
            return true;
        }
        int own = takePageFrame();
        if (own == NONE) {
            return false;
        }
        for (int i = 0; i < FRAME_WORDS; i++) {
            setWord(own * FRAME_WORDS + i, wordAt(shared * FRAME_WORDS + i));
        }
        dropPageFrame(shared);
        setWord(pageIndex(pid, page), own);
        copies++;
        return true;
    }

    private boolean addTable(int pid, int page) {
        int place = tables.takePlace();
        if (place == NONE) {
            return false;
        }
        setWord(tableIndex(pid, page), place);
        return true;
    }

    private void dropTable(int pid, int page) {
        tables.givePlace(wordAt(tableIndex(pid, page)));
    }

    private int takePageFrame() {
        int frame = blocks.takeBlock(0);
        if (!isFrame(frame)) {
            return NONE;
        }
        sharers[frame] = 1;
        return frame;
    }

    private void dropPageFrame(int frame) {
        if (!isFrame(frame)) {
            return;
        }
        sharers[frame]--;
        if (sharers[frame] == 0) {
            blocks.giveBlock(frame, 0);
        }
    }

    // ---- words

    private static int pageOf(int address) {
        // A shift, not a division: that would put -1 .. -63 into page 0.
        return address >> 6;
    }

    private int frameOfPage(int pid, int page) {
        return hasPage(pid, page) ? wordAt(pageIndex(pid, page)) : NONE;
    }

    private int tableIndex(int pid, int page) {
        return recordPlaces[pid] * PLACE_WORDS + page / TABLE_PAGES;
    }

    private int pageIndex(int pid, int page) {
        return wordAt(tableIndex(pid, page)) * PLACE_WORDS + page % TABLE_PAGES;
    }

    private int wordIndex(int pid, int address) {
        return frameOfPage(pid, pageOf(address)) * FRAME_WORDS + (address & (FRAME_WORDS - 1));
    }

    private int wordAt(int index) {
        return index >= 0 && index < words.length ? words[index] : 0;
    }

    private void setWord(int index, int v) {
        if (index >= 0 && index < words.length) {
            words[index] = v;
        }
    }

    // ---- frames

    private int kindOf(int frame) {
        if (records.countIn(frame) > 0) {
            return FOR_RECORDS;
        }
        if (tables.countIn(frame) > 0) {
            return FOR_TABLES;
        }
        if (isFrame(frame) && sharers[frame] > 0) {
            return OF_A_PAGE;
        }
        return isKernels(frame) ? OF_THE_KERNEL : IS_FREE;
    }

    private boolean isKernels(int frame) {
        for (int order = 0; order <= TOP_ORDER; order++) {
            int first = (frame >> order) << order;
            if (isFrame(first) && kernelOrder[first] == order) {
                return true;
            }
        }
        return false;
    }

    /** The free blocks. */
    private static final class Blocks {
        // The order of the free block that begins at a frame, or NONE.
        private final int[] orders;
        private final int[] counts;

        Blocks() {
            orders = new int[FRAMES];
            for (int i = 0; i < FRAMES; i++) {
                orders[i] = NONE;
            }
            counts = new int[TOP_ORDER + 1];
            orders[0] = TOP_ORDER;
            counts[TOP_ORDER] = 1;
        }

        int countOf(int order) {
            return isOrder(order) ? counts[order] : 0;
        }

        /** The first frame of the least free block of an order, or NONE. */
        int leastOf(int order) {
            if (!isOrder(order) || counts[order] == 0) {
                return NONE;
            }
            for (int first = 0; first < FRAMES; first += 1 << order) {
                if (orders[first] == order) {
                    return first;
                }
            }
            return NONE;
        }

        /** The first frame of a block that is free no more, or NONE. */
        int takeBlock(int order) {
            for (int found = order; found <= TOP_ORDER; found++) {
                int first = leastOf(found);
                if (first != NONE) {
                    leaveOut(first, found);
                    for (int half = found - 1; half >= order; half--) {
                        putIn(first + (1 << half), half);
                    }
                    return first;
                }
            }
            return NONE;
        }

        void giveBlock(int first, int order) {
            int joined = first;
            int k = order;
            for (; k < TOP_ORDER && isFreeBlock(joined ^ (1 << k), k); k++) {
                leaveOut(joined ^ (1 << k), k);
                joined = joined & ~(1 << k);
            }
            putIn(joined, k);
        }

        private boolean isFreeBlock(int first, int order) {
            return isFrame(first) && orders[first] == order;
        }

        private void putIn(int first, int order) {
            if (isFrame(first) && isOrder(order)) {
                orders[first] = order;
                counts[order]++;
            }
        }

        private void leaveOut(int first, int order) {
            if (isFrame(first) && isOrder(order)) {
                orders[first] = NONE;
                counts[order]--;
            }
        }
    }

    /** The records, or the tables: four places in a frame, numbered through all frames. */
    private static final class Places {
        private final Blocks blocks;
        // A bit for each used place of a frame; none for a frame of another sort.
        private final int[] used;

        Places(Blocks blocks) {
            this.blocks = blocks;
            used = new int[FRAMES];
        }

        int countIn(int frame) {
            return isFrame(frame) ? Integer.bitCount(used[frame]) : 0;
        }

        int takePlace() {
            int frame = leastWithRoom();
            if (frame == NONE) {
                frame = blocks.takeBlock(0);
            }
            if (!isFrame(frame)) {
                return NONE;
            }
            for (int i = 0; i < PLACES; i++) {
                if ((used[frame] & (1 << i)) == 0) {
                    used[frame] |= 1 << i;
                    return frame * PLACES + i;
                }
            }
            return NONE;
        }

        void givePlace(int place) {
            int frame = place / PLACES;
            if (place < 0 || !isFrame(frame)) {
                return;
            }
            used[frame] &= ~(1 << (place % PLACES));
            if (used[frame] == 0) {
                blocks.giveBlock(frame, 0);
            }
        }

        private int leastWithRoom() {
            for (int frame = 0; frame < FRAMES; frame++) {
                if (used[frame] != 0 && used[frame] != ALL_PLACES) {
                    return frame;
                }
            }
            return NONE;
        }
    }
}
