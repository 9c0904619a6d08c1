/** The promises, sentence by sentence, where they name a boundary case. */
public final class BoundariesTest {
    // Each leaves just so many frames free, the last ones.
    private static final String LEAVE_0 = "block 7;";
    private static final String LEAVE_1 = "block 6,5,4,3,2,1,0;";
    private static final String LEAVE_2 = "block 6,5,4,3,2,1;";
    private static final String LEAVE_3 = "block 6,5,4,3,2,0;";
    private static final String LEAVE_4 = "block 6,5,4,3,2;";
    private static final String LEAVE_8 = "block 6,5,4,3;";
    private static final String LEAVE_66 = "block 5,4,3,2,1;";
    // 16 records in the frames 0 .. 3, and the kernel has all others.
    private static final String FULL_OF_PROCESSES = "16x spawn; block 6,5,4,3,2; freeFrames = 0;";
    // 0 is live, 1 is dead, the others are not there.
    private static final String LIVE_AND_DEAD = "spawn; grow 0 1; fork 0; exit 1 7;";
    private static final String NOT_LIVE = "1,2,15,-1,16,17,32,-16,268435456,MIN,MAX";
    private static final String NO_NUMBER = "-1,16,17,32,-16,MIN,MAX";
    private static final String NO_WHAT = "-1,-2,32,64,256,MIN,MAX";

    public static void main(String[] args) {
        newObject();
        spawn();
        spawnRefused();
        fork();
        forkRefused();
        forkWithoutMemory();
        growUp();
        growDown();
        growBad();
        growWithoutMemory();
        load();
        has();
        store();
        storeRefused();
        exit();
        exitChildren();
        reap();
        reapRefused();
        tick();
        current();
        block();
        unblock();
        freeFrames();
        free();
        frame();
        about();
        process();
        told();
        toldCounts();
        Due.end();
    }

    private static void newObject() {
        Sentence.part("Promise 1");
        Sentence.says("All FRAMES are free, no PROCESS.",
            "freeFrames = 128; about 0..127 0 = 0; about 0..127 1 = 0",
            "process 0..15 0 = 0; process 0..15 2 = NONE; process 0..15 3 = 0; process 0..15 4 = NONE;"
                + "current = NONE; told 0..4 = 0",
            "fork 0 = BAD; grow 0 0 = BAD; load 0 0 = 0; has 0 0 = false; store 0 0 0 = BAD; exit 0 0 = BAD;"
                + "reap 0 = BAD; tick = NONE; unblock 0 = BAD; frame 0 0 = NONE; told 0..4 = 0");
    }

    private static void spawn() {
        Sentence.part("Promise 2");
        Sentence.says("A new PROCESS with the least number that is not used",
            "16x spawn; exit 15 0; exit 7 0; exit 0 0; 4x spawn = 0,7,15,NO_PROCESS",
            "spawn; fork 0; exit 1 0; spawn = 2; reap 0 = 256; spawn = 1",
            "2x spawn; fork 0; exit 2 0; exit 0 0; 2x spawn = 0,2");
        Sentence.says("LIVE, without a PARENT, its BREAK 0",
            "spawn; process 0 0..3 = 1,0,NONE,0",
            "spawn; grow 0 5; exit 0 0; spawn = 0; process 0 1 = 0; has 0 0 = false",
            "spawn; grow 0 2; fork 0; exit 1 3; reap 0; spawn = 1; process 1 0..3 = 1,0,NONE,0; process 0 3 = 0");
        Sentence.says("at the end of THE ROW",
            "2x spawn; tick = 1; spawn; process 0..2 4 = 1,0,2; exit 1 0; spawn = 1; process 0..2 4 = 0,2,1");
        Sentence.says("a RECORD is TAKEN",
            "spawn; about 0 0..1 = 1,1; freeFrames = 127; free 0..7 0 = 1,1,1,1,1,1,1,0");
        Sentence.says("Answers its number",
            "16x spawn = 0..15");
    }

    private static void spawnRefused() {
        Sentence.says("NO_PROCESS when there are 16 that are LIVE or DEAD",
            "16x spawn; spawn = NO_PROCESS; told 0 = 16; told 3 = 0",
            "spawn; 15x fork 0; exit 1 0; spawn = NO_PROCESS; told 0..1 = 15,1",
            "spawn; 15x fork 0; exit 1..15 0; spawn = NO_PROCESS; told 0..1 = 1,15; reap 0; spawn = 1",
            "15x spawn; spawn = 15; spawn = NO_PROCESS; exit 3 0; spawn = 3",
            FULL_OF_PROCESSES + "spawn = NO_PROCESS; told 3 = 0");
        Sentence.says("NO_MEMORY",
            LEAVE_0 + "spawn = NO_MEMORY; process 0 0 = 0; current = NONE; told 0,3 = 0,1",
            LEAVE_1 + "4x spawn = 0..3; freeFrames = 0; spawn = NO_MEMORY; told 0 = 4; exit 1 0; spawn = 1;"
                + "spawn = NO_MEMORY; told 3 = 2",
            LEAVE_1 + "4x spawn; spawn = NO_MEMORY; process 4 0..4 = 0,0,NONE,0,NONE; unblock 0 = 6; spawn = 4;"
                + "about 0 0 = 1");
    }

    private static void fork() {
        Sentence.part("Promise 3");
        Sentence.says("A new PROCESS likewise, whose PARENT is pid",
            "3x spawn; tick; fork 2 = 3; process 3 0..4 = 1,0,2,0,3; process 2 3 = 1; process 0 4 = 2",
            "spawn; 15x fork 0 = 1..15; process 1..15 2 = 0; process 0 3 = 15",
            "spawn; fork 0..14 = 1..15; process 0..15 2 = NONE,0..14; process 0..15 3 = 1,1,1,1,1,1,1,1,1,1,1,1,1,1,1,0",
            "4x spawn; exit 1 0; fork 3 = 1; process 1 2 = 3; process 1 4 = 3");
        Sentence.says("with the same BREAK",
            "spawn; fork 0; process 1 1 = 0; has 1 0 = false; freeFrames = 127",
            "spawn; grow 0 16; fork 0; process 1 1 = 16; has 1 1023,1024 = true,false",
            "spawn; grow 0 17; fork 0; process 1 1 = 17; has 1 1087,1088 = true,false",
            "spawn; grow 0 1; fork 0; grow 0 1; process 0..1 1 = 2,1; grow 1 -1; process 0..1 1 = 2,0");
        Sentence.says("its PAGES have the same FRAMES",
            "spawn; grow 0 17; store 0 1087 5; fork 0; frame 1 0..17 = 2..18,NONE; about 2..18 1 = 2; load 1 1087 = 5",
            "spawn; grow 0 2; fork 0; store 0 0 9; fork 0; frame 0..2 0 = 4,2,4; frame 0..2 1 = 3; load 0..2 0 = 9,0,9");
        Sentence.says("a RECORD, then its TABLES, the first one first, are TAKEN",
            "spawn; grow 0 16; fork 0; about 1 1 = 2; freeFrames = 110; grow 0 1; fork 0; about 1 1 = 4;"
                + "about 19 0..1 = 2,1",
            "4x spawn; grow 0 64; fork 0; about 66..68 0 = 1,2,0; about 66..67 1 = 1,4");
        Sentence.says("Answers its number",
            "spawn; 15x fork 0 = 1..15");
    }

    private static void forkRefused() {
        Sentence.says("BAD when pid is not LIVE",
            LIVE_AND_DEAD + "fork " + NOT_LIVE + " = BAD; told 0..1 = 1; fork 0 = 2",
            "16x spawn; exit 4 0; fork 4 = BAD");
        Sentence.says("then NO_PROCESS, NO_MEMORY",
            "16x spawn; fork 0..15 = NO_PROCESS; fork -1,16 = BAD; told 3 = 0",
            "spawn; 15x fork 0; exit 1 0; fork 1 = BAD; fork 0 = NO_PROCESS; reap 0; fork 1 = BAD; fork 0 = 1",
            FULL_OF_PROCESSES + "fork 16 = BAD; fork 0 = NO_PROCESS; told 3 = 0",
            LEAVE_0 + "fork 0 = BAD; told 3 = 0",
            LEAVE_1 + "spawn; 3x fork 0; exit 1 0; fork 1,9 = BAD; fork 0 = NO_MEMORY; told 3 = 1");
    }

    private static void forkWithoutMemory() {
        Sentence.says("NO_MEMORY",
            // No room for the record.
            LEAVE_1 + "4x spawn; fork 3 = NO_MEMORY; process 4 0 = 0; process 3 3 = 0; told 0,3 = 4,1",
            // A place for the record, but no table.
            "spawn; grow 0 64; block 5,4,3,2,1; freeFrames = 0; fork 0 = NO_MEMORY; about 0..2 1 = 1,4,1;"
                + "process 1 0 = 0; current = 0; process 1 4 = NONE",
            // The last frame is for the record: the tables have none.
            "4x spawn; grow 0 64; block 5,4,3,2,0; freeFrames = 1; fork 0 = NO_MEMORY; freeFrames = 1;"
                + "free 0 0..1 = 1,67; about 67 0 = 0; about 0..2 1 = 4,4,1; fork 1 = 4; about 67 0 = 1",
            // Three of the five tables have a place.
            "spawn; grow 0 80; block 5,3,2,0; freeFrames = 0; about 66 0..1 = 2,1; fork 0 = NO_MEMORY;"
                + "about 0,66 1 = 1; about 2..65 1 = 1; process 0 3 = 0; grow 0 -1 = 80; freeFrames = 1; fork 0 = 1;"
                + "about 0,66 1 = 2,4; freeFrames = 0");
    }

    private static void growUp() {
        Sentence.part("Promise 4");
        Sentence.says("A BREAK goes up by n PAGES",
            "spawn; grow 0 1; process 0 1 = 1; grow 0 124; process 0 1 = 125; freeFrames = 0",
            "spawn; grow 0 0; process 0 1 = 0; freeFrames = 127");
        Sentence.says("one by one; for each first a TABLE, if it needs a new one, then a FRAME",
            "spawn; grow 0 1; about 1 0 = 2; frame 0 0 = 2",
            "spawn; grow 0 65; frame 0 0..64 = 2..65,67; about 66 0 = 2",
            "spawn; grow 0 15; grow 0 1; about 1 1 = 1; grow 0 1; about 1 1 = 2; frame 0 15..16 = 17,18",
            LEAVE_4 + "spawn; grow 0 2 = 0; about 124..127 0 = 1,2,3,3");
        Sentence.says("whose words are 0",
            "spawn; grow 0 1; store 0 0..63 7; grow 0 -1; grow 0 1; frame 0 0 = 2; load 0 0..63 = 0",
            // The frame that had the table's words is the page's now.
            "spawn; grow 0 16; block 0 = 18; grow 0 -16; block 0 = 1; grow 0 1; frame 0 0 = 2; load 0 0..63 = 0;"
                + "unblock 1; grow 0 1; frame 0 1 = 1; load 0 64..127 = 0");
        Sentence.says("Answers the BREAK before",
            "spawn; grow 0 0 = 0; grow 0 5 = 0; grow 0 0 = 5; grow 0 -2 = 5; grow 0 -3 = 3; grow 0 0 = 0");
    }

    private static void growDown() {
        Sentence.says("or down by -n",
            "spawn; grow 0 5; grow 0 -1; process 0 1 = 4; frame 0 3..4 = 5,NONE; grow 0 -4; process 0 1 = 0;"
                + "freeFrames = 127");
        Sentence.says("its FRAME is given back, if no other PAGE has it",
            "spawn; grow 0 2; fork 0; grow 1 -1; about 2..3 1 = 2,1; freeFrames = 124; frame 0 1 = 3; grow 0 -1;"
                + "about 3 0..1 = 0,0; freeFrames = 125",
            "spawn; grow 0 1; 15x fork 0; grow 0..14 -1; about 2 0..1 = 3,1; grow 15 -1; about 2 0..1 = 0,0");
        Sentence.says("then a TABLE without PAGES",
            "spawn; grow 0 17; grow 0 -1; about 1 0..1 = 2,1; grow 0 -15; about 1 0..1 = 2,1; grow 0 -1;"
                + "about 1 0..1 = 0,0; free 0 1 = 1",
            "spawn; grow 0 65; grow 0 -1; about 66..67 0 = 0; freeFrames = 62; grow 0 -64 = 64; free 0..6 0 = 1");
    }

    private static void growBad() {
        Sentence.says("BAD when pid is not LIVE",
            LIVE_AND_DEAD + "grow " + NOT_LIVE + " 0 = BAD; grow " + NOT_LIVE + " 1 = BAD; grow 1,2 -1 = BAD;"
                + "grow 0 0 = 1; told 3 = 0");
        Sentence.says("or the new BREAK would not be 0 .. 256",
            "spawn; grow 0 -1 = BAD; grow 0 257 = BAD; grow 0 MIN,MAX = BAD; process 0 1 = 0; freeFrames = 127",
            "spawn; grow 0 10; grow 0 -11 = BAD; grow 0 247 = BAD; grow 0 MIN,MAX = BAD; grow 0 246 = NO_MEMORY;"
                + "grow 0 -10 = 10",
            // So that BREAK and n, added, would wrap around.
            "spawn; grow 0 100; grow 0 2147483548,2147483547,-2147483548,MIN,MAX = BAD; process 0 1 = 100; told 3 = 0",
            "spawn; grow 0 125; grow 0 131 = NO_MEMORY; grow 0 132 = BAD; grow 0 -126 = BAD; grow 0 -125 = 125",
            // BAD, though there is no memory, either.
            LEAVE_1 + "spawn; grow 0 257 = BAD; told 3 = 0; grow 0 256 = NO_MEMORY; told 3 = 1");
    }

    private static void growWithoutMemory() {
        Sentence.says("NO_MEMORY",
            LEAVE_1 + "spawn; grow 0 1 = NO_MEMORY; process 0 1 = 0; has 0 0 = false; grow 0 0 = 0; told 3 = 1",
            // A table, but no frame for the page.
            LEAVE_2 + "spawn; grow 0 1 = NO_MEMORY; freeFrames = 1; about 127 0..1 = 0,0; block 0 = 127",
            LEAVE_3 + "spawn; grow 0 2 = NO_MEMORY; freeFrames = 2; free 0..1 0 = 0,1; grow 0 1 = 0; freeFrames = 0;"
                + "grow 0 1 = NO_MEMORY; process 0 1 = 1; told 3 = 2",
            LEAVE_8 + "spawn; grow 0 7 = NO_MEMORY; freeFrames = 7; free 0..2 0 = 1; free 0..2 1 = 121,122,124;"
                + "grow 0 6 = 0; freeFrames = 0",
            // 64 pages, but no frame for the fifth table.
            LEAVE_66 + "spawn; grow 0 65 = NO_MEMORY; freeFrames = 65; grow 0 64 = 0; freeFrames = 0;"
                + "grow 0 1 = NO_MEMORY; process 0 1 = 64; has 0 4095,4096 = true,false",
            "spawn; grow 0 126 = NO_MEMORY; freeFrames = 127; free 0..7 0 = 1,1,1,1,1,1,1,0; grow 0 125 = 0",
            // The pages that are there stay, with their words.
            "spawn; grow 0 3; store 0 191 4; grow 0 200 = NO_MEMORY; process 0 1 = 3; frame 0 0..3 = 2,3,4,NONE;"
                + "load 0 191 = 4; freeFrames = 123; grow 0 1 = 3; frame 0 3 = 5",
            // Shared ones count once in memory, but a page more has a frame of its own.
            LEAVE_4 + "spawn; grow 0 2; fork 0 = 1; grow 1 1 = NO_MEMORY; about 126..127 1 = 2; grow 1 -1 = 2;"
                + "freeFrames = 0; grow 1 1 = NO_MEMORY; grow 0 -1; grow 1 1 = 1; frame 0..1 1 = NONE,127");
    }

    private static void load() {
        Sentence.part("Promise 5");
        Sentence.says("The word at an ADDRESS",
            "spawn; grow 0 1; load 0 0..63 = 0; store 0 0 1; store 0 63 2; load 0 0,63 = 1,2; load 0 1..62 = 0",
            "spawn; grow 0 125; store 0 7999 MIN; store 0 0 MAX; load 0 7999,0,7998 = MIN,MAX,0",
            "spawn; grow 0 17; store 0 1023 1; store 0 1024 2; load 0 1022..1025 = 0,1,2,0");
        Sentence.says("0 when pid is not LIVE",
            "spawn; grow 0 1; store 0 0 5; fork 0; load 1 0 = 5; exit 1 7; load 0 0 = 5; load " + NOT_LIVE + " 0 = 0",
            "spawn; grow 0 1; store 0 0 5; exit 0 0; load 0 0 = 0; spawn; load 0 0 = 0");
        Sentence.says("or it has no such PAGE",
            "spawn; load 0 0 = 0; grow 0 1; store 0 0..63 5; load 0 -1,-63,-64,-65,64,1024,16383,16384,MIN,MAX = 0",
            "2x spawn; grow 0..1 1; store 1 0 5; load 0 64 = 0; grow 0 1; store 0 64 6; grow 0 -1; load 0 64 = 0");
    }

    private static void has() {
        Sentence.part("Promise 6");
        Sentence.says("Whether pid is LIVE",
            LIVE_AND_DEAD + "has 0 0 = true; has " + NOT_LIVE + " 0 = false",
            "spawn; grow 0 1; exit 0 0; has 0 0 = false; spawn; has 0 0 = false");
        Sentence.says("and has a PAGE with this ADDRESS",
            "spawn; has 0 0 = false; grow 0 1; has 0 0,63 = true; has 0 64,-1,-63,-64,-65,16383,16384,MIN,MAX = false",
            "spawn; grow 0 17; has 0 1023,1024,1087,1088 = true,true,true,false; grow 0 -1; has 0 1023,1024 = true,false",
            "spawn; grow 0 125; has 0 7999,8000 = true,false; grow 0 -125; has 0 0 = false");
    }

    private static void store() {
        Sentence.part("Promise 7");
        Sentence.says("The word at an ADDRESS becomes v.",
            "spawn; grow 0 2; store 0 63 MAX = 0; store 0 64 MIN = 0; load 0 62..65 = 0,MAX,MIN,0; store 0 63 0;"
                + "load 0 63 = 0",
            "spawn; grow 0 125; store 0 7999 -1 = 0; load 0 7999 = -1");
        Sentence.says("If another PAGE has its FRAME, too, a FRAME is TAKEN before, with the same words",
            "spawn; grow 0 1; store 0 0 1; store 0 63 2; fork 0; store 1 1 3 = 0; frame 0..1 0 = 2,3; load 1 0,1,63 = 1,3,2;"
                + "load 0 0,1,63 = 1,0,2; about 2..3 1 = 1; told 2 = 1",
            // Even if the word was the same before.
            "spawn; grow 0 1; fork 0; store 0 0 0 = 0; frame 0..1 0 = 3,2; told 2 = 1",
            // No page but its own: none is taken.
            "spawn; grow 0 1; store 0 0 1; frame 0 0 = 2; freeFrames = 125; told 2 = 0",
            "spawn; grow 0 1; fork 0; store 0 0 1; store 0 1 1; store 1 0 1; frame 0..1 0 = 3,2; told 2 = 1",
            "spawn; grow 0 1; fork 0; exit 1 0; store 0 0 1; frame 0 0 = 2; told 2 = 0",
            "spawn; grow 0 1; fork 0; grow 1 -1; store 0 0 1; frame 0 0 = 2; told 2 = 0",
            "spawn; grow 0 1; 15x fork 0; store 0..15 0 9 = 0; told 2 = 15; about 2 1 = 1; frame 15 0 = 2");
        Sentence.says("and is that of this PAGE",
            "spawn; grow 0 2; fork 0; store 1 64 1; frame 1 0..1 = 2,4; frame 0 0..1 = 2,3; about 2..4 1 = 2,1,1",
            "spawn; grow 0 17; fork 0; store 1 1024 1; frame 1 15..16 = 17,19; frame 0 15..16 = 17,18");
    }

    private static void storeRefused() {
        Sentence.says("BAD when pid is not LIVE",
            LIVE_AND_DEAD + "store " + NOT_LIVE + " 0 5 = BAD; store 1,2,16 -1 5 = BAD; store 1,2,16 64 5 = BAD;"
                + "load 0 0 = 0; told 2..3 = 0");
        Sentence.says("FAULT when it has no such PAGE",
            "spawn; store 0 0 5 = FAULT; grow 0 1; store 0 63 5 = 0;"
                + "store 0 64,-1,-63,-64,-65,1024,16383,16384,MIN,MAX 5 = FAULT; load 0 0,63 = 0,5",
            "spawn; grow 0 17; grow 0 -1; store 0 1024 5 = FAULT; store 0 1023 5 = 0; grow 0 -16; store 0 0 5 = FAULT",
            LEAVE_3 + "spawn; grow 0 1; fork 0; freeFrames = 0; store 1 64,-1 5 = FAULT; told 3 = 0");
        Sentence.says("NO_MEMORY",
            LEAVE_3 + "spawn; grow 0 1; store 0 5 7; fork 0; freeFrames = 0; store 1 5 8 = NO_MEMORY;"
                + "store 0 5 8 = NO_MEMORY; load 0..1 5 = 7; frame 0..1 0 = 127; about 127 1 = 2; told 2..3 = 0,2",
            // Not where none must be taken.
            LEAVE_3 + "spawn; grow 0 1; freeFrames = 0; store 0 0 5 = 0; fork 0; exit 1 0; store 0 0 6 = 0; told 3 = 0",
            LEAVE_4 + "spawn; grow 0 1; 2x fork 0; freeFrames = 1; store 2 0 5 = 0; store 1 0 5 = NO_MEMORY;"
                + "store 2 0 6 = 0; exit 0 0; store 1 0 5 = 0; told 2..3 = 1");
    }

    private static void exit() {
        Sentence.part("Promise 8");
        Sentence.says("A LIVE PROCESS ends: it goes out of THE ROW",
            "3x spawn; exit 0 0 = 0; current = 1; process 0..2 4 = NONE,0,1",
            "3x spawn; exit 1 0; current = 0; process 0..2 4 = 0,NONE,1",
            "3x spawn; exit 2 0; current = 0; process 0..2 4 = 0,1,NONE",
            "spawn; exit 0 0; current = NONE; tick = NONE",
            "16x spawn; exit 0..15 0 = 0; current = NONE; free 7 0 = 1");
        Sentence.says("its PAGES go as by grow().",
            "2x spawn; grow 0 65; exit 0 0; freeFrames = 127; free 0..6 0 = 1; about 1..127 0 = 0",
            "spawn; grow 0 2; fork 0; exit 1 0; about 1..3 1 = 1; freeFrames = 124; exit 0 0; free 7 0 = 1",
            "spawn; exit 0 0 = 0; freeFrames = 128");
        Sentence.says("Answers 0; BAD when it is not LIVE.",
            LIVE_AND_DEAD + "exit " + NOT_LIVE + " 9 = BAD; told 0..1 = 1; reap 0 = 263; exit 0 0 = 0; exit 0 0 = BAD");
    }

    private static void exitChildren() {
        Sentence.says("LIVE children have no PARENT any more",
            "spawn; 2x fork 0; fork 1; exit 0 0; process 1..3 2 = NONE,NONE,1; process 1..3 0 = 1; process 0 3 = 0",
            // The number's next holder is not their parent.
            "spawn; fork 0; exit 0 0; spawn = 0; process 0 3 = 0; reap 0 = NO_CHILD; exit 1 3; process 1 0 = 0",
            "2x spawn; exit 0 0; fork 1 = 0; exit 1 0; process 0 0..2 = 1,0,NONE; exit 0 0; told 0..1 = 0",
            "15x spawn; fork 14 = 15; exit 14 0; process 15 0..2 = 1,0,NONE; exit 15 0; process 15 0 = 0");
        Sentence.says("DEAD ones are gone (their RECORDS are given back, by their numbers)",
            "spawn; 3x fork 0; exit 1 5; exit 3 5; about 0 1 = 4; exit 0 0; process 0..3 0 = 0,0,1,0; about 0 1 = 1;"
                + "told 0..1 = 1,0; spawn = 0",
            "spawn; 15x fork 0; exit 1..15 0; about 0..3 1 = 4; exit 0 0; free 7 0 = 1; told 1 = 0",
            "2x spawn; exit 0 0; fork 1 = 0; exit 0 5; exit 1 0; told 1 = 0; free 7 0 = 1; process 0 0 = 0",
            // Dead children of others stay.
            "spawn; fork 0; fork 1; exit 2 5; exit 0 0; process 2 0..2 = 2,0,1; reap 1 = 517");
        Sentence.says("With a PARENT (it is LIVE then) it is DEAD, with a CODE",
            "spawn; fork 0; exit 1 5; process 1 0..4 = 2,0,0,0,NONE; about 0 1 = 2; told 0..1 = 1; reap 0 = 261",
            "spawn; fork 0; fork 1; exit 1 5; process 1 3 = 0; process 2 2 = NONE; exit 2 6; process 2 0 = 0;"
                + "reap 0 = 261; reap 0 = NO_CHILD");
        Sentence.says("without one it is gone, and its RECORD given back",
            "2x spawn; exit 0 5; process 0 0..4 = 0,0,NONE,0,NONE; about 0 1 = 1; told 0..1 = 1,0",
            "spawn; exit 0 5; about 0 0 = 0; free 7 0 = 1");
    }

    private static void reap() {
        Sentence.part("Promise 9");
        Sentence.says("Of the DEAD children of pid the one with the least number is gone",
            "spawn; 15x fork 0; exit 15 3; exit 9 2; exit 4 1; reap 0 = 1025; process 4 0 = 0; reap 0 = 2306;"
                + "process 9,15 0 = 0,2; reap 0 = 3843; reap 0 = WAITS",
            "2x spawn; fork 1; fork 0; exit 2 1; exit 3 2; reap 0 = 770; process 2 0 = 2; reap 1 = 513");
        Sentence.says("(its RECORD is given back)",
            "4x spawn; fork 0; about 1 0..1 = 1,1; exit 4 0; about 1 0..1 = 1,1; reap 0; about 1 0..1 = 0,0;"
                + "freeFrames = 127");
        Sentence.says("Answers 256 times its number and the lowest 8 bits of its CODE",
            "spawn; fork 0; exit 1 0; reap 0 = 256", "spawn; fork 0; exit 1 255; reap 0 = 511",
            "spawn; fork 0; exit 1 256; reap 0 = 256", "spawn; fork 0; exit 1 257; reap 0 = 257",
            "spawn; fork 0; exit 1 -1; reap 0 = 511", "spawn; fork 0; exit 1 -256; reap 0 = 256",
            "spawn; fork 0; exit 1 -255; reap 0 = 257", "spawn; fork 0; exit 1 MIN; reap 0 = 256",
            "spawn; fork 0; exit 1 MAX; reap 0 = 511", "spawn; fork 0; exit 1 128; reap 0 = 384",
            "spawn; 15x fork 0; exit 15 -1; reap 0 = 4095",
            "2x spawn; fork 1; exit 0 0; fork 1; exit 0 300; reap 1 = 44; exit 2 -2; reap 1 = 766");
    }

    private static void reapRefused() {
        Sentence.says("BAD when pid is not LIVE",
            LIVE_AND_DEAD + "reap " + NOT_LIVE + " = BAD; process 1 0 = 2; reap 0 = 263",
            "spawn; fork 0; fork 1; exit 1 0; reap 1 = BAD");
        Sentence.says("NO_CHILD when it has none",
            "spawn; reap 0 = NO_CHILD; fork 0; reap 1 = NO_CHILD; exit 1 0; reap 0 = 256; reap 0 = NO_CHILD",
            // Neither grandchildren nor those whose parent has gone are its own.
            "spawn; fork 0; fork 1; exit 1 0; reap 0; exit 2 0; reap 0 = NO_CHILD",
            "2x spawn; fork 1; exit 2 0; reap 0 = NO_CHILD; reap 1 = 512");
        Sentence.says("WAITS when it has some, but none is DEAD",
            "2x spawn; exit 0 0; fork 1 = 0; reap 1 = WAITS; exit 0 0; reap 1 = 0; reap 1 = NO_CHILD",
            "spawn; fork 0; reap 0 = WAITS; fork 0; exit 2 0; reap 0 = 512; reap 0 = WAITS; process 0 3 = 1",
            "spawn; 15x fork 0; reap 0 = WAITS",
            // A child's dead child is not its own.
            "spawn; fork 0; fork 1; exit 2 0; reap 0 = WAITS; reap 1 = 512");
    }

    private static void tick() {
        Sentence.part("Promise 10");
        Sentence.says("The first one in THE ROW goes to its end.",
            "spawn; tick = 0; process 0 4 = 0", "2x spawn; tick = 1; process 0..1 4 = 1,0; tick = 0",
            "16x spawn; 17x tick = 1..15,0,1; process 0..15 4 = 15,0..14",
            "3x spawn; tick = 1; exit 1 0; current = 2; tick = 0; tick = 2");
        Sentence.says("Answers which is CURRENT then; NONE without any.",
            "2x tick = NONE; told 4 = 0; spawn; tick = 0; exit 0 0; tick = NONE; told 4 = 1");
    }

    private static void current() {
        Sentence.part("Promise 11");
        Sentence.says("Which is CURRENT; NONE without any.",
            "current = NONE; spawn; current = 0; spawn; current = 0; exit 0 0; current = 1; exit 1 0; current = NONE",
            "16x spawn; 15x tick; current = 15; current = 15; exit 15 0; current = 0; told 4 = 15");
    }

    private static void block() {
        Sentence.part("Promise 12");
        Sentence.says("A BLOCK of an ORDER is TAKEN for the kernel itself. Answers its first FRAME",
            "block 7 = 0; freeFrames = 0", "2x block 6 = 0,64; freeFrames = 0", "128x block 0 = 0..127; freeFrames = 0",
            "spawn; block 6 = 64; block 0 = 1; about 0..1,64,127 0 = 1,4,4,4; about 0..1,64,127 1 = 1,0,0,0");
        Sentence.says("BAD when the ORDER is not 0 .. 7",
            "block -1,8,9,31,32,33,39,-32,MIN,MAX = BAD; freeFrames = 128; told 3 = 0; block 7 = 0; block 8,-1 = BAD;"
                + "told 3 = 0");
        Sentence.says("NO_MEMORY",
            "block 7; block 0..7 = NO_MEMORY; told 3 = 8",
            "block 0; block 7 = NO_MEMORY; block 6 = 64; block 6 = NO_MEMORY; freeFrames = 63; told 3 = 2",
            // Enough frames, but in no one block.
            "128x block 0; unblock 1,3,5,7 = 0; freeFrames = 4; block 1,2 = NO_MEMORY; 4x block 0 = 1,3,5,7",
            "spawn; grow 0 125; block 0 = NO_MEMORY; grow 0 -1; block 0 = 127");
    }

    private static void unblock() {
        Sentence.part("Promise 13");
        Sentence.says("A BLOCK that block() told is given back. Answers its ORDER",
            "block 0..6; unblock 0 = 0; unblock 2 = 1; unblock 4 = 2; unblock 8 = 3; unblock 16 = 4; unblock 32 = 5;"
                + "unblock 64 = 6; free 7 0 = 1",
            "block 7; unblock 0 = 7; freeFrames = 128; about 0,127 0 = 0",
            "128x block 0; unblock 127 = 0; about 127 0 = 0; block 0 = 127; unblock 127 = 0");
        Sentence.says("BAD when there is none with this first FRAME",
            "unblock -1,0,127,128,MIN,MAX = BAD; freeFrames = 128",
            "block 3; unblock 1..7 = BAD; unblock 8 = BAD; unblock 0 = 3; unblock 0 = BAD; freeFrames = 128",
            "block 7; unblock 1..127 = BAD; unblock 128,-128,256,MIN,MAX = BAD; freeFrames = 0",
            // Of other sorts: a record's frame, a table's, a page's.
            "spawn; grow 0 1; unblock 0..2 = BAD; about 0..2 0 = 1,2,3; has 0 0 = true",
            // What was the kernel's once is a page's now.
            "spawn; grow 0 1; block 0 = 3; unblock 3 = 0; grow 0 1; frame 0 1 = 3; unblock 3 = BAD",
            // The same first frame, but another order than before.
            "block 3 = 0; unblock 0 = 3; block 0 = 0; unblock 0 = 0; block 5 = 0; unblock 0 = 5");
    }

    private static void freeFrames() {
        Sentence.part("Promise 14");
        Sentence.says("How many FRAMES are free.",
            "freeFrames = 128; block 7; freeFrames = 0; unblock 0; freeFrames = 128",
            LEAVE_1 + "freeFrames = 1; spawn; freeFrames = 0; 3x spawn; freeFrames = 0; exit 0..2 0; freeFrames = 0;"
                + "exit 3 0; freeFrames = 1",
            "spawn; grow 0 125; freeFrames = 0; grow 0 -1; freeFrames = 1; grow 0 -124; freeFrames = 127; exit 0 0;"
                + "freeFrames = 128",
            "128x block 0; freeFrames = 0; unblock 0,64,127; freeFrames = 3");
    }

    private static void free() {
        Sentence.part("Promise 15");
        Sentence.says("How many free BLOCKS of an ORDER there are (what = 0)",
            "free 0..7 0 = 0,0,0,0,0,0,0,1; block 7; free 0..7 0 = 0",
            "128x block 0; free 0 0 = 0; unblock 0,2,4,6,8,10,127; free 0..1 0 = 7,0; unblock 9; free 0..1 0 = 6,1",
            "64x block 1; unblock 0,4,8,12,124; free 0..2 0 = 0,5,0; unblock 126; free 0..2 0 = 0,4,1");
        Sentence.says("the first FRAME of the least one (1; NONE)",
            "free 0..7 1 = NONE,NONE,NONE,NONE,NONE,NONE,NONE,0; block 7; free 0..7 1 = NONE",
            "128x block 0; unblock 127; free 0 1 = 127; unblock 64; free 0 1 = 64; unblock 0; free 0 1 = 0; block 0;"
                + "free 0 1 = 64; free 1 1 = NONE",
            "2x block 6; unblock 64; free 6 1 = 64; unblock 0; free 6..7 1 = NONE,0");
        Sentence.says("BAD: another ORDER or what.",
            "free -1,8,9,31,32,39,-32,MIN,MAX 0..1 = BAD; free 0..7 2 = BAD; free 0,7 " + NO_WHAT + " = BAD;"
                + "free -1,8 2,-1 = BAD");
    }

    private static void frame() {
        Sentence.part("Promise 16");
        Sentence.says("The FRAME of a PAGE",
            "spawn; grow 0 125; frame 0 0,15,16,63,64,124 = 2,17,18,65,67,127",
            "2x spawn; grow 0 1; grow 1 1; grow 0 1; frame 0 0..1 = 2,4; frame 1 0 = 3");
        Sentence.says("NONE when pid is not LIVE",
            LIVE_AND_DEAD + "frame 0 0 = 2; frame " + NOT_LIVE + " 0 = NONE; frame -1,16,MAX -1 = NONE",
            "spawn; grow 0 1; exit 0 0; frame 0 0 = NONE");
        Sentence.says("or has no such PAGE",
            "spawn; frame 0 0 = NONE; grow 0 1; frame 0 -1,1,15,16,255,256,257,67108864,MIN,MAX = NONE; frame 0 0 = 2",
            "spawn; grow 0 17; grow 0 -1; frame 0 15..16 = 17,NONE; grow 0 -16; frame 0 0 = NONE");
    }

    private static void about() {
        Sentence.part("Promise 17");
        Sentence.says("0 free, 1 for RECORDS, 2 for TABLES, 3 of a PAGE, 4 in a BLOCK of the kernel (what = 0)",
            "spawn; grow 0 1; block 2; about 0..8 0 = 1,2,3,0,4,4,4,4,0; unblock 4; grow 0 -1; exit 0 0;"
                + "about 0..127 0 = 0",
            "block 7; about 0..127 0 = 4; unblock 0; about 0..127 0 = 0");
        Sentence.says("how many RECORDS or TABLES are in it, how many PAGES have it (1; else 0)",
            "about 0,127 1 = 0; spawn; about 0 1 = 1; 3x spawn; about 0 1 = 4; spawn; about 0..1 1 = 4,1",
            "spawn; grow 0 1; about 1..2 1 = 1; grow 0 63; about 1 1 = 4; about 2..65 1 = 1",
            "spawn; grow 0 1; 15x fork 0; about 2 1 = 16; store 0 0 1; about 2 1 = 15",
            "block 7; about 0..127 1 = 0",
            "spawn; fork 0; exit 1 0; about 0 1 = 2; reap 0; about 0 1 = 1");
        Sentence.says("BAD: there is no such FRAME, or another what.",
            "about -1,128,129,256,-128,MIN,MAX 0..1 = BAD; about 0,127 " + NO_WHAT + " = BAD; about 0,127 2,3,4 = BAD;"
                + "about -1,128 2 = BAD",
            "spawn; grow 0 1; block 0; about 0..3 2 = BAD; about 0..3 -1 = BAD");
    }

    private static void process() {
        Sentence.part("Promise 18");
        Sentence.says("0 not there, 1 LIVE, 2 DEAD (what = 0)",
            LIVE_AND_DEAD + "process 0..15 0 = 1,2,0,0,0,0,0,0,0,0,0,0,0,0,0,0; reap 0; process 1 0 = 0",
            "16x spawn; process 0..15 0 = 1; exit 15 0; process 15 0 = 0");
        Sentence.says("its BREAK (1)",
            "spawn; process 0 1 = 0; grow 0 125; process 0 1 = 125; grow 0 1 = NO_MEMORY; process 0 1 = 125;"
                + "grow 0 -125; process 0 1 = 0");
        Sentence.says("its PARENT (2; NONE)",
            "spawn; process 0 2 = NONE; fork 0; process 1 2 = 0; exit 1 0; process 1 2 = 0; reap 0; process 1 2 = NONE",
            "15x spawn; fork 14; process 15 2 = 14; exit 14 0; process 14..15 2 = NONE");
        Sentence.says("how many children it has, LIVE and DEAD (3)",
            "spawn; process 0 3 = 0; 15x fork 0; process 0 3 = 15; exit 1..15 0; process 0 3 = 15; reap 0;"
                + "process 0 3 = 14; 14x reap 0; process 0 3 = 0",
            "spawn; fork 0; fork 1; process 0..2 3 = 1,1,0; exit 1 0; process 0..2 3 = 1,0,0",
            // The numbers 0 and 15 as children.
            "2x spawn; exit 0 0; fork 1 = 0; process 0..1 3 = 0,1; process 0 2 = 1; exit 0 0; process 1 3 = 1",
            "15x spawn; fork 14 = 15; process 14 3 = 1; exit 15 0; process 14 3 = 1; reap 14; process 14 3 = 0");
        Sentence.says("where it stands in THE ROW, from 0 on (4; NONE)",
            LIVE_AND_DEAD + "process 0..2 4 = 0,NONE,NONE; spawn; process 2 4 = 1; tick; process 0..2 4 = 1,NONE,0",
            "16x spawn; process 0,15 4 = 0,15; tick; process 0..1,15 4 = 15,0,14");
        Sentence.says("BAD: there is no such number, or another what.",
            LIVE_AND_DEAD + "process " + NO_NUMBER + " 0..4 = BAD; process 0..2,15 " + NO_WHAT + " = BAD;"
                + "process 0..2,15 5 = BAD; process -1,16 5,-1 = BAD");
    }

    private static void told() {
        Sentence.part("Promise 19");
        Sentence.says("How many PROCESSES are LIVE (what = 0), DEAD (1)",
            "told 0..1 = 0; 16x spawn; told 0..1 = 16,0; spawn; told 0 = 16; exit 0..15 0; told 0..1 = 0",
            "spawn; 15x fork 0; exit 1..15 0; told 0..1 = 1,15; reap 0; told 0..1 = 1,14; exit 0 0; told 0..1 = 0");
        Sentence.says("BAD: another what.",
            "told 5,6 = BAD; told " + NO_WHAT + " = BAD; spawn; told 5,-1 = BAD");
    }

    private static void toldCounts() {
        Sentence.says("FRAMES were TAKEN because of a store() (2)",
            "spawn; grow 0 3; store 0 0..127 1; told 2 = 0; fork 0; told 2 = 0; store 0 0 1; store 0 1 1; store 1 0 1;"
                + "told 2 = 1; store 1 64 1; store 0 128 1; told 2 = 3; store 0 192 1 = FAULT; store 2 0 1 = BAD;"
                + "told 2 = 3; exit 0 0; exit 1 0; told 2 = 3",
            LEAVE_3 + "spawn; grow 0 1; fork 0; store 0 0 1 = NO_MEMORY; told 2 = 0");
        Sentence.says("calls answered NO_MEMORY (3)",
            // One for each call, whichever it is, and none for another refusal.
            "spawn; grow 0 1; fork 0; 2x spawn; block 6,5,4,3,2,0; freeFrames = 0; spawn = NO_MEMORY; told 3 = 1;"
                + "fork 0 = NO_MEMORY; told 3 = 2; grow 0 9 = NO_MEMORY; told 3 = 3; store 1 0 1 = NO_MEMORY; told 3 = 4;"
                + "block 0 = NO_MEMORY; told 3 = 5",
            "block 8 = BAD; fork 0 = BAD; grow 0 1 = BAD; store 0 0 0 = BAD; 17x spawn; fork 0 = NO_PROCESS;"
                + "grow 0 257 = BAD; store 0 0 0 = FAULT; reap 0 = NO_CHILD; unblock 9 = BAD; told 3 = 0");
        Sentence.says("tick() did not answer NONE (4)",
            "3x tick = NONE; told 4 = 0; spawn; 3x tick = 0; told 4 = 3; current; told 4 = 3; exit 0 0; tick; told 4 = 3");
    }
}
