/** The document's "Terms", sentence by sentence: the ends of each range, and what is empty or full. */
public final class TermsTest {
    public static void main(String[] args) {
        Sentence.part("What it is");
        calls();
        Sentence.part("Terms");
        frames();
        taking();
        givingBack();
        places();
        placesGivenBack();
        processes();
        tables();
        addresses();
        dead();
        row();
        Due.end();
    }

    private static void calls() {
        Sentence.says("An object is used for at most 512 calls after it has been made",
            "spawn; 510x tick = 0; told 4 = 510", "2x spawn; grow 0..1 1; 253x store 0 63 5; 253x store 1 0 6; load 0 63 = 5;"
                + "load 1 0 = 6",
            "510x block 8; told 3 = 0; block 7 = 0", "block 7; 510x block 0 = NO_MEMORY; told 3 = 510",
            "spawn; 255x fork 0; 16x exit 15 0; 239x spawn = NO_PROCESS; told 0 = 15");
    }

    private static void frames() {
        Sentence.says("FRAMES are numbered 0 .. 127",
            "about 0,127 0 = 0; about -1,128,MIN,MAX 0 = BAD; about -1,128,MIN,MAX 1 = BAD",
            "128x block 0 = 0..127; block 0 = NO_MEMORY; unblock 127,0 = 0; unblock -1,128 = BAD");
        Sentence.says("a FRAME has 64 words (ints)",
            "spawn; grow 0 2; store 0 63 1; store 0 64 2; load 0 62..65 = 0,1,2,0",
            "spawn; grow 0 1; store 0 0 MIN; store 0 63 MAX; load 0 0,63 = MIN,MAX; load 0 1..62 = 0",
            // A page with frame 3 is cleared, or copied, between those with the frames 2 and 4.
            "2x spawn; grow 0 1; grow 1 1; grow 0 1; store 0 0..127 9; grow 1 -1; grow 1 1; frame 1 0 = 3;"
                + "load 0 0..127 = 9; load 1 0..63 = 0",
            "2x spawn; grow 0 1; grow 1 1; grow 0 1; store 0 0..127 9; exit 1 0; fork 0 = 1; store 1 1 8;"
                + "frame 1 0..1 = 3,4; load 0 0..127 = 9; load 1 64..127 = 9; load 1 0..2 = 9,8,9");
        Sentence.says("A BLOCK of ORDER k (0 .. 7) is 2^k FRAMES from a multiple of 2^k on.",
            "block 0 = 0; about 0..1 0 = 4,0",
            "block 0; block 1 = 2; about 1..4 0 = 0,4,4,0",
            "block 0; block 2 = 4; about 3..8 0 = 0,4,4,4,4,0",
            "block 0; block 3 = 8; about 8..15 0 = 4; about 7,16 0 = 0",
            "block 0; block 4 = 16; about 16..31 0 = 4; about 15,32 0 = 0",
            "block 0; block 5 = 32; about 32..63 0 = 4; about 31,64 0 = 0",
            "block 0; block 6 = 64; about 64..127 0 = 4; about 63 0 = 0; about 128 0 = BAD",
            "block 7 = 0; about 0..127 0 = 4");
        Sentence.says("At first one of ORDER 7 is free.",
            "free 7 0 = 1; free 7 1 = 0; free 0..6 0 = 0; free 0..6 1 = NONE");
    }

    private static void taking() {
        Sentence.says("of the free BLOCKS of the least ORDER from k on of which there is one",
            "128x block 0; unblock 127; unblock 0,1; free 0..1 1 = 127,0; block 0 = 127; block 0 = 0; block 0 = 1",
            "16x block 3; unblock 120; unblock 0,8; block 3 = 120; block 3 = 0",
            "block 0 = 0; block 7 = NO_MEMORY; block 6 = 64; block 6 = NO_MEMORY; block 5 = 32; block 5 = NO_MEMORY",
            "128x block 0; unblock 0,2,4,6 = 0; block 1 = NO_MEMORY; block 0 = 0",
            "2x block 6; unblock 64; block 7 = NO_MEMORY; unblock 0; block 7 = 0");
        Sentence.says("that with the least FRAME",
            "128x block 0; unblock 126,100,50,3 = 0; 4x block 0 = 3,50,100,126; block 0 = NO_MEMORY",
            "4x block 5; unblock 96; unblock 32; block 4 = 32; block 4 = 48; block 4 = 96",
            "2x block 6 = 0,64; unblock 64,0 = 6; block 6 = 0");
        Sentence.says("as long as its ORDER is above k, it is halved, and its upper half is free",
            "block 0 = 0; free 0..7 0 = 1,1,1,1,1,1,1,0; free 0..7 1 = 1,2,4,8,16,32,64,NONE",
            "block 3 = 0; free 0..7 0 = 0,0,0,1,1,1,1,0; free 3..6 1 = 8,16,32,64",
            "block 6 = 0; free 0..7 0 = 0,0,0,0,0,0,1,0; free 6 1 = 64",
            "block 7 = 0; free 0..7 0 = 0; free 0..7 1 = NONE");
    }

    private static void givingBack() {
        Sentence.says("TO GIVE one BACK: it is free",
            "2x block 0; unblock 0 = 0; about 0..1 0 = 0,4; free 0 1 = 0; freeFrames = 127; block 0 = 0");
        Sentence.says("as long as its BUDDY (the other half of the BLOCK of the next ORDER) is free, too",
            "block 0; unblock 0; free 0..7 0 = 0,0,0,0,0,0,0,1",
            "block 7; unblock 0 = 7; free 7 0..1 = 1,0",
            "2x block 6; unblock 0; free 6..7 0 = 1,0; unblock 64; free 6..7 0 = 0,1",
            "2x block 6; unblock 64; free 6 1 = 64; unblock 0; free 6..7 0 = 0,1; free 7 1 = 0",
            "128x block 0; unblock 1..2 = 0; free 0..1 0 = 2,0; unblock 3; free 0..1 0 = 1,1; free 0..1 1 = 1,2;"
                + "unblock 0; free 0..2 0 = 0,0,1; free 2 1 = 0",
            "128x block 0; unblock 63..64 = 0; free 0..1 0 = 2,0",
            "128x block 0; unblock 127; unblock 126; free 0..1 0 = 0,1; free 1 1 = 126");
        Sentence.says("as one BLOCK, both become that one",
            // The halves are no blocks any more, whichever of them was free first.
            "128x block 0; unblock 1; unblock 0; block 1 = 0; unblock 3; free 0 0..1 = 1,3; block 0 = 3",
            "128x block 0; unblock 0..3; free 2 1 = 0; block 2 = 0; unblock 5; free 0 0..1 = 1,5; block 0 = 5",
            "128x block 0; unblock 3; unblock 2; unblock 1; unblock 0; block 2 = 0; unblock 6,7,5; free 0..1 1 = 5,6",
            "block 2 = 0; block 1 = 4; block 1 = 6; unblock 4; unblock 0 = 2; free 0..7 0 = 0,1,1,1,1,1,1,0;"
                + "free 1..2 1 = 4,0; unblock 6; free 0..7 0 = 0,0,0,0,0,0,0,1",
            "block 6 = 0; block 0 = 64; unblock 0 = 6; free 6 0..1 = 1,0; free 7 0 = 0; unblock 64; free 7 0 = 1");
    }

    private static void places() {
        Sentence.says("RECORDS and TABLES have 16 words each: four in a FRAME (a BLOCK of ORDER 0).",
            "4x spawn; about 0..1 1 = 4,0; freeFrames = 127; spawn; about 0..1 1 = 4,1; about 1 0 = 1;"
                + "freeFrames = 126",
            "16x spawn; about 0..4 1 = 4,4,4,4,0; freeFrames = 124",
            "spawn; grow 0 64; about 1 0..1 = 2,4; freeFrames = 62; grow 0 1; about 1 1 = 4; about 66 0..1 = 2,1;"
                + "freeFrames = 60");
        Sentence.says("RECORDS and TABLES have 16 words each",
            // So they change no word of a page whose frame is beside theirs.
            "spawn; grow 0 64; store 0 4032..4095 7; grow 0 16; about 66 0 = 2; load 0 4032..4095 = 7; frame 0 63 = 65",
            "spawn; grow 0 64; grow 0 1; store 0 4096..4159 7; grow 0 15; fork 0; about 66 1 = 4; load 0..1 4096..4159 = 7",
            // Nor a word of one another.
            "4x spawn; grow 3 33; grow 0 31; frame 3 0,15,16,31,32 = 2,17,18,33,34; frame 0 0,15,16,30 = 35,50,52,66;"
                + "about 51 0 = 2");
        Sentence.says("There are FRAMES for RECORDS, and others for TABLES.",
            "spawn; grow 0 1; about 0..1 0 = 1,2; about 0..1 1 = 1; spawn; about 0..1 1 = 2,1; grow 1 1;"
                + "about 0..1 1 = 2");
        Sentence.says("of the FRAMES of its sort that have a free place the one with the least number",
            "12x spawn; exit 9,5,1 0; spawn; about 0..2 1 = 4,3,3; spawn; about 0..2 1 = 4,4,3; spawn;"
                + "about 0..2 1 = 4",
            // Frame 0 becomes one of records later than frame 1, but has the lesser number.
            "block 0 = 0; 4x spawn; about 1 1 = 4; unblock 0; spawn = 4; about 0 0..1 = 1,1; exit 0 0;"
                + "about 1 1 = 3; spawn = 0; about 0..1 1 = 2,3",
            // Likewise frame 1 for tables: the first four stand in frame 2.
            "spawn; block 0 = 1; grow 0 64; about 2 1 = 4; unblock 1; spawn; grow 1 1; about 1 0..1 = 2,1;"
                + "grow 0 -16; about 2 1 = 3; grow 0 16; about 1..2 1 = 2,3");
        Sentence.says("without one a FRAME is TAKEN",
            "4x spawn; exit 3 0; freeFrames = 127; spawn = 3; freeFrames = 127; spawn = 4; freeFrames = 126",
            "block 0 = 0; block 1 = 2; spawn; about 1 0 = 1");
        Sentence.says("in it the least free place",
            // Which place it is can't be seen: but it must be no used one.
            "4x spawn; grow 0..3 1; exit 1 0; spawn = 1; grow 1 17; about 0..1 1 = 4;"
                + "store 0..3 0 1; load 0..3 0 = 1; frame 0 0 = 2; frame 2..3 0 = 4,5");
    }

    private static void placesGivenBack() {
        Sentence.says("When the last one in a FRAME is given back, so is the FRAME.",
            "2x spawn; exit 0 0; about 0 0..1 = 1,1; freeFrames = 127; exit 1 0; about 0 0..1 = 0,0; freeFrames = 128",
            "5x spawn; exit 0..3 0; about 0..1 0 = 0,1; exit 4 0; free 7 0 = 1",
            "spawn; grow 0 17; about 1 1 = 2; grow 0 -1; about 1 0..1 = 2,1; grow 0 -16; about 1 0..1 = 0,0;"
                + "freeFrames = 127",
            "2x spawn; grow 0..1 1; exit 0 0; about 1 0..1 = 2,1; exit 1 0; about 1 0..1 = 0,0; free 7 0 = 1");
    }

    private static void processes() {
        Sentence.says("PROCESSES have the numbers 0 .. 15.",
            "16x spawn = 0..15; spawn = NO_PROCESS; process 0..15 0 = 1; process -1,16 0 = BAD; grow 15 1 = 0;"
                + "grow 16,-1 1 = BAD",
            "15x spawn; fork 14 = 15; fork 15 = NO_PROCESS; exit 15 1 = 0; exit 16,-1 1 = BAD; reap 14 = 3841");
        Sentence.says("a BREAK of 0 .. 256 PAGES",
            "spawn; process 0 1 = 0; grow 0 -1 = BAD; grow 0 257 = BAD; told 3 = 0; grow 0 256 = NO_MEMORY;"
                + "told 3 = 1; process 0 1 = 0");
        Sentence.says("for each PAGE below it a FRAME (a BLOCK of ORDER 0)",
            "spawn; freeFrames = 127; grow 0 3; freeFrames = 123; frame 0 0..3 = 2,3,4,NONE; about 2..5 0 = 3,3,3,0",
            "spawn; grow 0 125 = 0; freeFrames = 0; frame 0 124,125 = 127,NONE; has 0 7999,8000 = true,false");
        Sentence.says("A FRAME may be that of a PAGE of several PROCESSES.",
            "spawn; grow 0 1; 15x fork 0; about 2 0..1 = 3,16; frame 0..15 0 = 2; exit 0..14 0; about 2 0..1 = 3,1;"
                + "exit 15 0; about 2 0..1 = 0,0");
        Sentence.says("A PROCESS may have a PARENT.",
            "spawn; fork 0; fork 1; process 0..2 2 = NONE,0,1");
    }

    private static void tables() {
        Sentence.says("a TABLE for each 16 PAGES of these, the first of which is a multiple of 16",
            "spawn; grow 0 1; about 1 1 = 1; grow 0 14; about 1 1 = 1; grow 0 1; process 0 1 = 16; about 1 1 = 1;"
                + "grow 0 1; about 1 1 = 2; grow 0 15; process 0 1 = 32; about 1 1 = 2; grow 0 1; about 1 1 = 3",
            "spawn; grow 0 33; about 1 1 = 3; grow 0 -1; about 1 1 = 2; grow 0 -15; about 1 1 = 2; grow 0 -1;"
                + "about 1 1 = 1; grow 0 -15; about 1 1 = 1; grow 0 -1; about 1 0 = 0",
            "spawn; grow 0 125; about 1,66 1 = 4; about 1,66 0 = 2; frame 0 63,64 = 65,67");
        Sentence.says("as far as there are any",
            "spawn; freeFrames = 127; about 1 0 = 0; grow 0 0; about 1 0 = 0; grow 0 1; grow 0 -1; about 1 0 = 0;"
                + "freeFrames = 127");
    }

    private static void addresses() {
        Sentence.says("ADDRESSES are 64 times a PAGE's number and 0 .. 63.",
            "spawn; grow 0 1; has 0 -1,0,63,64 = false,true,true,false",
            "spawn; grow 0 2; store 0 0 1; store 0 63 2; store 0 64 3; store 0 127 4; store 0 128,-1 5 = FAULT;"
                + "load 0 0,63,64,127,128,-1 = 1,2,3,4,0,0",
            // 64 times these wraps around to 0, or is below 0.
            "spawn; grow 0 1; frame 0 67108864,33554432,-67108864 = NONE; frame 0 0 = 2",
            "spawn; grow 0 1; has 0 MIN,-64,-63,16384,MAX = false; load 0 MIN,-64,-63,16384,MAX = 0;"
                + "store 0 MIN,-64,-63,16384,MAX 1 = FAULT");
    }

    private static void dead() {
        Sentence.says("A DEAD one has a RECORD, a CODE and a PARENT, but no BREAK, TABLES, or FRAMES.",
            "spawn; grow 0 1; fork 0; grow 1 1; about 0..3 1 = 2,2,2,1; exit 1 5; process 1 0..4 = 2,0,0,0,NONE;"
                + "about 0..3 1 = 2,1,1,0; about 3 0 = 0; frame 1 0..1 = NONE; has 1 0 = false; load 1 0 = 0;"
                + "reap 0 = 261; about 0 1 = 1");
    }

    private static void row() {
        Sentence.says("THE ROW has all that are LIVE; the first one is CURRENT.",
            "current = NONE; process 0..15 4 = NONE",
            "16x spawn; current = 0; process 0..15 4 = 0..15",
            "3x spawn; fork 0; exit 3 0; process 0..4 4 = 0,1,2,NONE,NONE; exit 0 0; current = 1;"
                + "process 0..2 4 = NONE,0,1",
            "spawn; exit 0 0; current = NONE; spawn; current = 0; process 0 4 = 0");
    }
}
