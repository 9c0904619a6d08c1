import java.util.ArrayList;
import java.util.List;

/**
 * "What is TAKEN by one call that ends with NO_MEMORY is given back, the last one first, and all is
 * as it was." Other refused calls change nothing, either. Of two kernels with the same calls behind
 * them one gets the refused call, too, and both must answer the same from then on.
 */
public final class RefusedTest {
    // Each of these is asked of new kernels, since one has 512 calls only.
    private static final String[] QUESTIONS = {
        "about 0..127 0..1",
        "freeFrames; free 0..7 0..1; current; process 0..15 0..4; told 0..2; told 4; unblock 0..127",
        // What comes next shows what can't be asked for: the places that are free.
        "spawn; fork 0; grow 0 5; spawn; grow 0 -1; store 0..3 0 9; 3x tick; block 0..2; about 0..127 0..1;"
            + "exit 0 3; 2x spawn; fork 1; reap 0..3; process 0..15 0",
        "exit 0..15 1; reap 0..15; unblock 0..127; freeFrames; free 0..7 0..1; told 0..2; told 4"};

    // 0 has two pages, which it shares with 1 and, one of them, with 2; 3 is dead; 4 is on its own.
    private static final String SOME = "spawn; grow 0 2; store 0 63 7; 3x fork 0; store 2 64 8; exit 3 9; spawn; grow 4 18;"
        + "block 1; 2x tick;";
    private static final String NOT_LIVE = "3,5,15,-1,16,MIN,MAX";

    public static void main(String[] args) {
        bad();
        otherRefusals();
        spawnWithoutMemory();
        forkWithoutMemory();
        growWithoutMemory();
        storeWithoutMemory();
        blockWithoutMemory();
        Due.end();
    }

    private static void refused(String before, String call, String answer) {
        Due.in("after " + before + " the refused " + call);
        int told = new Run().calls(before).answers("told 3").get(0);
        if (answer.equals("NO_MEMORY")) {
            told += new Run().answers(call).size();
        }
        new Run().calls(before + call + " = " + answer + "; told 3 = " + told);
        for (String question : questions()) {
            List<Integer> without = new Run().calls(before).answers(question);
            List<Integer> with = new Run().calls(before + call).answers(question);
            Due.is("the first other answer to " + question, without.size(), sameAnswers(without, with));
        }
    }

    private static int sameAnswers(List<Integer> one, List<Integer> other) {
        int same = 0;
        while (same < one.size() && one.get(same).equals(other.get(same))) {
            same++;
        }
        return same;
    }

    private static List<String> questions() {
        List<String> all = new ArrayList<>(List.of(QUESTIONS));
        for (int pid = 0; pid < 16; pid++) {
            all.add("frame " + pid + " 0..127");
        }
        for (int pid = 0; pid < 5; pid++) {
            all.add("load " + pid + " 0..191");
        }
        return all;
    }

    private static void bad() {
        refused(SOME, "fork " + NOT_LIVE, "BAD");
        refused(SOME, "grow " + NOT_LIVE + " 1", "BAD");
        refused(SOME, "grow " + NOT_LIVE + " -1", "BAD");
        refused(SOME, "grow 0 -3,255,MIN,MAX", "BAD");
        refused(SOME, "grow 4 -19,239,MIN,MAX", "BAD");
        refused(SOME, "store " + NOT_LIVE + " 0 5", "BAD");
        refused(SOME, "exit " + NOT_LIVE + " 5", "BAD");
        refused(SOME, "reap " + NOT_LIVE, "BAD");
        refused(SOME, "block -1,8,32,MIN,MAX", "BAD");
        refused(SOME, "unblock -1,0..5,127,128,MIN,MAX", "BAD");
        refused(SOME, "free -1,8,32,MIN,MAX 0..1", "BAD");
        refused(SOME, "about -1,128,MIN,MAX 0..1", "BAD");
        refused(SOME, "process -1,16,MIN,MAX 0..4", "BAD");
        refused(SOME, "told -1,5,MIN,MAX", "BAD");
    }

    private static void otherRefusals() {
        refused("", "tick", "NONE");
        refused("", "current", "NONE");
        refused("16x spawn; grow 3 2;", "spawn", "NO_PROCESS");
        refused("16x spawn; grow 3 2;", "fork 3", "NO_PROCESS");
        refused("spawn; grow 0 1; 15x fork 0; exit 4 5;", "spawn", "NO_PROCESS");
        refused(SOME, "store 0,1,2 128,-1,-64,MIN,MAX 5", "FAULT");
        refused(SOME, "reap 1,2,4", "NO_CHILD");
        refused("spawn; 2x fork 0;", "reap 0", "WAITS");
        refused(SOME, "load " + NOT_LIVE + " 0", "0");
        refused(SOME, "has 0,1,2 128,-1,MIN,MAX", "false");
        refused(SOME, "frame 0,1,2 2,-1,MIN,MAX", "NONE");
    }

    private static void spawnWithoutMemory() {
        refused("block 7;", "spawn", "NO_MEMORY");
        refused("block 6,5,4,3,2,1,0; 4x spawn; tick;", "2x spawn", "NO_MEMORY");
    }

    private static void forkWithoutMemory() {
        // No record.
        refused("block 6,5,4,3,2,1,0; 4x spawn;", "fork 2", "NO_MEMORY");
        // A place for the record, no table.
        refused("spawn; grow 0 64; store 0 0 3; block 5,4,3,2,1;", "2x fork 0", "NO_MEMORY");
        // A frame for the record, no table.
        refused("4x spawn; grow 0 64; block 5,4,3,2,0;", "fork 0", "NO_MEMORY");
        // A place for the record, three tables of five.
        refused("spawn; grow 0 80; block 5,3,2,0;", "3x fork 0", "NO_MEMORY");
        // A frame for the record, three tables of five.
        refused("4x spawn; grow 0 80; block 5,3,2;", "2x fork 0", "NO_MEMORY");
        // A frame for the record, another for four tables, but five are due.
        refused("4x spawn; grow 0 80; grow 1..3 1; block 5,3;", "2x fork 0", "NO_MEMORY");
        // Four places in two frames of tables, then none, but six are due.
        refused("spawn; grow 0 81; spawn; grow 1 17; 3x fork 1; exit 2 0; reap 1; 24x block 0;", "fork 0", "NO_MEMORY");
    }

    private static void growWithoutMemory() {
        // No table; a table, but no page; pages, then none; no fifth table.
        refused("block 6,5,4,3,2,1,0; spawn;", "grow 0 1", "NO_MEMORY");
        refused("block 6,5,4,3,2,1; spawn;", "grow 0 1", "NO_MEMORY");
        refused("block 6,5,4,3; spawn;", "grow 0 7", "NO_MEMORY");
        refused("block 5,4,3,2,1; spawn;", "grow 0 65", "NO_MEMORY");
        refused("spawn;", "grow 0 126", "NO_MEMORY");
        refused("spawn;", "grow 0 256", "NO_MEMORY");
        refused(SOME, "grow 0,1,2,4 120", "NO_MEMORY");
        refused("spawn; grow 0 125; store 0 7999 4;", "grow 0 1,131", "NO_MEMORY");
        // Tables in a frame that others use, too, and frames with gaps between.
        refused("2x spawn; grow 1 17; block 0; grow 1 1; block 0; exit 0 0; unblock 21;", "grow 1 110", "NO_MEMORY");
    }

    private static void storeWithoutMemory() {
        refused("block 6,5,4,3,2,0; spawn; grow 0 1; store 0 5 7; fork 0;", "store 0,1 5 8", "NO_MEMORY");
        refused("spawn; grow 0 100; store 0 64 7; fork 0; block 4,2,1,0;", "store 0,1 64 8", "NO_MEMORY");
    }

    private static void blockWithoutMemory() {
        refused("block 7;", "block 0..7", "NO_MEMORY");
        refused("block 0;", "block 7", "NO_MEMORY");
        refused("block 0,6;", "block 6,7", "NO_MEMORY");
        refused(SOME, "block 7", "NO_MEMORY");
    }
}
