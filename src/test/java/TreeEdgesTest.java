/** The boundaries that promises 1 to 5, 8 to 10 and 12 name, a test for each sentence. */
public final class TreeEdgesTest {
    private static final int REFUSED = PastTree.REFUSED;
    private static final int FULL = PastTree.FULL;
    private static final int DONE = PastTree.DONE;
    private static final int MIN = Integer.MIN_VALUE;
    private static final int MAX = Integer.MAX_VALUE;
    private static final Checks checks = new Checks();

    private static void due(String call, long got, long want) {
        checks.due(call, got, want);
    }

    public static void main(String[] args) {
        windowIsClamped();
        gapIsClamped();
        tickTakesItsEnds();
        tickAnswersTheTime();
        makeTakesTheEndsOfNames();
        makeNeedsAPlacedFolderOrTheRoot();
        makeNeedsAFreeName();
        makeIsFullAfter24Nodes();
        makeIsNotFullAfterACrash();
        makeAnswersTheLeastNumber();
        removeNeedsAnEntry();
        removeNeedsAnEmptyFolder();
        removeTakesTheEntryAway();
        moveNeedsAnEntry();
        moveNeedsAPlacedOtherOrTheRoot();
        moveRefusesTheEntryItself();
        moveRefusesWhatIsBelowTheEntry();
        moveLooksAtTheEntriesOfNow();
        moveNeedsAFreeName();
        movePutsTheNodeAtOnePlace();
        putBackTakesTheEndsOfTimes();
        putBackNeedsAnEntryAsOfTheTime();
        putBackNeedsANodeThatIsNotPlaced();
        putBackNeedsAPlacedFolderOrTheRoot();
        putBackNeedsAFreeName();
        putBackNeverMakesARing();
        putBackPutsBackAnOlderPlace();
        putBackAnswersTheNode();
        putBackTellsNamesFromNodes();
        lookTakesItsEnds();
        lookAnswers0IfThereWasNone();
        nextTakesTheNameItself();
        nextAnswers8IfNone();
        belowCountsNotItself();
        belowCountsAllNodes();
        belowOfAFolderOutOfUse();
        checks.end();
    }

    private static void tickFar(PastTree t, int by) {
        int left = by;
        while (left > 0) {
            int step = Math.min(1000, left);
            t.tick(step);
            left -= step;
        }
    }

    /** Versions at 0 and at step; how many go when the second is so old as age says. */
    private static int thinned(int window, int gap, int step, int age) {
        PastTree t = new PastTree(window, gap);
        t.make(0, 0, false);
        tickFar(t, step);
        t.write(1, 0, 1);
        tickFar(t, age);
        return t.thin(1);
    }

    private static void windowIsClamped() {
        checks.about("promise 1, 'window: WINDOW, clamped to 0 .. 1000'");
        int[][] clamped = {{MIN, 0}, {-1000, 0}, {-1, 0}, {0, 0}, {1, 1}, {500, 500}, {999, 999}, {1000, 1000},
            {1001, 1000}, {2000, 1000}, {MAX, 1000}};
        for (int[] pair : clamped) {
            due("window " + pair[0] + ", as old", thinned(pair[0], 1000, 1, pair[1]), 0);
            due("window " + pair[0] + ", older", thinned(pair[0], 1000, 1, pair[1] + 1), 1);
        }
    }

    private static void gapIsClamped() {
        checks.about("promise 1, 'gap: GAP, clamped to 0 .. 1000'");
        int[][] clamped = {{MIN, 0}, {-1000, 0}, {-1, 0}, {0, 0}, {1, 1}, {500, 500}, {999, 999}, {1000, 1000},
            {1001, 1000}, {2000, 1000}, {MAX, 1000}};
        for (int[] pair : clamped) {
            due("gap " + pair[0] + ", more", thinned(0, pair[0], pair[1] + 1, 1), 0);
            if (pair[1] > 0) {
                due("gap " + pair[0] + ", as much", thinned(0, pair[0], pair[1], 1), 1);
            }
        }
    }

    private static void tickTakesItsEnds() {
        checks.about("promise 2, 'by 0 .. 1000'");
        PastTree t = new PastTree(0, 0);
        due("tick(-1)", t.tick(-1), REFUSED);
        due("tick(0)", t.tick(0), 0);
        due("tick(1)", t.tick(1), 1);
        due("tick(999)", t.tick(999), 1000);
        due("tick(1000)", t.tick(1000), 2000);
        due("tick(1001)", t.tick(1001), REFUSED);
        due("tick(MIN)", t.tick(MIN), REFUSED);
        due("tick(MAX)", t.tick(MAX), REFUSED);
        due("count(0)", t.count(0), 2000);
    }

    private static void tickAnswersTheTime() {
        checks.about("promise 2, 'Answers the time'");
        PastTree t = new PastTree(0, 0);
        due("tick(3)", t.tick(3), 3);
        due("tick(4)", t.tick(4), 7);
        t.sync();
        due("tick(5)", t.tick(5), 12);
        t.crash();
        due("tick(1) after a crash", t.tick(1), 8);
    }

    private static void makeTakesTheEndsOfNames() {
        checks.about("promise 3, 'a name 0 .. 7'");
        PastTree t = new PastTree(0, 0);
        due("make(0, -1)", t.make(0, -1, true), REFUSED);
        due("make(0, 0)", t.make(0, 0, true), 1);
        due("make(0, 7)", t.make(0, 7, true), 2);
        due("make(0, 8)", t.make(0, 8, true), REFUSED);
        due("make(2, 0)", t.make(2, 0, false), 3);
        due("make(1, 7)", t.make(1, 7, false), 4);
        due("make(1, 8)", t.make(1, 8, false), REFUSED);
        due("make(2, -1)", t.make(2, -1, false), REFUSED);
    }

    private static void makeNeedsAPlacedFolderOrTheRoot() {
        checks.about("promise 3, 'a folder (PLACED or the root, else REFUSED)'");
        PastTree t = new PastTree(0, 0);
        due("in the root", t.make(0, 0, true), 1);
        due("in a PLACED folder", t.make(1, 0, true), 2);
        t.tick(1);
        t.remove(1, 0);
        due("in a removed folder", t.make(2, 0, true), REFUSED);
        t.tick(1);
        due("in a removed folder, later", t.make(2, 0, false), REFUSED);
        t.putBack(1, 0, 0);
        due("in a folder put back", t.make(2, 0, false), 3);
        t.move(1, 0, 0, 1);
        due("in a moved folder", t.make(2, 1, false), 4);
    }

    private static void makeNeedsAFreeName() {
        checks.about("promise 3, 'a name that has none there (else REFUSED)'");
        PastTree t = new PastTree(0, 0);
        t.make(0, 0, true);
        t.make(0, 1, false);
        due("taken by a folder", t.make(0, 0, true), REFUSED);
        due("taken by a file", t.make(0, 1, false), REFUSED);
        due("taken in another folder only", t.make(1, 1, false), 3);
        t.remove(0, 1);
        due("free by a removal at the same time", t.make(0, 1, false), 4);
        t.move(0, 1, 0, 2);
        due("free by a move at the same time", t.make(0, 1, true), 5);
        due("taken by a move", t.make(0, 2, true), REFUSED);
        t.tick(1);
        due("still taken later", t.make(0, 2, true), REFUSED);
    }

    private static PastTree fullTree(boolean synced) {
        PastTree t = new PastTree(0, 0);
        t.make(0, 0, true);
        t.make(0, 1, true);
        t.make(0, 2, true);
        for (int i = 4; i < 23; i++) {
            t.make((i - 4) / 8 + 1, i % 8, false);
        }
        if (synced) {
            t.sync();
        }
        due("the 24th node", t.make(0, 7, false), 23);
        return t;
    }

    private static void makeIsFullAfter24Nodes() {
        checks.about("promise 3, '24 nodes were made: FULL'");
        PastTree t = fullTree(false);
        due("a folder", t.make(0, 3, true), FULL);
        due("a file", t.make(0, 3, false), FULL);
        due("count(1)", t.count(1), 24);
        due("count(2)", t.count(2), 23);
        t.remove(0, 7);
        due("a removed node counts", t.make(0, 7, false), FULL);
        due("'in that order', a taken name", t.make(0, 0, true), REFUSED);
        due("'in that order', a file as folder", t.make(4, 0, true), REFUSED);
        t.sync();
        due("after a sync", t.make(0, 3, true), FULL);
        due("what is no make goes on", t.move(0, 2, 0, 3), DONE);
    }

    private static void makeIsNotFullAfterACrash() {
        checks.about("promises 3 and 15, a crash takes back nodes that were made");
        PastTree synced = fullTree(true);
        due("FULL", synced.make(0, 3, true), FULL);
        due("crash", synced.crash(), 1);
        due("count(1)", synced.count(1), 23);
        due("room again", synced.make(0, 3, true), 23);
        due("FULL again", synced.make(0, 4, true), FULL);
        PastTree t = fullTree(false);
        due("crash to the start", t.crash(), 23);
        due("the least number again", t.make(0, 3, true), 1);
    }

    private static void makeAnswersTheLeastNumber() {
        checks.about("promise 3, 'Answers its number, the least that was not made'");
        PastTree t = new PastTree(0, 0);
        due("the first", t.make(0, 3, false), 1);
        t.make(0, 3, true);
        due("a refused one took none", t.make(0, 4, true), 2);
        t.remove(0, 3);
        due("a removed one gives none back", t.make(0, 3, true), 3);
        t.sync();
        t.make(0, 5, true);
        t.make(0, 6, true);
        t.crash();
        due("lost ones are given back", t.make(0, 6, false), 4);
        due("and one more", t.make(0, 5, false), 5);
    }

    private static void removeNeedsAnEntry() {
        checks.about("promise 4, 'The folder has no entry of that name 0 .. 7 .. REFUSED'");
        PastTree t = new PastTree(0, 0);
        due("in an empty root", t.remove(0, 0), REFUSED);
        t.make(0, 0, true);
        t.make(0, 7, false);
        due("the name between", t.remove(0, 1), REFUSED);
        due("in an empty folder", t.remove(1, 0), REFUSED);
        due("the name -1", t.remove(0, -1), REFUSED);
        due("the name 8", t.remove(0, 8), REFUSED);
        due("the name 0", t.remove(0, 0), DONE);
        due("the name 7", t.remove(0, 7), DONE);
        due("in a removed folder", t.remove(1, 0), REFUSED);
        due("again", t.remove(0, 7), REFUSED);
    }

    private static void removeNeedsAnEmptyFolder() {
        checks.about("promise 4, 'or the entry is a folder that has entries: REFUSED'");
        PastTree t = new PastTree(0, 0);
        t.make(0, 0, true);
        t.make(1, 0, false);
        due("an entry under the name 0", t.remove(0, 0), REFUSED);
        t.move(1, 0, 1, 7);
        due("an entry under the name 7", t.remove(0, 0), REFUSED);
        t.make(1, 3, true);
        t.remove(1, 7);
        due("an entry that is a folder", t.remove(0, 0), REFUSED);
        t.tick(1);
        due("at a later time", t.remove(0, 0), REFUSED);
        t.move(1, 3, 0, 1);
        due("its entry moved away at the same time", t.remove(0, 0), DONE);
        due("a folder that never had any", t.remove(0, 1), DONE);
    }

    private static void removeTakesTheEntryAway() {
        checks.about("promise 4, 'The entry is there no more. DONE'");
        PastTree t = new PastTree(0, 0);
        t.make(0, 0, true);
        t.make(1, 0, false);
        t.make(1, 7, false);
        t.tick(1);
        due("remove(1, 0)", t.remove(1, 0), DONE);
        due("it is not there", t.look(1, 1, 0), 0);
        due("it is not PLACED", t.node(2, 1), 0);
        due("it was there", t.look(0, 1, 0), 2);
        due("the other one is there", t.look(1, 1, 7), 3);
        due("and is PLACED", t.node(3, 1), 1);
        due("the folder is there", t.look(1, 0, 0), 1);
    }

    private static void moveNeedsAnEntry() {
        checks.about("promise 5, 'The folder has no entry of that name .. REFUSED'");
        PastTree t = new PastTree(0, 0);
        t.make(0, 0, true);
        t.make(0, 7, false);
        due("never there", t.move(0, 3, 1, 3), REFUSED);
        due("in an empty folder", t.move(1, 0, 0, 3), REFUSED);
        due("the name 7", t.move(0, 7, 1, 0), DONE);
        due("no more there", t.move(0, 7, 1, 1), REFUSED);
        due("the name 0 to the name 7", t.move(0, 0, 0, 7), DONE);
        t.remove(1, 0);
        due("removed", t.move(1, 0, 0, 0), REFUSED);
    }

    private static void moveNeedsAPlacedOtherOrTheRoot() {
        checks.about("promise 5, 'or other is not PLACED and not the root'");
        PastTree t = new PastTree(0, 0);
        t.make(0, 0, true);
        t.make(0, 1, true);
        t.make(1, 0, false);
        due("to the root", t.move(1, 0, 0, 2), DONE);
        due("to a PLACED folder", t.move(0, 2, 2, 2), DONE);
        t.tick(1);
        t.remove(0, 0);
        due("to a removed folder", t.move(2, 2, 1, 0), REFUSED);
        t.putBack(0, 0, 0);
        due("to a folder put back", t.move(2, 2, 1, 0), DONE);
    }

    private static void moveRefusesTheEntryItself() {
        checks.about("promise 5, 'or other is the entry itself'");
        PastTree t = new PastTree(0, 0);
        t.make(0, 0, true);
        t.make(1, 0, true);
        t.make(2, 0, true);
        due("with entries", t.move(0, 0, 1, 1), REFUSED);
        due("in the middle", t.move(1, 0, 2, 1), REFUSED);
        due("without entries", t.move(2, 0, 3, 1), REFUSED);
        due("to the folder where it is, another name", t.move(2, 0, 2, 1), DONE);
    }

    private static void moveRefusesWhatIsBelowTheEntry() {
        checks.about("promise 5, 'or a folder that can be come to from it by entries'");
        PastTree t = new PastTree(0, 0);
        t.make(0, 7, true);
        for (int i = 1; i < 23; i++) {
            t.make(i, 7, true);
        }
        for (int below = 2; below < 24; below++) {
            due("move 1 into " + below, t.move(0, 7, below, 0), REFUSED);
        }
        due("move 22 into 23", t.move(21, 7, 23, 0), REFUSED);
        due("move 23 into 21", t.move(22, 7, 21, 0), DONE);
        due("move 22 into 23 beside it", t.move(21, 7, 23, 7), DONE);
        due("move 23 into 22 below it", t.move(21, 0, 22, 0), REFUSED);
        due("move 12 to the root", t.move(11, 7, 0, 0), DONE);
        due("move 1 into the deepest, no more below it", t.move(0, 7, 22, 7), DONE);
        due("move 12 into 11, now below it", t.move(0, 0, 11, 0), REFUSED);
        due("all of them", t.below(0, 12), 22);
    }

    private static void moveLooksAtTheEntriesOfNow() {
        checks.about("promise 5, entries that were there once don't count");
        PastTree t = new PastTree(0, 0);
        t.make(0, 0, true);
        t.make(1, 0, true);
        t.tick(1);
        t.move(1, 0, 0, 1);
        due("once below it", t.move(0, 0, 2, 0), DONE);
        due("now below it", t.move(0, 1, 1, 0), REFUSED);
        t.tick(1);
        due("and still", t.move(0, 1, 1, 1), REFUSED);
    }

    private static void moveNeedsAFreeName() {
        checks.about("promise 5, 'or other has an entry as: REFUSED'");
        PastTree t = new PastTree(0, 0);
        t.make(0, 0, true);
        t.make(0, 1, false);
        t.make(1, 7, false);
        due("another one in another folder", t.move(0, 1, 1, 7), REFUSED);
        due("another one in the same folder", t.move(0, 1, 0, 0), REFUSED);
        due("the node itself", t.move(0, 1, 0, 1), REFUSED);
        due("the folder where other is", t.move(1, 7, 0, 0), REFUSED);
        due("count(2)", t.count(2), 3);
        t.remove(1, 7);
        due("free at the same time", t.move(0, 1, 1, 7), DONE);
        due("the name 0", t.move(1, 7, 1, 0), DONE);
    }

    private static void movePutsTheNodeAtOnePlace() {
        checks.about("promise 5, 'The node is the entry of other under as and no more of folder under name'");
        PastTree t = new PastTree(0, 0);
        t.make(0, 0, true);
        t.make(0, 1, true);
        t.make(2, 2, false);
        t.tick(1);
        due("move", t.move(0, 1, 1, 7), DONE);
        due("there", t.look(1, 1, 7), 2);
        due("no more here", t.look(1, 0, 1), 0);
        due("here before", t.look(0, 0, 1), 2);
        due("not there before", t.look(0, 1, 7), 0);
        due("its entries come along", t.look(1, 2, 2), 3);
        due("PLACED", t.node(2, 1), 1);
        due("and are below", t.below(1, 1), 2);
    }

    private static void putBackTakesTheEndsOfTimes() {
        checks.about("promise 8, 'time 0 or above, name 0 .. 7'");
        PastTree t = new PastTree(0, 0);
        t.make(0, 0, false);
        t.make(0, 7, false);
        t.tick(1);
        t.remove(0, 0);
        t.remove(0, 7);
        due("time -1", t.putBack(0, 0, -1), REFUSED);
        due("time MIN", t.putBack(0, 0, MIN), REFUSED);
        due("name -1", t.putBack(0, -1, 0), REFUSED);
        due("name 8", t.putBack(0, 8, 0), REFUSED);
        due("time 0, name 0", t.putBack(0, 0, 0), 1);
        due("time 0, name 7", t.putBack(0, 7, 0), 2);
    }

    private static void putBackNeedsAnEntryAsOfTheTime() {
        checks.about("promise 8, 'AS OF the time the folder had no such entry .. REFUSED'");
        PastTree t = new PastTree(0, 0);
        t.tick(2);
        t.make(0, 0, true);
        t.make(1, 0, false);
        t.tick(2);
        t.remove(1, 0);
        due("one before it was made", t.putBack(1, 0, 1), REFUSED);
        due("at its removal", t.putBack(1, 0, 4), REFUSED);
        due("above the clock", t.putBack(1, 0, 5), REFUSED);
        due("MAX", t.putBack(1, 0, MAX), REFUSED);
        due("another name", t.putBack(1, 1, 3), REFUSED);
        due("another folder", t.putBack(0, 1, 3), REFUSED);
        due("one before its removal", t.putBack(1, 0, 3), 2);
        t.remove(1, 0);
        due("when it was made", t.putBack(1, 0, 2), 2);
    }

    private static void putBackNeedsANodeThatIsNotPlaced() {
        checks.about("promise 8, 'or the node is PLACED now'");
        PastTree t = new PastTree(0, 0);
        t.make(0, 0, false);
        t.make(0, 1, true);
        t.tick(1);
        due("where it was", t.putBack(0, 0, 0), REFUSED);
        t.move(0, 0, 2, 0);
        due("in another folder", t.putBack(0, 0, 0), REFUSED);
        t.move(2, 0, 0, 7);
        due("under another name", t.putBack(0, 0, 0), REFUSED);
        t.remove(0, 7);
        due("no more", t.putBack(0, 0, 0), 1);
        due("and again", t.putBack(0, 0, 0), REFUSED);
    }

    private static void putBackNeedsAPlacedFolderOrTheRoot() {
        checks.about("promise 8, 'or the folder is not PLACED and not the root'");
        PastTree t = new PastTree(0, 0);
        t.make(0, 0, true);
        t.make(1, 0, false);
        t.tick(1);
        t.remove(1, 0);
        t.remove(0, 0);
        due("into a removed folder", t.putBack(1, 0, 0), REFUSED);
        due("into the root", t.putBack(0, 0, 0), 1);
        due("into a folder put back", t.putBack(1, 0, 0), 2);
    }

    private static void putBackNeedsAFreeName() {
        checks.about("promise 8, 'or has an entry of that name now'");
        PastTree t = new PastTree(0, 0);
        t.make(0, 0, false);
        t.tick(1);
        t.remove(0, 0);
        t.make(0, 0, true);
        due("a folder in its place", t.putBack(0, 0, 0), REFUSED);
        t.move(0, 0, 0, 1);
        due("moved away", t.putBack(0, 0, 0), 1);
        t.remove(0, 0);
        t.move(0, 1, 0, 0);
        due("moved in", t.putBack(0, 0, 0), REFUSED);
        t.remove(0, 0);
        due("removed", t.putBack(0, 0, 0), 1);
    }

    /** A node that is not PLACED has no entries, so only a folder that is not PLACED either could be meant here. */
    private static void putBackNeverMakesARing() {
        checks.about("promise 8, 'or is the node itself or can be come to from it by entries: REFUSED'");
        PastTree t = new PastTree(0, 0);
        t.make(0, 0, true);
        t.make(1, 0, true);
        t.tick(1);
        t.move(1, 0, 0, 1);
        t.move(0, 0, 2, 0);
        due("2 was in 1, and 1 is in 2 now", t.putBack(1, 0, 0), REFUSED);
        due("2 is PLACED, with 1 in it", t.remove(0, 1), REFUSED);
        t.remove(2, 0);
        t.remove(0, 1);
        due("neither is PLACED", t.putBack(1, 0, 0), REFUSED);
        due("nor the other way round", t.putBack(2, 0, 1), REFUSED);
        due("1 to the root", t.putBack(0, 0, 0), 1);
        due("2 into 1", t.putBack(1, 0, 0), 2);
        due("below the root", t.below(1, 0), 2);
    }

    private static void putBackPutsBackAnOlderPlace() {
        checks.about("promise 8, 'The node is that entry of the folder again'");
        PastTree t = new PastTree(0, 0);
        t.make(0, 0, true);
        t.make(1, 3, false);
        t.tick(1);
        t.move(1, 3, 0, 7);
        t.tick(1);
        t.remove(0, 7);
        due("the place before the last", t.putBack(1, 3, 0), 2);
        due("is there", t.look(2, 1, 3), 2);
        due("not at the last place", t.look(2, 0, 7), 0);
        due("PLACED", t.node(2, 1), 1);
        t.remove(1, 3);
        due("the last place", t.putBack(0, 7, 1), 2);
        due("is there", t.look(2, 0, 7), 2);
        due("the past stays", t.look(1, 1, 3), 0);
        due("the past stays", t.look(0, 1, 3), 2);
    }

    private static void putBackAnswersTheNode() {
        checks.about("promise 8, 'Answers the node'");
        PastTree t = new PastTree(0, 0);
        for (int i = 1; i < 4; i++) {
            t.make(0, 0, i == 2);
            t.tick(1);
            t.remove(0, 0);
        }
        for (int i = 1; i < 4; i++) {
            due("the one of time " + (i - 1), t.putBack(0, 0, i - 1), i);
            t.remove(0, 0);
        }
    }

    private static void putBackTellsNamesFromNodes() {
        checks.about("promise 8, a name that is the node's number is no node");
        PastTree t = new PastTree(0, 0);
        for (int i = 1; i < 8; i++) {
            t.make(0, i, i % 2 == 0);
        }
        t.tick(1);
        for (int i = 1; i < 8; i++) {
            t.remove(0, i);
        }
        for (int i = 1; i < 8; i++) {
            due("putBack(0, " + i + ", 0)", t.putBack(0, i, 0), i);
            due("look(1, 0, " + i + ")", t.look(1, 0, i), i);
        }
    }

    private static void lookTakesItsEnds() {
        checks.about("promise 9, 'time 0 or above, name 0 .. 7'");
        PastTree t = new PastTree(0, 0);
        t.make(0, 0, false);
        t.make(0, 7, false);
        due("time -1", t.look(-1, 0, 0), REFUSED);
        due("time MIN", t.look(MIN, 0, 0), REFUSED);
        due("time 0", t.look(0, 0, 0), 1);
        due("time MAX", t.look(MAX, 0, 0), 1);
        due("name -1", t.look(0, 0, -1), REFUSED);
        due("name 7", t.look(0, 0, 7), 2);
        due("name 8", t.look(0, 0, 8), REFUSED);
    }

    private static void lookAnswers0IfThereWasNone() {
        checks.about("promise 9, '0 if it had none'");
        PastTree t = new PastTree(0, 0);
        due("a new root", t.look(0, 0, 0), 0);
        t.tick(1);
        t.make(0, 3, true);
        due("before it", t.look(0, 0, 3), 0);
        due("another name", t.look(1, 0, 2), 0);
        due("a folder not made then", t.look(0, 1, 3), 0);
        due("an empty folder", t.look(1, 1, 3), 0);
        t.tick(1);
        t.remove(0, 3);
        due("removed", t.look(2, 0, 3), 0);
        due("a removed folder", t.look(2, 1, 3), 0);
        due("before the removal", t.look(1, 0, 3), 1);
    }

    private static void nextTakesTheNameItself() {
        checks.about("promise 10, 'The least name at or above it'");
        PastTree t = new PastTree(0, 0);
        t.make(0, 7, false);
        t.make(0, 0, true);
        t.make(0, 4, false);
        int[] least = {0, 4, 4, 4, 4, 7, 7, 7};
        for (int name = 0; name < 8; name++) {
            due("next(0, 0, " + name + ")", t.next(0, 0, name), least[name]);
        }
        due("time MAX", t.next(MAX, 0, 1), 4);
        due("time -1", t.next(-1, 0, 1), REFUSED);
        due("name -1", t.next(0, 0, -1), REFUSED);
        due("name 8", t.next(0, 0, 8), REFUSED);
    }

    private static void nextAnswers8IfNone() {
        checks.about("promise 10, '8 if none'");
        PastTree t = new PastTree(0, 0);
        due("a new root", t.next(0, 0, 0), 8);
        due("a new root, the last name", t.next(0, 0, 7), 8);
        t.tick(1);
        t.make(0, 6, true);
        due("above the last entry", t.next(1, 0, 7), 8);
        due("at it", t.next(1, 0, 6), 6);
        due("before it was made", t.next(0, 0, 0), 8);
        due("an empty folder", t.next(1, 1, 0), 8);
        due("a folder not made then", t.next(0, 1, 0), 8);
        t.tick(1);
        t.remove(0, 6);
        due("after its removal", t.next(2, 0, 0), 8);
        due("before its removal", t.next(1, 0, 0), 6);
    }

    private static void belowCountsNotItself() {
        checks.about("promise 12, 'itself not counted'");
        PastTree t = new PastTree(0, 0);
        due("a new root", t.below(0, 0), 0);
        t.make(0, 0, true);
        due("an empty folder", t.below(0, 1), 0);
        due("the root with one", t.below(0, 0), 1);
        t.make(1, 0, false);
        due("the folder with a file", t.below(0, 1), 1);
        due("the root with both", t.below(0, 0), 2);
        due("time -1", t.below(-1, 0), REFUSED);
        due("time MAX", t.below(MAX, 0), 2);
    }

    private static void belowCountsAllNodes() {
        checks.about("promise 12, 'How many nodes could be come to from the folder by entries'");
        PastTree deep = new PastTree(0, 0);
        for (int i = 0; i < 23; i++) {
            deep.make(i, 7, true);
        }
        for (int i = 0; i < 24; i++) {
            due("a chain from " + i, deep.below(0, i), 23 - i);
        }
        PastTree wide = new PastTree(0, 0);
        for (int name = 0; name < 8; name++) {
            wide.make(0, name, true);
        }
        for (int i = 9; i < 24; i++) {
            wide.make((i - 9) / 2 + 1, i % 2, i % 2 == 0);
        }
        due("all the 24 nodes", wide.below(0, 0), 23);
        for (int i = 1; i < 9; i++) {
            due("folder " + i, wide.below(0, i), i < 8 ? 2 : 1);
        }
    }

    private static void belowOfAFolderOutOfUse() {
        checks.about("promise 12, a folder that is not PLACED, now or then");
        PastTree t = new PastTree(0, 0);
        t.tick(1);
        t.make(0, 0, true);
        t.make(1, 0, false);
        t.tick(1);
        t.remove(1, 0);
        t.remove(0, 0);
        due("before it was made", t.below(0, 1), 0);
        due("the root before", t.below(0, 0), 0);
        due("as long as it was in use", t.below(1, 1), 1);
        due("the root then", t.below(1, 0), 2);
        due("removed", t.below(2, 1), 0);
        due("the root then", t.below(2, 0), 0);
    }
}
