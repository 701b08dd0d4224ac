/** The sentences of the document's Terms that name a boundary, each with a test of its own, for every method. */
public final class TermsTest {
    private static final int REFUSED = PastTree.REFUSED;
    private static final int DONE = PastTree.DONE;
    private static final long NONE = PastTree.NONE;
    private static final long LOST = PastTree.LOST;
    private static final int MAX = Integer.MAX_VALUE;
    private static final Checks checks = new Checks();

    private static void due(String call, long got, long want) {
        checks.due(call, got, want);
    }

    public static void main(String[] args) {
        clockIsZeroAtFirst();
        clockGoesBackByCrashAlone();
        nodesGoUpTo23();
        rootIsAFolderFromTheStart();
        rootIsNeverPlaced();
        nodesStayWhatTheyAre();
        aFolderHasEightNames();
        aNodeIsOneEntryAtMost();
        firstVersionIsMadeWithTheFile();
        aVersionAtTheLatestsTimeReplacesIt();
        aReplacedVersionIsSeenNoMore();
        aVersionAtAnotherTimeReplacesNone();
        changesAreTheAcceptedOnes();
        aChangeIsMadeAtTheClocksTime();
        entriesAsOfATimeCountItsOwnChanges();
        entriesAsOfATimeAreThoseOfItsLastChange();
        entriesAboveTheClockAreThoseOfNow();
        entriesAboveTheClockAfterACrash();
        versionAsOfATimeIsTheLatestAtOrBelow();
        versionAsOfATimeIsLookedForAmongGoneOnes();
        thereIsNoVersionBeforeTheFile();
        theLatestVersionHasNoNext();
        nextMustBeOlderThanTheWindow();
        nextMayComeGapAfterAndNotMore();
        nextCountsThoughItIsGone();
        aWindowWiderThanTheClockKeepsAll();
        anObjectTakes512Calls();
        checks.end();
    }

    private static void clockIsZeroAtFirst() {
        checks.about("'CLOCK. It shows a time, 0 at first'");
        due("count(0)", new PastTree(0, 0).count(0), 0);
        due("count(0), wide rule", new PastTree(1000, 1000).count(0), 0);
        due("tick(0)", new PastTree(5, 5).tick(0), 0);
        due("tick(1)", new PastTree(5, 5).tick(1), 1);
    }

    private static void clockGoesBackByCrashAlone() {
        checks.about("'that never goes back but by crash'");
        PastTree t = new PastTree(0, 1);
        t.make(0, 0, false);
        t.tick(1);
        t.sync();
        t.tick(5);
        t.make(0, 1, true);
        t.write(1, 0, 1);
        t.turnBack(1, 0);
        t.move(0, 0, 2, 0);
        t.remove(2, 0);
        t.putBack(0, 0, 3);
        t.look(0, 0, 0);
        t.next(0, 0, 0);
        t.read(0, 1, 0);
        t.below(0, 0);
        t.tick(-1);
        t.tick(0);
        due("after changes and questions", t.count(0), 6);
        t.crash();
        due("after a crash", t.count(0), 1);
        t.tick(2);
        t.thin(1);
        due("after thin", t.count(0), 3);
        t.sync();
        due("after sync", t.count(0), 3);
        t.crash();
        due("after a crash with nothing to lose", t.count(0), 3);
    }

    /** Nodes 1, 2 and 3 are folders in the root; the others are in them, the odd ones files. */
    private static PastTree fullTree() {
        PastTree t = new PastTree(0, 0);
        t.make(0, 0, true);
        t.make(0, 1, true);
        t.make(0, 2, true);
        for (int i = 4; i < 24; i++) {
            t.make((i - 4) / 8 + 1, i % 8, i % 2 == 0);
        }
        return t;
    }

    private static void nodesGoUpTo23() {
        checks.about("'NODES are numbered 0, 1, 2, .. up to 23'");
        PastTree t = fullTree();
        due("node 22 is a folder", t.node(22, 0), 1);
        due("node 23 is a file", t.node(23, 0), 2);
        due("look for 23", t.look(0, 3, 7), 23);
        due("write to 23", t.write(23, 3, 9), 1);
        due("read 23", t.read(0, 23, 3), 9);
        due("turnBack 23", t.turnBack(23, 0), 1);
        due("versionTime of 23", t.versionTime(23, 0), 0);
        due("thin 23", t.thin(23), 0);
        due("move 23 into 22", t.move(3, 7, 22, 7), DONE);
        due("look in 22", t.look(0, 22, 7), 23);
        due("next in 22", t.next(0, 22, 0), 7);
        due("below 22", t.below(0, 22), 1);
        t.tick(1);
        due("remove 23", t.remove(22, 7), DONE);
        due("putBack 23", t.putBack(22, 7, 0), 23);
        due("node 24 is none", t.node(24, 0), REFUSED);
    }

    private static void rootIsAFolderFromTheStart() {
        checks.about("'Node 0 is a folder, the root, from the start'");
        PastTree t = new PastTree(0, 0);
        due("node(0, 0)", t.node(0, 0), 1);
        due("look(0, 0, 0)", t.look(0, 0, 0), 0);
        due("next(0, 0, 0)", t.next(0, 0, 0), 8);
        due("below(0, 0)", t.below(0, 0), 0);
        due("write(0, 0, 1)", t.write(0, 0, 1), REFUSED);
        due("crash()", t.crash(), 0);
        due("node(0, 0) after a crash", t.node(0, 0), 1);
        due("count(1) after a crash", t.count(1), 1);
        due("make(0, 0, false)", t.make(0, 0, false), 1);
    }

    private static void rootIsNeverPlaced() {
        checks.about("'PLACED .. (the root never is)'");
        PastTree t = new PastTree(0, 0);
        t.make(0, 0, true);
        due("with an entry", t.node(0, 1), 0);
        due("and its entry is", t.node(1, 1), 1);
        due("no name leads to the root", t.move(0, 1, 1, 0), REFUSED);
        due("nor can it be removed", t.remove(1, 0), REFUSED);
        t.tick(1);
        due("nor put back", t.putBack(1, 0, 0), REFUSED);
        due("at the end", t.node(0, 1), 0);
        due("it takes entries all the same", t.make(0, 7, true), 2);
    }

    private static void nodesStayWhatTheyAre() {
        checks.about("'is a folder or a file, for good'");
        PastTree t = new PastTree(0, 0);
        t.make(0, 0, true);
        t.make(0, 1, false);
        t.tick(1);
        t.remove(0, 0);
        t.remove(0, 1);
        due("a removed folder", t.node(1, 0), 1);
        due("a removed file", t.node(2, 0), 2);
        due("look in a removed folder", t.look(1, 1, 0), 0);
        due("look in a removed file", t.look(1, 2, 0), REFUSED);
        due("a new node takes neither number", t.make(0, 0, false), 3);
        t.putBack(0, 1, 0);
        due("a file put back", t.node(2, 0), 2);
        due("is still no folder", t.make(2, 0, true), REFUSED);
        due("a folder is still no file", t.write(1, 0, 1), REFUSED);
    }

    private static void aFolderHasEightNames() {
        checks.about("'a folder has for each name 0 .. 7 an entry that is a node, or none'");
        PastTree t = new PastTree(0, 0);
        t.make(0, 7, true);
        for (int name = 0; name < 7; name++) {
            due("make(0, " + name + ")", t.make(0, name, false), 2 + name);
        }
        for (int name = 0; name < 8; name++) {
            due("make(1, " + name + ")", t.make(1, name, true), 9 + name);
        }
        for (int name = 0; name < 8; name++) {
            due("look(0, 0, " + name + ")", t.look(0, 0, name), name == 7 ? 1 : 2 + name);
            due("look(0, 1, " + name + ")", t.look(0, 1, name), 9 + name);
            due("look(0, 9, " + name + ")", t.look(0, 9, name), 0);
            due("a full folder takes none", t.make(0, name, true), REFUSED);
        }
        due("count(1)", t.count(1), 17);
    }

    private static int entriesThatAre(PastTree t, int node) {
        int found = 0;
        for (int folder = 0; folder < t.count(1); folder++) {
            for (int name = 0; name < 8; name++) {
                found += t.look(t.count(0), folder, name) == node ? 1 : 0;
            }
        }
        return found;
    }

    private static void aNodeIsOneEntryAtMost() {
        checks.about("'every node but the root is the entry of one folder and name at most'");
        PastTree t = new PastTree(0, 0);
        t.make(0, 0, true);
        t.make(0, 1, false);
        due("made", entriesThatAre(t, 2), 1);
        t.tick(1);
        t.move(0, 1, 1, 1);
        due("moved", entriesThatAre(t, 2), 1);
        due("where it was it can't be put back", t.putBack(0, 1, 0), REFUSED);
        due("still one", entriesThatAre(t, 2), 1);
        t.remove(1, 1);
        due("removed", entriesThatAre(t, 2), 0);
        due("PLACED", t.node(2, 1), 0);
        t.putBack(0, 1, 0);
        due("put back", entriesThatAre(t, 2), 1);
        due("PLACED", t.node(2, 1), 1);
    }

    private static void firstVersionIsMadeWithTheFile() {
        checks.about("'the first one is made with the file, all cells 0'");
        PastTree t = new PastTree(0, 0);
        t.tick(4);
        t.make(0, 0, false);
        due("versions", t.node(1, 2), 1);
        due("GONE", t.node(1, 3), 0);
        due("its time", t.node(1, 4), 4);
        due("version 0", t.versionTime(1, 0), 4);
        for (int cell = 0; cell < 4; cell++) {
            due("cell " + cell, t.read(4, 1, cell), 0);
        }
        t.write(1, 2, 7);
        t.crash();
        t.make(0, 0, false);
        due("the number used again, cell 2", t.read(0, 1, 2), 0);
        due("versions", t.node(1, 2), 1);
    }

    private static void aVersionAtTheLatestsTimeReplacesIt() {
        checks.about("'Making a version at a time at which the file's latest version was made replaces that one'");
        PastTree t = new PastTree(0, 0);
        t.make(0, 0, false);
        due("write at the making", t.write(1, 0, 1), 1);
        due("turnBack at the making", t.turnBack(1, 0), 1);
        due("tick(0) is no other time", t.tick(0), 0);
        due("write after tick(0)", t.write(1, 1, 2), 1);
        t.tick(1);
        due("write later", t.write(1, 2, 3), 2);
        due("write at that time", t.write(1, 3, 4), 2);
        due("turnBack at that time", t.turnBack(1, 0), 2);
        due("write after turnBack", t.write(1, 3, 5), 2);
        due("count of changes", t.count(2), 8);
        due("versions", t.node(1, 2), 2);
        due("version 0", t.versionTime(1, 0), 0);
        due("version 1", t.versionTime(1, 1), 1);
        due("version 2", t.versionTime(1, 2), REFUSED);
    }

    private static void aReplacedVersionIsSeenNoMore() {
        checks.about("'(its cells are then the new ones)'");
        PastTree t = new PastTree(0, 0);
        t.make(0, 0, false);
        t.write(1, 0, 10);
        t.write(1, 1, 11);
        due("cell 0 stays", t.read(0, 1, 0), 10);
        due("cell 1 is new", t.read(0, 1, 1), 11);
        t.tick(1);
        t.write(1, 0, 20);
        t.turnBack(1, 0);
        due("turned back", t.read(1, 1, 0), 10);
        t.write(1, 0, 30);
        t.tick(1);
        due("the last of that time", t.turnBack(1, 1), 3);
        due("cell 0", t.read(2, 1, 0), 30);
        due("cell 1", t.read(2, 1, 1), 11);
    }

    private static void aVersionAtAnotherTimeReplacesNone() {
        checks.about("a version at another time, be it 1 later and with the same cells, replaces none");
        PastTree t = new PastTree(0, 0);
        t.make(0, 0, false);
        t.tick(1);
        due("the same value", t.write(1, 0, 0), 2);
        t.tick(1);
        due("turnBack to the latest", t.turnBack(1, 2), 3);
        t.make(0, 1, false);
        due("another file's version at that time", t.write(2, 0, 1), 1);
        due("versions of the first", t.node(1, 2), 3);
        t.tick(1);
        t.remove(0, 0);
        due("a removal makes no version", t.node(1, 2), 3);
        due("its latest", t.node(1, 4), 2);
    }

    private static void changesAreTheAcceptedOnes() {
        checks.about("'CHANGES are the accepted calls of make, remove, move, write, turnBack and putBack'");
        PastTree t = new PastTree(0, 0);
        t.make(0, 0, false);
        due("make", t.count(2), 1);
        t.tick(1);
        due("tick is none", t.count(2), 1);
        t.move(0, 0, 0, 1);
        due("move", t.count(2), 2);
        t.remove(0, 1);
        due("remove", t.count(2), 3);
        t.putBack(0, 0, 0);
        due("putBack", t.count(2), 4);
        t.write(1, 0, 0);
        due("write of the same value", t.count(2), 5);
        t.turnBack(1, 1);
        due("turnBack to the same cells", t.count(2), 6);
        t.thin(1);
        t.sync();
        t.crash();
        due("thin, sync and crash are none", t.count(2), 6);
        t.move(0, 0, 0, 0);
        t.remove(0, 1);
        t.putBack(0, 0, 0);
        t.make(0, 0, true);
        t.write(1, 4, 1);
        t.turnBack(1, -1);
        due("refused ones are none", t.count(2), 6);
    }

    private static void aChangeIsMadeAtTheClocksTime() {
        checks.about("'each is made at the time that the clock shows'");
        PastTree t = new PastTree(0, 0);
        t.tick(1000);
        t.make(0, 0, false);
        due("make", t.look(1000, 0, 0), 1);
        due("one before", t.look(999, 0, 0), 0);
        t.tick(1);
        t.write(1, 0, 5);
        due("write", t.node(1, 4), 1001);
        t.tick(1);
        t.turnBack(1, 1000);
        due("turnBack to an older time", t.node(1, 4), 1002);
        t.remove(0, 0);
        due("remove", t.look(1002, 0, 0), 0);
        due("one before", t.look(1001, 0, 0), 1);
        t.tick(1);
        t.putBack(0, 0, 1000);
        due("putBack from an older time", t.look(1003, 0, 0), 1);
        due("one before", t.look(1002, 0, 0), 0);
    }

    private static void entriesAsOfATimeCountItsOwnChanges() {
        checks.about("'AS OF time t entries are what they were after the last change made at or before t'");
        PastTree t = new PastTree(0, 0);
        t.make(0, 0, true);
        t.tick(2);
        t.make(1, 0, false);
        t.tick(2);
        t.move(1, 0, 0, 7);
        int[] inFolder = {0, 0, 2, 2, 0, 0};
        int[] inRoot = {0, 0, 0, 0, 2, 2};
        for (int time = 0; time < 6; time++) {
            due("look(" + time + ", 1, 0)", t.look(time, 1, 0), inFolder[time]);
            due("look(" + time + ", 0, 7)", t.look(time, 0, 7), inRoot[time]);
            due("look(" + time + ", 0, 0)", t.look(time, 0, 0), 1);
            due("next(" + time + ", 1, 0)", t.next(time, 1, 0), inFolder[time] == 0 ? 8 : 0);
            due("next(" + time + ", 0, 1)", t.next(time, 0, 1), inRoot[time] == 0 ? 8 : 7);
            due("below(" + time + ", 0)", t.below(time, 0), time < 2 ? 1 : 2);
            due("below(" + time + ", 1)", t.below(time, 1), inFolder[time] == 0 ? 0 : 1);
        }
    }

    private static void entriesAsOfATimeAreThoseOfItsLastChange() {
        checks.about("of many changes at one time the last one's entries are seen");
        PastTree t = new PastTree(0, 0);
        t.make(0, 0, false);
        t.move(0, 0, 0, 1);
        t.move(0, 1, 0, 2);
        due("look(0, 0, 0)", t.look(0, 0, 0), 0);
        due("look(0, 0, 1)", t.look(0, 0, 1), 0);
        due("look(0, 0, 2)", t.look(0, 0, 2), 1);
        t.make(0, 0, true);
        t.remove(0, 0);
        due("made and removed at one time", t.look(0, 0, 0), 0);
        due("next", t.next(0, 0, 0), 2);
        due("below", t.below(0, 0), 1);
        t.tick(1);
        due("and so it can't be put back", t.putBack(0, 0, 0), REFUSED);
        t.remove(0, 2);
        due("what was passed by can't either", t.putBack(0, 1, 0), REFUSED);
        due("but the last one can", t.putBack(0, 2, 0), 1);
    }

    private static void entriesAboveTheClockAreThoseOfNow() {
        checks.about("'(none but what all changes leave, if t is above the clock)'");
        PastTree t = new PastTree(0, 0);
        t.make(0, 0, true);
        t.tick(3);
        t.make(1, 5, false);
        int[] times = {3, 4, 1003, MAX};
        for (int time : times) {
            due("look(" + time + ", 1, 5)", t.look(time, 1, 5), 2);
            due("look(" + time + ", 0, 0)", t.look(time, 0, 0), 1);
            due("look(" + time + ", 0, 5)", t.look(time, 0, 5), 0);
            due("next(" + time + ", 1, 0)", t.next(time, 1, 0), 5);
            due("below(" + time + ", 0)", t.below(time, 0), 2);
        }
        t.remove(1, 5);
        for (int time : times) {
            due("removed: look(" + time + ", 1, 5)", t.look(time, 1, 5), 0);
            due("removed: next(" + time + ", 1, 0)", t.next(time, 1, 0), 8);
            due("removed: below(" + time + ", 0)", t.below(time, 0), 1);
            due("removed: putBack(1, 5, " + time + ")", t.putBack(1, 5, time), REFUSED);
        }
    }

    private static void entriesAboveTheClockAfterACrash() {
        checks.about("a time that the clock showed before a crash is above it, till it comes there again");
        PastTree t = new PastTree(0, 0);
        t.make(0, 0, true);
        t.sync();
        t.tick(5);
        t.remove(0, 0);
        t.make(0, 1, false);
        t.tick(5);
        t.crash();
        due("look(5, 0, 0)", t.look(5, 0, 0), 1);
        due("look(10, 0, 1)", t.look(10, 0, 1), 0);
        due("read(10, 2, 0)", t.read(10, 2, 0), NONE);
        t.tick(7);
        t.move(0, 0, 0, 2);
        due("look(5, 0, 0) again", t.look(5, 0, 0), 1);
        due("look(6, 0, 2)", t.look(6, 0, 2), 0);
        due("look(7, 0, 2)", t.look(7, 0, 2), 1);
        due("look(7, 0, 0)", t.look(7, 0, 0), 0);
    }

    private static void versionAsOfATimeIsTheLatestAtOrBelow() {
        checks.about("'the version of a file AS OF t is its latest one with a time at or below t'");
        PastTree t = new PastTree(0, 0);
        t.tick(1);
        t.make(0, 0, false);
        t.tick(2);
        t.write(1, 0, 3);
        t.tick(2);
        t.write(1, 0, 5);
        long[] cells = {NONE, 0, 0, 3, 3, 5, 5};
        for (int time = 0; time < cells.length; time++) {
            due("read(" + time + ", 1, 0)", t.read(time, 1, 0), cells[time]);
        }
        due("read(MAX, 1, 0)", t.read(MAX, 1, 0), 5);
        for (int time = 1; time < cells.length; time++) {
            t.tick(1);
            t.turnBack(1, time);
            due("turnBack(1, " + time + ")", t.read(MAX, 1, 0), time < 6 ? cells[time] : 0);
        }
    }

    private static void versionAsOfATimeIsLookedForAmongGoneOnes() {
        checks.about("'GONE ones looked for as well'");
        PastTree t = new PastTree(0, 1);
        t.make(0, 0, false);
        t.write(1, 0, 10);
        t.tick(5);
        t.write(1, 0, 20);
        t.tick(1);
        t.write(1, 0, 30);
        t.tick(1);
        due("thin", t.thin(1), 1);
        due("the one before is not GONE", t.read(0, 1, 0), 10);
        due("nor just before", t.read(4, 1, 0), 10);
        due("the GONE one does not let it through", t.read(5, 1, 0), LOST);
        due("nor is the following one taken", t.turnBack(1, 5), REFUSED);
        due("the following one", t.read(6, 1, 0), 30);
        due("above the clock", t.read(MAX, 1, 0), 30);
    }

    private static void thereIsNoVersionBeforeTheFile() {
        checks.about("'there is none if the file was made later'");
        PastTree t = new PastTree(0, 1000);
        t.tick(2);
        t.make(0, 0, false);
        t.tick(1);
        t.write(1, 0, 1);
        t.tick(1);
        due("read(0)", t.read(0, 1, 0), NONE);
        due("read(1)", t.read(1, 1, 0), NONE);
        due("turnBack(0)", t.turnBack(1, 0), REFUSED);
        due("turnBack(1)", t.turnBack(1, 1), REFUSED);
        due("thin", t.thin(1), 1);
        due("none is not LOST", t.read(1, 1, 0), NONE);
        due("but the first one is", t.read(2, 1, 0), LOST);
        due("at the start", new PastTree(0, 0).read(0, 1, 0), NONE);
    }

    private static void theLatestVersionHasNoNext() {
        checks.about("'A version that has a NEXT goes'");
        PastTree t = new PastTree(0, 1000);
        t.make(0, 0, false);
        t.tick(1000);
        due("an only version never goes", t.thin(1), 0);
        t.write(1, 0, 1);
        t.tick(1000);
        due("the first", t.thin(1), 1);
        due("the latest never", t.thin(1), 0);
        due("and can be read", t.read(2000, 1, 0), 1);
        due("GONE", t.node(1, 3), 1);
    }

    /** Versions at 0 and at 4; thinned when the clock shows the time. */
    private static int thinnedAt(int window, int gap, int time) {
        PastTree t = new PastTree(window, gap);
        t.make(0, 0, false);
        t.tick(4);
        t.write(1, 0, 1);
        t.tick(time - 4);
        return t.thin(1);
    }

    private static void nextMustBeOlderThanTheWindow() {
        checks.about("'if its NEXT is older than the clock less WINDOW'");
        due("window 6 at 9", thinnedAt(6, 9, 9), 0);
        due("window 6 at 10, as old", thinnedAt(6, 9, 10), 0);
        due("window 6 at 11, older", thinnedAt(6, 9, 11), 1);
        due("window 0 at 4, as old", thinnedAt(0, 9, 4), 0);
        due("window 0 at 5, older", thinnedAt(0, 9, 5), 1);
        due("window 1000 at 1004, as old", thinnedAt(1000, 9, 1004), 0);
        due("window 999 at 1004, older", thinnedAt(999, 9, 1004), 1);
    }

    private static void nextMayComeGapAfterAndNotMore() {
        checks.about("'and its NEXT came not more than GAP after it'");
        due("gap 5", thinnedAt(0, 5, 9), 1);
        due("gap 4, as much", thinnedAt(0, 4, 9), 1);
        due("gap 3, more", thinnedAt(0, 3, 9), 0);
        due("gap 0", thinnedAt(0, 0, 9), 0);
    }

    private static void nextCountsThoughItIsGone() {
        checks.about("'The NEXT of a version is the file's following one, GONE or not'");
        PastTree t = new PastTree(2, 2);
        t.make(0, 0, false);
        t.tick(3);
        t.write(1, 0, 3);
        t.tick(2);
        t.write(1, 0, 5);
        t.tick(3);
        due("the middle one goes", t.thin(1), 1);
        due("the first stays, as its NEXT came too late", t.read(0, 1, 0), 0);
        t.tick(100);
        due("and stays", t.thin(1), 0);
        PastTree close = new PastTree(0, 1);
        close.make(0, 0, false);
        close.tick(1);
        close.write(1, 0, 1);
        close.tick(1);
        close.write(1, 0, 2);
        due("the first by its NEXT", close.thin(1), 1);
        close.tick(1);
        due("the NEXT later", close.thin(1), 1);
        due("none twice", close.thin(1), 0);
        due("GONE", close.node(1, 3), 2);
    }

    private static void aWindowWiderThanTheClockKeepsAll() {
        checks.about("the clock less WINDOW may be below 0");
        PastTree t = new PastTree(1000, 1000);
        t.make(0, 0, false);
        t.tick(1);
        t.write(1, 0, 1);
        t.tick(998);
        due("at 999", t.thin(1), 0);
        t.tick(1);
        due("at 1000", t.thin(1), 0);
        t.tick(1);
        due("at 1001", t.thin(1), 0);
        t.tick(1);
        due("at 1002", t.thin(1), 1);
    }

    private static void anObjectTakes512Calls() {
        checks.about("'An object is used for at most 512 calls after it has been made'");
        PastTree ticks = new PastTree(0, 0);
        for (int i = 1; i <= 512; i++) {
            due("tick", ticks.tick(1000), i * 1000);
        }
        PastTree moves = new PastTree(0, 0);
        moves.make(0, 0, false);
        for (int i = 0; i < 510; i++) {
            due("move", moves.move(0, i % 8, 0, (i + 1) % 8), DONE);
        }
        due("the 512th call", moves.look(0, 0, 6), 1);
        PastTree back = new PastTree(0, 0);
        back.make(0, 0, false);
        back.tick(1);
        for (int i = 0; i < 255; i++) {
            due("remove", back.remove(0, 0), DONE);
            due("putBack", back.putBack(0, 0, 0), 1);
        }
        PastTree turns = new PastTree(0, 0);
        turns.make(0, 0, false);
        for (int i = 1; i < 256; i++) {
            turns.tick(1);
            due("turnBack", turns.turnBack(1, i), i + 1);
        }
        due("the 512th call", turns.versionTime(1, 255), 255);
    }
}
