/** The boundaries that promises 14, 15, 16 and 18 name, a test for each sentence. */
public final class DurabilityEdgesTest {
    private static final int REFUSED = PastTree.REFUSED;
    private static final int DONE = PastTree.DONE;
    private static final long NONE = PastTree.NONE;
    private static final long LOST = PastTree.LOST;
    private static final int MIN = Integer.MIN_VALUE;
    private static final int MAX = Integer.MAX_VALUE;
    private static final Checks checks = new Checks();

    private static void due(String call, long got, long want) {
        checks.due(call, got, want);
    }

    public static void main(String[] args) {
        syncMakesAllDurable();
        syncMakesTheTimeDurable();
        syncAnswersTheChanges();
        syncCountsNoLostOnes();
        crashWithoutSyncGoesToTheStart();
        crashGoesToTheLastSync();
        crashGivesBackNodes();
        crashGivesBackEntriesAndTheirPast();
        crashGivesBackVersions();
        crashGivesBackAReplacedVersion();
        crashGoesToTheStateAfterThinning();
        crashLosesNothingTwice();
        crashAnswersHowManyWereLost();
        nodeNeedNotHaveBeenMade();
        nodeTellsTheKind();
        nodeTellsIfItIsPlaced();
        nodeTellsVersionsOfFilesAlone();
        nodeTellsHowManyVersions();
        nodeTellsHowManyAreGone();
        nodeTellsTheLatestsTime();
        nodeRefusesAnotherWhat();
        countTellsTheTime();
        countTellsTheNodes();
        countTellsTheChanges();
        countTellsWhatIsNotDurable();
        countRefusesAllElse();
        checks.end();
    }

    private static void syncMakesAllDurable() {
        checks.about("promise 14, 'All changes .. are durable'");
        PastTree t = new PastTree(0, 0);
        t.make(0, 0, true);
        t.make(0, 1, false);
        t.make(0, 2, false);
        t.make(0, 3, false);
        t.tick(1);
        t.write(2, 0, 5);
        t.turnBack(3, 0);
        t.move(0, 1, 1, 7);
        t.remove(0, 2);
        t.remove(0, 3);
        t.putBack(0, 3, 0);
        due("sync", t.sync(), 10);
        due("crash", t.crash(), 0);
        due("make", t.node(1, 0), 1);
        due("write", t.read(1, 2, 0), 5);
        due("turnBack", t.node(3, 2), 2);
        due("move", t.look(1, 1, 7), 2);
        due("remove", t.node(3, 1), 0);
        due("putBack", t.look(1, 0, 3), 4);
        due("the past", t.look(0, 0, 1), 2);
    }

    private static void syncMakesTheTimeDurable() {
        checks.about("promise 14, 'and the clock's time are durable'");
        PastTree t = new PastTree(0, 0);
        t.tick(1000);
        due("sync without a change", t.sync(), 0);
        t.tick(1000);
        due("crash", t.crash(), 0);
        due("count(0)", t.count(0), 1000);
        t.sync();
        t.crash();
        due("count(0) again", t.count(0), 1000);
    }

    private static void syncAnswersTheChanges() {
        checks.about("promise 14, 'Answers how many changes there were since the start'");
        PastTree t = new PastTree(0, 0);
        due("none", t.sync(), 0);
        t.make(0, 0, false);
        due("one", t.sync(), 1);
        due("again", t.sync(), 1);
        t.write(1, 0, 1);
        t.write(1, 0, 1);
        due("three, not two since the last", t.sync(), 3);
        t.make(0, 0, false);
        t.write(1, 9, 1);
        due("refused ones don't count", t.sync(), 3);
        due("count(2)", t.count(2), 3);
    }

    private static void syncCountsNoLostOnes() {
        checks.about("promise 14, 'those that a crash lost not counted'");
        PastTree t = new PastTree(0, 0);
        t.make(0, 0, false);
        t.write(1, 0, 1);
        t.crash();
        due("all lost", t.sync(), 0);
        t.make(0, 0, false);
        due("one", t.sync(), 1);
        t.write(1, 0, 1);
        t.write(1, 0, 2);
        t.crash();
        due("two lost", t.sync(), 1);
        t.write(1, 0, 3);
        due("one more", t.sync(), 2);
        t.write(1, 0, 4);
        t.thin(1);
        due("crash after thin", t.crash(), 0);
        due("thin's sync counts", t.sync(), 3);
    }

    private static void crashWithoutSyncGoesToTheStart() {
        checks.about("promise 15, 'or as at the start if there was none'");
        PastTree t = new PastTree(0, 0);
        due("a new object", t.crash(), 0);
        t.tick(3);
        t.make(0, 7, true);
        t.make(1, 0, false);
        t.write(2, 0, 5);
        due("crash", t.crash(), 3);
        due("count(0)", t.count(0), 0);
        due("count(1)", t.count(1), 1);
        due("count(2)", t.count(2), 0);
        due("count(3)", t.count(3), 0);
        due("node(0, 0)", t.node(0, 0), 1);
        due("node(1, 0)", t.node(1, 0), 0);
        due("node(2, 2)", t.node(2, 2), REFUSED);
        due("next(3, 0, 0)", t.next(3, 0, 0), 8);
        due("look in a lost folder", t.look(3, 1, 0), REFUSED);
        due("read of a lost file", t.read(3, 2, 0), NONE);
        due("a refused thin was no sync", t.thin(2), REFUSED);
        t.make(0, 0, true);
        due("crash", t.crash(), 1);
    }

    private static void crashGoesToTheLastSync() {
        checks.about("promise 15, 'what they were at the last sync'");
        PastTree t = new PastTree(0, 0);
        t.make(0, 0, false);
        t.sync();
        t.tick(1);
        t.write(1, 0, 1);
        t.sync();
        t.tick(1);
        t.write(1, 0, 2);
        due("crash", t.crash(), 1);
        due("the last, not the first", t.read(MAX, 1, 0), 1);
        due("count(0)", t.count(0), 1);
        t.sync();
        t.tick(5);
        due("a sync after a crash", t.crash(), 0);
        due("count(0)", t.count(0), 1);
        due("read", t.read(1, 1, 0), 1);
    }

    private static void crashGivesBackNodes() {
        checks.about("promise 15, 'Nodes .. are what they were'");
        PastTree t = new PastTree(0, 0);
        t.make(0, 0, true);
        t.sync();
        t.make(0, 1, true);
        t.make(2, 0, false);
        t.crash();
        due("count(1)", t.count(1), 2);
        due("the durable one", t.node(1, 0), 1);
        due("a lost folder", t.node(2, 0), 0);
        due("a lost file", t.node(3, 0), 0);
        due("make of another kind", t.make(1, 5, false), 2);
        due("is a file", t.node(2, 0), 2);
        due("where it is", t.look(0, 1, 5), 2);
        due("not where the lost one was", t.look(0, 0, 1), 0);
        due("make of another kind", t.make(1, 6, true), 3);
        due("is a folder", t.node(3, 0), 1);
        due("without versions", t.node(3, 2), REFUSED);
        due("without the lost one's entries", t.next(0, 3, 0), 8);
    }

    private static void crashGivesBackEntriesAndTheirPast() {
        checks.about("promise 15, 'entries .. are what they were'");
        PastTree t = new PastTree(0, 0);
        t.make(0, 0, true);
        t.make(0, 1, false);
        t.make(0, 2, false);
        t.tick(1);
        t.remove(0, 2);
        t.tick(1);
        t.sync();
        t.tick(1);
        t.move(0, 1, 1, 1);
        t.putBack(0, 2, 0);
        t.tick(1);
        t.remove(0, 2);
        t.remove(1, 1);
        t.remove(0, 0);
        due("crash", t.crash(), 5);
        due("a moved and removed one", t.look(2, 0, 1), 2);
        due("not where it was moved to", t.look(3, 1, 1), 0);
        due("a removed folder", t.node(1, 1), 1);
        due("one put back", t.node(3, 1), 0);
        due("its past", t.look(0, 0, 2), 3);
        due("no trace of the lost putBack", t.look(3, 0, 2), 0);
        due("nor can it be gone by", t.putBack(0, 2, 3), REFUSED);
        due("but by its own past", t.putBack(0, 2, 0), 3);
    }

    private static void crashGivesBackVersions() {
        checks.about("promise 15, 'versions .. are what they were'");
        PastTree t = new PastTree(0, 0);
        t.make(0, 0, false);
        t.tick(1);
        t.write(1, 0, 1);
        t.sync();
        t.tick(1);
        t.write(1, 0, 2);
        t.tick(1);
        t.turnBack(1, 0);
        due("crash", t.crash(), 2);
        due("versions", t.node(1, 2), 2);
        due("the latest's time", t.node(1, 4), 1);
        due("the latest", t.read(MAX, 1, 0), 1);
        due("version 2", t.versionTime(1, 2), REFUSED);
        t.tick(1);
        due("a new one", t.write(1, 1, 9), 3);
        due("on the durable cells", t.read(2, 1, 0), 1);
    }

    private static void crashGivesBackAReplacedVersion() {
        checks.about("promise 15, a version replaced at the time of the sync");
        PastTree t = new PastTree(0, 0);
        t.make(0, 0, false);
        t.tick(1);
        t.write(1, 0, 1);
        t.sync();
        due("replaced by write", t.write(1, 0, 2), 2);
        due("replaced by turnBack", t.turnBack(1, 0), 2);
        due("crash", t.crash(), 2);
        due("as it was", t.read(1, 1, 0), 1);
        due("versions", t.node(1, 2), 2);
        t.tick(4);
        t.write(1, 0, 3);
        t.crash();
        due("the clock went back to the latest's time", t.write(1, 0, 4), 2);
        t.sync();
        t.crash();
        due("durable now", t.read(1, 1, 0), 4);
    }

    private static void crashGoesToTheStateAfterThinning() {
        checks.about("promise 15, '(that of thin too, after its thinning)'");
        PastTree t = new PastTree(0, 1);
        t.make(0, 0, false);
        t.make(0, 1, false);
        t.tick(1);
        t.write(1, 0, 1);
        t.sync();
        t.tick(1);
        t.write(2, 0, 2);
        t.tick(1);
        due("thin", t.thin(1), 1);
        t.tick(1);
        t.write(1, 0, 3);
        t.write(2, 0, 3);
        due("crash", t.crash(), 2);
        due("the time of thin", t.count(0), 3);
        due("GONE", t.node(1, 3), 1);
        due("LOST", t.read(0, 1, 0), LOST);
        due("not to be turned back to", t.turnBack(1, 0), REFUSED);
        due("the write before thin", t.read(3, 2, 0), 2);
        due("the write after thin", t.read(MAX, 1, 0), 1);
        due("it went before", t.thin(1), 0);
    }

    private static void crashLosesNothingTwice() {
        checks.about("promise 15, a crash after a crash");
        PastTree t = new PastTree(0, 0);
        t.tick(1);
        t.make(0, 0, false);
        t.sync();
        t.tick(1);
        t.write(1, 0, 1);
        due("crash", t.crash(), 1);
        due("again", t.crash(), 0);
        due("count(0)", t.count(0), 1);
        due("count(2)", t.count(2), 1);
        due("read", t.read(MAX, 1, 0), 0);
        t.tick(1);
        t.write(1, 0, 1);
        due("the same again", t.crash(), 1);
        due("read", t.read(MAX, 1, 0), 0);
    }

    private static void crashAnswersHowManyWereLost() {
        checks.about("promise 15, 'Answers how many changes were lost'");
        PastTree t = new PastTree(0, 0);
        t.make(0, 0, true);
        t.make(0, 1, false);
        t.sync();
        t.tick(7);
        due("ticks are no changes", t.crash(), 0);
        t.tick(1);
        t.make(0, 2, false);
        t.move(0, 1, 1, 0);
        t.remove(0, 2);
        t.putBack(0, 1, 0);
        t.putBack(0, 1, 1);
        t.write(2, 0, 1);
        t.write(2, 0, 2);
        t.turnBack(2, 0);
        due("count(3)", t.count(3), 6);
        due("all but the refused ones", t.crash(), 6);
        due("count(3)", t.count(3), 0);
        due("count(2)", t.count(2), 2);
    }

    private static void nodeNeedNotHaveBeenMade() {
        checks.about("promise 16, 'a node 0 .. 23 (here it need not have been made)'");
        PastTree t = new PastTree(0, 0);
        for (int number = 1; number < 24; number++) {
            due("node(" + number + ", 0)", t.node(number, 0), 0);
            due("node(" + number + ", 1)", t.node(number, 1), 0);
            due("node(" + number + ", 2)", t.node(number, 2), REFUSED);
        }
        int[] wrong = {-1, 24, MIN, MAX};
        for (int number : wrong) {
            due("node(" + number + ", 0)", t.node(number, 0), REFUSED);
            due("node(" + number + ", 1)", t.node(number, 1), REFUSED);
        }
    }

    private static void nodeTellsTheKind() {
        checks.about("promise 16, '0: 0 not made, 1 folder, 2 file'");
        PastTree t = new PastTree(0, 0);
        t.make(0, 0, true);
        t.make(0, 1, false);
        due("the root", t.node(0, 0), 1);
        due("a folder", t.node(1, 0), 1);
        due("a file", t.node(2, 0), 2);
        due("not made", t.node(3, 0), 0);
        t.remove(0, 0);
        t.remove(0, 1);
        due("a removed folder", t.node(1, 0), 1);
        due("a removed file", t.node(2, 0), 2);
        t.crash();
        due("a lost folder", t.node(1, 0), 0);
    }

    private static void nodeTellsIfItIsPlaced() {
        checks.about("promise 16, '1: 1 if it is PLACED, else 0 (0 for the root)'");
        PastTree t = new PastTree(0, 0);
        due("the root", t.node(0, 1), 0);
        due("not made", t.node(1, 1), 0);
        t.make(0, 0, true);
        t.make(1, 7, false);
        due("a folder under the name 0 of the root", t.node(1, 1), 1);
        due("a file under the name 7", t.node(2, 1), 1);
        t.move(1, 7, 0, 1);
        due("moved", t.node(2, 1), 1);
        t.tick(1);
        t.remove(0, 1);
        due("removed", t.node(2, 1), 0);
        t.putBack(0, 1, 0);
        due("put back", t.node(2, 1), 1);
        due("the root", t.node(0, 1), 0);
        t.sync();
        t.remove(0, 1);
        t.crash();
        due("the removal was lost", t.node(2, 1), 1);
    }

    private static void nodeTellsVersionsOfFilesAlone() {
        checks.about("promise 16, 'and, REFUSED if it is no file: 2 .. 3 .. 4'");
        PastTree t = new PastTree(0, 0);
        t.make(0, 0, true);
        t.make(0, 1, false);
        for (int what = 2; what <= 4; what++) {
            due("the root, " + what, t.node(0, what), REFUSED);
            due("a folder, " + what, t.node(1, what), REFUSED);
            due("not made, " + what, t.node(3, what), REFUSED);
            due("the last, not made, " + what, t.node(23, what), REFUSED);
            due("a file, " + what, t.node(2, what), what == 2 ? 1 : 0);
        }
    }

    /** Versions at 1, 2 and 4, of which the first is GONE; the clock shows 5. */
    private static PastTree thinnedFile() {
        PastTree t = new PastTree(0, 1);
        t.tick(1);
        t.make(0, 0, false);
        t.tick(1);
        t.write(1, 0, 2);
        t.tick(2);
        t.write(1, 0, 4);
        t.tick(1);
        due("thin", t.thin(1), 1);
        return t;
    }

    private static void nodeTellsHowManyVersions() {
        checks.about("promise 16, '2 how many versions it has, GONE ones counted'");
        PastTree t = thinnedFile();
        due("three", t.node(1, 2), 3);
        t.write(1, 0, 5);
        due("four", t.node(1, 2), 4);
        t.write(1, 0, 6);
        due("one replaced", t.node(1, 2), 4);
        t.crash();
        due("one lost", t.node(1, 2), 3);
        t.remove(0, 0);
        due("not PLACED", t.node(1, 2), 3);
    }

    private static void nodeTellsHowManyAreGone() {
        checks.about("promise 16, '3 how many of them are GONE'");
        PastTree t = thinnedFile();
        due("one", t.node(1, 3), 1);
        t.write(1, 0, 5);
        t.tick(1);
        due("none goes by itself", t.node(1, 3), 1);
        t.thin(1);
        due("two", t.node(1, 3), 2);
        t.crash();
        due("two after a crash", t.node(1, 3), 2);
        t.make(0, 1, false);
        due("none of a new file", t.node(2, 3), 0);
    }

    private static void nodeTellsTheLatestsTime() {
        checks.about("promise 16, '4 the time of its latest one'");
        PastTree t = thinnedFile();
        due("of the last write", t.node(1, 4), 4);
        t.turnBack(1, 2);
        due("of a turnBack", t.node(1, 4), 5);
        t.crash();
        due("of the durable one", t.node(1, 4), 4);
        t.make(0, 1, false);
        due("of the making", t.node(2, 4), 5);
        PastTree first = new PastTree(0, 0);
        first.make(0, 0, false);
        due("time 0", first.node(1, 4), 0);
    }

    private static void nodeRefusesAnotherWhat() {
        checks.about("promise 16, 'Another what: REFUSED'");
        PastTree t = thinnedFile();
        int[] wrong = {-1, 5, 6, MIN, MAX};
        for (int what : wrong) {
            due("the root, " + what, t.node(0, what), REFUSED);
            due("a file, " + what, t.node(1, what), REFUSED);
            due("not made, " + what, t.node(2, what), REFUSED);
        }
    }

    private static void countTellsTheTime() {
        checks.about("promise 18, '0: the time'");
        PastTree t = new PastTree(0, 0);
        due("at first", t.count(0), 0);
        t.tick(1000);
        due("after tick(1000)", t.count(0), 1000);
        t.tick(0);
        t.tick(1001);
        due("after tick(0) and a refused one", t.count(0), 1000);
        t.crash();
        due("after a crash", t.count(0), 0);
    }

    private static void countTellsTheNodes() {
        checks.about("promise 18, '1: how many nodes were made, the root counted'");
        PastTree t = new PastTree(0, 0);
        due("the root", t.count(1), 1);
        t.make(0, 0, true);
        t.make(0, 0, true);
        due("one more, a refused one not", t.count(1), 2);
        t.remove(0, 0);
        due("a removed one counts", t.count(1), 2);
        for (int name = 0; name < 8; name++) {
            t.make(0, name, true);
        }
        for (int i = 0; i < 14; i++) {
            t.make(2 + i / 8, i % 8, false);
        }
        due("all", t.count(1), 24);
        due("one that is FULL", t.make(9, 7, false), PastTree.FULL);
        due("all", t.count(1), 24);
        t.crash();
        due("after a crash", t.count(1), 1);
    }

    private static void countTellsTheChanges() {
        checks.about("promise 18, '2: how many changes there were, as sync says'");
        PastTree t = new PastTree(0, 0);
        due("none", t.count(2), 0);
        t.make(0, 0, true);
        due("one", t.count(2), 1);
        due("as sync says", t.sync(), 1);
        t.make(1, 0, false);
        due("two", t.count(2), 2);
        t.crash();
        due("the lost one not counted", t.count(2), 1);
        due("as sync says", t.sync(), 1);
    }

    private static void countTellsWhatIsNotDurable() {
        checks.about("promise 18, '3: how many of them are not durable'");
        PastTree t = new PastTree(0, 0);
        due("none", t.count(3), 0);
        t.make(0, 0, false);
        t.write(1, 0, 1);
        due("two", t.count(3), 2);
        t.sync();
        due("after sync", t.count(3), 0);
        due("remove", t.remove(0, 0), DONE);
        due("one", t.count(3), 1);
        t.tick(1);
        due("a tick is none", t.count(3), 1);
        t.thin(1);
        due("after thin", t.count(3), 0);
        t.write(1, 0, 2);
        t.crash();
        due("after a crash", t.count(3), 0);
    }

    private static void countRefusesAllElse() {
        checks.about("promise 18, 'Else REFUSED'");
        PastTree t = new PastTree(0, 0);
        int[] wrong = {-1, 4, 5, MIN, MAX};
        for (int what : wrong) {
            due("count(" + what + ")", t.count(what), REFUSED);
        }
    }
}
