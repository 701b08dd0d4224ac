/** The boundaries that promises 6, 7, 11, 13 and 17 name, a test for each sentence. */
public final class FileEdgesTest {
    private static final int REFUSED = PastTree.REFUSED;
    private static final long NONE = PastTree.NONE;
    private static final long LOST = PastTree.LOST;
    private static final int MIN = Integer.MIN_VALUE;
    private static final int MAX = Integer.MAX_VALUE;
    private static final Checks checks = new Checks();

    private static void due(String call, long got, long want) {
        checks.due(call, got, want);
    }

    public static void main(String[] args) {
        writeTakesTheEndsOfCells();
        writeTakesAnyValue();
        writeTakesFilesThatAreNotPlaced();
        writeKeepsTheOtherCells();
        writeCountsGoneVersions();
        turnBackTakesTheEndsOfTimes();
        turnBackNeedsAVersionAsOfTheTime();
        turnBackRefusesGoneOnes();
        turnBackTakesAllCells();
        turnBackReplacesAtTheLatestsTime();
        turnBackCountsGoneVersions();
        turnBackTakesFilesThatAreNotPlaced();
        readTakesItsEnds();
        readAnswersNoneIfThereIsNone();
        readAnswersLostIfItIsGone();
        readTellsValuesFromAnswers();
        thinIsASyncFirst();
        thinIsASyncThoughNoneGoes();
        thinGoesByTheVersionsBefore();
        thinCountsThoseNotGoneBefore();
        thinLooksAtItsFileAlone();
        thinIsNoChange();
        versionTimeTakesItsEnds();
        versionTimeTellsOfGoneOnes();
        versionTimeAfterReplacingAndCrash();
        checks.end();
    }

    private static void writeTakesTheEndsOfCells() {
        checks.about("promise 6, 'Cell 0 .. 3 of a file'");
        PastTree t = new PastTree(0, 0);
        t.make(0, 0, false);
        due("cell -1", t.write(1, -1, 5), REFUSED);
        due("cell 0", t.write(1, 0, 10), 1);
        due("cell 1", t.write(1, 1, 11), 1);
        due("cell 2", t.write(1, 2, 12), 1);
        due("cell 3", t.write(1, 3, 13), 1);
        due("cell 4", t.write(1, 4, 14), REFUSED);
        for (int cell = 0; cell < 4; cell++) {
            due("read cell " + cell, t.read(0, 1, cell), 10 + cell);
        }
        due("count(2)", t.count(2), 5);
    }

    private static void writeTakesAnyValue() {
        checks.about("promise 6, 'which has the value'");
        PastTree t = new PastTree(0, 0);
        t.make(0, 0, false);
        int[] values = {MIN, -2, -1, 0, 1, 255, 256, 65536, MAX};
        for (int value : values) {
            t.tick(1);
            t.write(1, 3, value);
            due("value " + value, t.read(t.count(0), 1, 3), value);
        }
        for (int i = 0; i < values.length; i++) {
            due("still " + values[i], t.read(i + 1, 1, 3), values[i]);
        }
        due("at first", t.read(0, 1, 3), 0);
    }

    private static void writeTakesFilesThatAreNotPlaced() {
        checks.about("promise 6, 'PLACED or not'");
        PastTree t = new PastTree(0, 0);
        t.make(0, 0, true);
        t.make(1, 0, false);
        due("PLACED", t.write(2, 0, 1), 1);
        t.tick(1);
        t.remove(1, 0);
        due("not PLACED", t.write(2, 0, 2), 2);
        t.remove(0, 0);
        t.tick(1);
        due("its folder not PLACED either", t.write(2, 0, 3), 3);
        due("not PLACED by it", t.node(2, 1), 0);
        t.putBack(0, 0, 0);
        t.putBack(1, 0, 0);
        due("put back, with what was written", t.read(2, 2, 0), 3);
    }

    private static void writeKeepsTheOtherCells() {
        checks.about("promise 6, 'with the latest one's cells but for this one'");
        PastTree t = new PastTree(0, 0);
        t.make(0, 0, false);
        t.write(1, 0, 1);
        t.tick(1);
        t.write(1, 1, 2);
        t.tick(1);
        t.write(1, 2, 3);
        t.write(1, 3, 4);
        int[][] cells = {{1, 0, 0, 0}, {1, 2, 0, 0}, {1, 2, 3, 4}};
        for (int time = 0; time < 3; time++) {
            for (int cell = 0; cell < 4; cell++) {
                due("read(" + time + ", 1, " + cell + ")", t.read(time, 1, cell), cells[time][cell]);
            }
        }
        t.make(0, 1, false);
        due("another file's cells are its own", t.read(2, 2, 0), 0);
    }

    /** Versions at 0, 1 and 2, of which the first two are GONE; the clock shows 3. */
    private static PastTree thinnedFile() {
        PastTree t = new PastTree(0, 1);
        t.make(0, 0, false);
        t.write(1, 0, 10);
        t.tick(1);
        t.write(1, 0, 20);
        t.tick(1);
        t.write(1, 0, 30);
        t.tick(1);
        due("thin", t.thin(1), 2);
        return t;
    }

    private static void writeCountsGoneVersions() {
        checks.about("promise 6, 'Answers how many versions the file has, GONE ones counted'");
        PastTree t = thinnedFile();
        due("the fourth", t.write(1, 1, 1), 4);
        due("in its place", t.write(1, 1, 2), 4);
        due("the latest one's cells", t.read(3, 1, 0), 30);
        due("node(1, 2)", t.node(1, 2), 4);
        due("node(1, 3)", t.node(1, 3), 2);
    }

    private static void turnBackTakesTheEndsOfTimes() {
        checks.about("promise 7, 'time 0 or above'");
        PastTree t = new PastTree(0, 0);
        t.make(0, 0, false);
        t.write(1, 0, 1);
        t.tick(1);
        t.write(1, 0, 2);
        t.tick(1);
        due("time -1", t.turnBack(1, -1), REFUSED);
        due("time MIN", t.turnBack(1, MIN), REFUSED);
        due("time MAX", t.turnBack(1, MAX), 3);
        due("is the latest", t.read(2, 1, 0), 2);
        due("time 0", t.turnBack(1, 0), 3);
        due("is the first", t.read(2, 1, 0), 1);
        due("time 1", t.turnBack(1, 1), 3);
        due("is the second", t.read(2, 1, 0), 2);
    }

    private static void turnBackNeedsAVersionAsOfTheTime() {
        checks.about("promise 7, 'There is no version of the file AS OF the time .. REFUSED'");
        PastTree t = new PastTree(0, 0);
        t.make(0, 1, false);
        t.tick(3);
        t.make(0, 0, false);
        t.tick(1);
        due("time 0", t.turnBack(2, 0), REFUSED);
        due("one before it was made", t.turnBack(2, 2), REFUSED);
        due("when it was made", t.turnBack(2, 3), 2);
        due("a file made before", t.turnBack(1, 2), 2);
        due("count(2)", t.count(2), 4);
    }

    private static void turnBackRefusesGoneOnes() {
        checks.about("promise 7, 'or it is GONE: REFUSED'");
        PastTree t = thinnedFile();
        due("the first", t.turnBack(1, 0), REFUSED);
        due("the second", t.turnBack(1, 1), REFUSED);
        due("count(2)", t.count(2), 4);
        due("versions", t.node(1, 2), 3);
        due("the latest", t.turnBack(1, 2), 4);
        due("its cells", t.read(3, 1, 0), 30);
    }

    private static void turnBackTakesAllCells() {
        checks.about("promise 7, 'A version is made with its cells'");
        PastTree t = new PastTree(0, 0);
        t.make(0, 0, false);
        for (int cell = 0; cell < 4; cell++) {
            t.write(1, cell, 10 + cell);
        }
        t.tick(1);
        for (int cell = 0; cell < 4; cell++) {
            t.write(1, cell, 20 + cell);
        }
        t.tick(1);
        due("turnBack", t.turnBack(1, 0), 3);
        t.write(1, 3, 99);
        for (int cell = 0; cell < 4; cell++) {
            due("first, cell " + cell, t.read(0, 1, cell), 10 + cell);
            due("second, cell " + cell, t.read(1, 1, cell), 20 + cell);
            due("third, cell " + cell, t.read(2, 1, cell), cell == 3 ? 99 : 10 + cell);
        }
    }

    private static void turnBackReplacesAtTheLatestsTime() {
        checks.about("promise 7, at the latest version's time");
        PastTree t = new PastTree(0, 0);
        t.make(0, 0, false);
        due("of an only version", t.turnBack(1, 0), 1);
        t.tick(1);
        t.write(1, 0, 5);
        due("to the one before", t.turnBack(1, 0), 2);
        due("what was written is away", t.read(1, 1, 0), 0);
        due("and can't be turned back to", t.turnBack(1, 1), 2);
        due("still away", t.read(MAX, 1, 0), 0);
        due("count(2)", t.count(2), 5);
    }

    private static void turnBackCountsGoneVersions() {
        checks.about("promise 7, 'Answers how many versions the file has, GONE ones counted'");
        PastTree t = thinnedFile();
        due("the fourth", t.turnBack(1, 2), 4);
        due("in its place", t.turnBack(1, 3), 4);
        t.tick(1);
        due("the fifth", t.turnBack(1, MAX), 5);
    }

    private static void turnBackTakesFilesThatAreNotPlaced() {
        checks.about("promise 7, no word asks for a PLACED file");
        PastTree t = new PastTree(0, 0);
        t.make(0, 0, false);
        t.tick(1);
        t.write(1, 0, 1);
        t.remove(0, 0);
        t.tick(1);
        due("turnBack", t.turnBack(1, 0), 3);
        due("read", t.read(2, 1, 0), 0);
        due("not PLACED by it", t.node(1, 1), 0);
    }

    private static void readTakesItsEnds() {
        checks.about("promise 11, 'time 0 or above, cell 0 .. 3'");
        PastTree t = new PastTree(0, 0);
        t.make(0, 0, false);
        t.write(1, 0, 5);
        t.write(1, 3, 6);
        due("time -1", t.read(-1, 1, 0), NONE);
        due("time MIN", t.read(MIN, 1, 0), NONE);
        due("time 0", t.read(0, 1, 0), 5);
        due("time MAX", t.read(MAX, 1, 0), 5);
        due("cell -1", t.read(0, 1, -1), NONE);
        due("cell 3", t.read(0, 1, 3), 6);
        due("cell 4", t.read(0, 1, 4), NONE);
        t.remove(0, 0);
        due("a file that is not PLACED", t.read(0, 1, 3), 6);
    }

    private static void readAnswersNoneIfThereIsNone() {
        checks.about("promise 11, 'NONE if there is none'");
        PastTree t = new PastTree(0, 0);
        due("a file not made", t.read(0, 1, 0), NONE);
        t.tick(2);
        t.make(0, 0, false);
        due("time 0", t.read(0, 1, 0), NONE);
        due("one before it was made", t.read(1, 1, 0), NONE);
        due("when it was made", t.read(2, 1, 0), 0);
        t.crash();
        due("made and lost", t.read(2, 1, 0), NONE);
    }

    private static void readAnswersLostIfItIsGone() {
        checks.about("promise 11, 'LOST if it is GONE'");
        PastTree t = thinnedFile();
        for (int cell = 0; cell < 4; cell++) {
            due("the first, cell " + cell, t.read(0, 1, cell), LOST);
            due("the second, cell " + cell, t.read(1, 1, cell), LOST);
        }
        due("the latest", t.read(2, 1, 0), 30);
        due("a wrong cell of a GONE one", t.read(0, 1, 4), NONE);
        t.crash();
        due("GONE after a crash", t.read(1, 1, 0), LOST);
        due("the latest after a crash", t.read(2, 1, 0), 30);
    }

    private static void readTellsValuesFromAnswers() {
        checks.about("promise 11, a cell that looks like REFUSED or FULL is a value");
        PastTree t = new PastTree(0, 0);
        t.make(0, 0, false);
        t.write(1, 0, -1);
        t.write(1, 1, -2);
        t.write(1, 2, (int) NONE);
        t.write(1, 3, (int) LOST);
        due("-1", t.read(0, 1, 0), -1);
        due("-2", t.read(0, 1, 1), -2);
        due("the low half of NONE", t.read(0, 1, 2), (int) NONE);
        due("the low half of LOST", t.read(0, 1, 3), (int) LOST);
    }

    private static void thinIsASyncFirst() {
        checks.about("promise 13, 'First everything becomes durable as by sync'");
        PastTree t = new PastTree(0, 1);
        t.make(0, 0, false);
        t.make(0, 1, true);
        t.make(2, 0, false);
        t.tick(1);
        t.write(1, 0, 1);
        t.write(3, 0, 7);
        t.move(2, 0, 0, 2);
        t.tick(1);
        due("not durable", t.count(3), 6);
        due("thin", t.thin(1), 1);
        due("all durable", t.count(3), 0);
        due("the clock too", t.tick(9), 11);
        due("crash", t.crash(), 0);
        due("the time", t.count(0), 2);
        due("another file's version", t.read(1, 3, 0), 7);
        due("an entry", t.look(2, 0, 2), 3);
        due("the thinning", t.read(0, 1, 0), LOST);
    }

    private static void thinIsASyncThoughNoneGoes() {
        checks.about("promise 13, none goes and all is durable");
        PastTree t = new PastTree(1000, 0);
        t.make(0, 0, false);
        t.tick(3);
        due("thin", t.thin(1), 0);
        due("not durable", t.count(3), 0);
        t.tick(1);
        t.write(1, 0, 1);
        due("crash", t.crash(), 1);
        due("the time", t.count(0), 3);
        due("the file", t.node(1, 0), 2);
        t.make(0, 1, true);
        due("a refused thin is no sync", t.thin(2), REFUSED);
        due("crash", t.crash(), 1);
        due("the folder was lost", t.node(2, 0), 0);
    }

    private static void thinGoesByTheVersionsBefore() {
        checks.about("promise 13, 'all by the versions there were before'");
        PastTree t = new PastTree(0, 2);
        t.make(0, 0, false);
        for (int i = 1; i <= 5; i++) {
            t.tick(i == 3 ? 3 : 2);
            t.write(1, 0, i);
        }
        t.tick(1);
        due("all but the one before the wide step and the last", t.thin(1), 4);
        int[] times = {0, 2, 4, 7, 9, 11};
        boolean[] gone = {true, true, false, true, true, false};
        for (int k = 0; k < 6; k++) {
            due("time of " + k, t.versionTime(1, k), times[k]);
            due("read " + k, t.read(times[k], 1, 0), gone[k] ? LOST : k);
        }
        due("nothing more goes by the GONE ones", t.thin(1), 0);
    }

    private static void thinCountsThoseNotGoneBefore() {
        checks.about("promise 13, 'Answers how many went that were not GONE before'");
        PastTree t = thinnedFile();
        due("none again", t.thin(1), 0);
        t.write(1, 0, 40);
        due("the third is followed by one at the clock", t.thin(1), 0);
        t.tick(1);
        due("and now by an older one", t.thin(1), 1);
        due("none again", t.thin(1), 0);
        due("GONE in all", t.node(1, 3), 3);
        due("versions in all", t.node(1, 2), 4);
    }

    private static void thinLooksAtItsFileAlone() {
        checks.about("promise 13, 'the versions of the file'");
        PastTree t = new PastTree(0, 5);
        t.make(0, 0, false);
        t.make(0, 1, false);
        t.tick(1);
        t.write(1, 0, 1);
        t.write(2, 0, 2);
        t.tick(1);
        t.remove(0, 1);
        due("one that is not PLACED", t.thin(2), 1);
        due("the other's first", t.read(0, 1, 0), 0);
        due("the other's GONE", t.node(1, 3), 0);
        due("its own first", t.read(0, 2, 0), LOST);
        due("the other", t.thin(1), 1);
    }

    private static void thinIsNoChange() {
        checks.about("promise 13, thin is no change and makes no version");
        PastTree t = thinnedFile();
        due("count(2)", t.count(2), 4);
        due("versions", t.node(1, 2), 3);
        due("the latest's time", t.node(1, 4), 2);
        due("sync", t.sync(), 4);
    }

    private static void versionTimeTakesItsEnds() {
        checks.about("promise 17, 'from 0 for the oldest .. REFUSED if it has not so many'");
        PastTree t = new PastTree(0, 0);
        t.tick(5);
        t.make(0, 0, false);
        due("k 0 of one", t.versionTime(1, 0), 5);
        due("k 1 of one", t.versionTime(1, 1), REFUSED);
        t.tick(1000);
        t.write(1, 0, 1);
        due("k -1", t.versionTime(1, -1), REFUSED);
        due("k MIN", t.versionTime(1, MIN), REFUSED);
        due("k 0", t.versionTime(1, 0), 5);
        due("k 1", t.versionTime(1, 1), 1005);
        due("k 2", t.versionTime(1, 2), REFUSED);
        due("k MAX", t.versionTime(1, MAX), REFUSED);
    }

    private static void versionTimeTellsOfGoneOnes() {
        checks.about("promise 17, 'GONE or not'");
        PastTree t = thinnedFile();
        due("k 0, GONE", t.versionTime(1, 0), 0);
        due("k 1, GONE", t.versionTime(1, 1), 1);
        due("k 2", t.versionTime(1, 2), 2);
        due("k 3", t.versionTime(1, 3), REFUSED);
        t.remove(0, 0);
        due("k 2, not PLACED", t.versionTime(1, 2), 2);
    }

    private static void versionTimeAfterReplacingAndCrash() {
        checks.about("promise 17, versions replaced and lost");
        PastTree t = new PastTree(0, 0);
        t.make(0, 0, false);
        t.tick(2);
        t.write(1, 0, 1);
        t.write(1, 0, 2);
        due("replaced", t.versionTime(1, 1), 2);
        due("none more", t.versionTime(1, 2), REFUSED);
        t.sync();
        t.tick(2);
        t.write(1, 0, 3);
        due("not durable", t.versionTime(1, 2), 4);
        t.crash();
        due("lost", t.versionTime(1, 2), REFUSED);
        t.tick(1);
        t.write(1, 0, 4);
        due("another in its place", t.versionTime(1, 2), 3);
    }
}
