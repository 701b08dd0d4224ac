/** Promises 6, 7, 11, 13 and 17: the versions of files. */
public final class FileTest {
    private static final int REFUSED = PastTree.REFUSED;
    private static final long NONE = PastTree.NONE;
    private static final long LOST = PastTree.LOST;
    private static final int MIN = Integer.MIN_VALUE;
    private static final int MAX = Integer.MAX_VALUE;
    private static final Checks checks = new Checks();

    private static void due(String call, long got, long want) {
        checks.due(call, got, want);
    }

    public static void main(String[] args) {
        writeMakesVersions();
        writeReachesUnplacedFiles();
        writeRefuses();
        turnBackMakesVersions();
        turnBackRefuses();
        readSeesThePast();
        readRefuses();
        thinKeepsTheEdges();
        thinCountsNewlyGone();
        thinLooksAtNextEvenIfGone();
        thinIsDurable();
        thinRefuses();
        versionTimeAnswers();
        checks.end();
    }

    private static void writeMakesVersions() {
        checks.about("promise 6");
        PastTree t = new PastTree(0, 0);
        t.tick(3);
        t.make(0, 0, false);
        due("at the making's time", t.write(1, 0, 10), 1);
        due("again", t.write(1, 3, 13), 1);
        t.tick(1);
        due("later", t.write(1, 1, MAX), 2);
        due("at the same time", t.write(1, 2, MIN), 2);
        due("the same value", t.write(1, 2, MIN), 2);
        due("cell 0", t.read(4, 1, 0), 10);
        due("cell 1", t.read(4, 1, 1), MAX);
        due("cell 2", t.read(4, 1, 2), MIN);
        due("cell 3", t.read(4, 1, 3), 13);
        due("old cell 0", t.read(3, 1, 0), 10);
        due("old cell 1", t.read(3, 1, 1), 0);
        due("old cell 3", t.read(3, 1, 3), 13);
        due("count(2)", t.count(2), 6);
        due("versions", t.node(1, 2), 2);
        t.make(0, 1, false);
        due("another file", t.write(2, 0, 1), 1);
        due("is not this one", t.read(4, 1, 0), 10);
    }

    private static void writeReachesUnplacedFiles() {
        checks.about("promise 6, unplaced");
        PastTree t = new PastTree(0, 0);
        t.make(0, 0, false);
        t.remove(0, 0);
        t.tick(1);
        due("write", t.write(1, 0, 4), 2);
        due("read", t.read(1, 1, 0), 4);
        t.tick(1);
        due("turnBack", t.turnBack(1, 0), 3);
        due("read", t.read(2, 1, 0), 0);
        due("putBack", t.putBack(0, 0, 0), REFUSED);
    }

    private static void writeRefuses() {
        checks.about("promise 6, refused");
        PastTree t = new PastTree(0, 0);
        t.make(0, 0, false);
        t.make(0, 1, true);
        int[] wrongFiles = {-1, 0, 2, 3, 23, 24, MAX, MIN};
        for (int file : wrongFiles) {
            due("write to " + file, t.write(file, 0, 1), REFUSED);
        }
        int[] wrongCells = {-1, 4, MAX, MIN};
        for (int cell : wrongCells) {
            due("write cell " + cell, t.write(1, cell, 1), REFUSED);
        }
        due("count(2)", t.count(2), 2);
    }

    private static void turnBackMakesVersions() {
        checks.about("promise 7");
        PastTree t = new PastTree(0, 0);
        t.tick(1);
        t.make(0, 0, false);
        t.write(1, 0, 1);
        t.write(1, 3, 9);
        t.tick(2);
        t.write(1, 0, 2);
        t.tick(2);
        due("to the first", t.turnBack(1, 2), 3);
        due("cell 0", t.read(5, 1, 0), 1);
        due("cell 3", t.read(5, 1, 3), 9);
        due("the middle stays", t.read(4, 1, 0), 2);
        due("replaced at the same time", t.turnBack(1, 3), 3);
        due("cell 0", t.read(5, 1, 0), 2);
        due("to the latest", t.turnBack(1, 5), 3);
        due("above the clock", t.turnBack(1, MAX), 3);
        due("cell 0", t.read(5, 1, 0), 2);
        t.tick(1);
        due("above the clock, later", t.turnBack(1, MAX), 4);
        due("cell 0", t.read(6, 1, 0), 2);
        due("write after it", t.write(1, 0, 77), 4);
        due("leaves what it was turned back to", t.read(3, 1, 0), 2);
        due("cell 3", t.read(6, 1, 3), 9);
        due("count(2)", t.count(2), 10);
    }

    private static void turnBackRefuses() {
        checks.about("promise 7, refused");
        PastTree t = new PastTree(0, 5);
        t.tick(2);
        t.make(0, 0, false);
        t.make(0, 1, true);
        due("before it was made", t.turnBack(1, 1), REFUSED);
        due("time -1", t.turnBack(1, -1), REFUSED);
        due("time MIN", t.turnBack(1, MIN), REFUSED);
        int[] wrongFiles = {-1, 0, 2, 3, 24, MAX, MIN};
        for (int file : wrongFiles) {
            due("file " + file, t.turnBack(file, 2), REFUSED);
        }
        t.tick(2);
        t.write(1, 0, 1);
        t.tick(1);
        due("thin", t.thin(1), 1);
        due("a GONE one", t.turnBack(1, 3), REFUSED);
        due("count(2)", t.count(2), 3);
        due("versions", t.node(1, 2), 2);
        due("one that is not", t.turnBack(1, 4), 3);
    }

    private static void readSeesThePast() {
        checks.about("promise 11");
        PastTree t = new PastTree(0, 2);
        t.tick(2);
        t.make(0, 0, false);
        t.tick(2);
        t.write(1, 1, -1);
        t.tick(3);
        t.write(1, 1, -2);
        due("before the making", t.read(1, 1, 1), NONE);
        due("at the making", t.read(2, 1, 1), 0);
        due("before the write", t.read(3, 1, 1), 0);
        due("at the write", t.read(4, 1, 1), -1);
        due("before the next", t.read(6, 1, 1), -1);
        due("at the next", t.read(7, 1, 1), -2);
        due("above the clock", t.read(MAX, 1, 1), -2);
        t.tick(1);
        due("thin", t.thin(1), 1);
        due("still before the making", t.read(1, 1, 1), NONE);
        due("gone", t.read(2, 1, 1), LOST);
        due("gone, any cell", t.read(3, 1, 0), LOST);
        due("not gone", t.read(4, 1, 1), -1);
    }

    private static void readRefuses() {
        checks.about("promise 11, refused");
        PastTree t = new PastTree(0, 0);
        t.make(0, 0, false);
        t.make(0, 1, true);
        int[] wrongFiles = {-1, 0, 2, 3, 23, 24, MAX, MIN};
        for (int file : wrongFiles) {
            due("file " + file, t.read(0, file, 0), NONE);
        }
        int[] wrongCells = {-1, 4, MAX, MIN};
        for (int cell : wrongCells) {
            due("cell " + cell, t.read(0, 1, cell), NONE);
        }
        due("time -1", t.read(-1, 1, 0), NONE);
        due("time MIN", t.read(MIN, 1, 0), NONE);
    }

    private static void thinKeepsTheEdges() {
        checks.about("promise 13, edges");
        PastTree t = new PastTree(10, 3);
        t.make(0, 0, false);
        t.tick(3);
        t.write(1, 0, 1);
        t.tick(4);
        t.write(1, 0, 2);
        t.tick(6);
        due("NEXT as old as the window", t.thin(1), 0);
        t.tick(1);
        due("NEXT older", t.thin(1), 1);
        due("the first is gone", t.read(0, 1, 0), LOST);
        t.tick(1000);
        due("a NEXT that came too late", t.thin(1), 0);
        due("the second is there", t.read(3, 1, 0), 1);
        due("the latest never goes", t.read(7, 1, 0), 2);
        due("gone in all", t.node(1, 3), 1);
        PastTree none = new PastTree(0, 0);
        none.make(0, 0, false);
        none.tick(1);
        none.write(1, 0, 1);
        none.tick(1);
        due("gap 0", none.thin(1), 0);
    }

    private static void thinCountsNewlyGone() {
        checks.about("promise 13, count");
        PastTree t = new PastTree(0, 1);
        t.make(0, 0, false);
        t.make(0, 1, false);
        for (int i = 1; i < 5; i++) {
            t.tick(1);
            t.write(1, 0, i);
            t.write(2, 0, i);
        }
        due("all but the last two", t.thin(1), 3);
        due("at the same time", t.thin(1), 0);
        t.tick(1);
        due("one more", t.thin(1), 1);
        due("gone", t.node(1, 3), 4);
        due("versions", t.node(1, 2), 5);
        due("the other file is as it was", t.node(2, 3), 0);
        due("no change by thin", t.count(2), 10);
        due("the latest can be read", t.read(5, 1, 0), 4);
        t.write(1, 0, 5);
        due("a version after it", t.node(1, 2), 6);
        due("the latest at the clock is not old", t.thin(1), 0);
        t.tick(1);
        due("and then is", t.thin(1), 1);
    }

    private static void thinLooksAtNextEvenIfGone() {
        checks.about("promise 13, NEXT");
        PastTree t = new PastTree(0, 2);
        t.make(0, 0, false);
        for (int i = 1; i < 4; i++) {
            t.tick(2);
            t.write(1, 0, i);
        }
        t.tick(1);
        due("each by the following one", t.thin(1), 3);
        due("read(0)", t.read(0, 1, 0), LOST);
        due("read(2)", t.read(2, 1, 0), LOST);
        due("read(4)", t.read(4, 1, 0), LOST);
        due("read(6)", t.read(6, 1, 0), 3);
    }

    private static void thinIsDurable() {
        checks.about("promise 13, durable");
        PastTree t = new PastTree(0, 5);
        t.make(0, 0, false);
        t.tick(1);
        t.write(1, 0, 1);
        t.make(0, 1, true);
        t.tick(1);
        due("thin", t.thin(1), 1);
        due("nothing to be lost", t.count(3), 0);
        t.write(1, 0, 2);
        t.tick(1);
        due("crash", t.crash(), 1);
        due("the time", t.count(0), 2);
        due("the other node", t.node(2, 0), 1);
        due("stays gone", t.read(0, 1, 0), LOST);
        due("the write was lost", t.read(2, 1, 0), 1);
        due("thin of a file with one version is a sync too", t.make(0, 2, false), 3);
        due("thin", t.thin(3), 0);
        due("crash", t.crash(), 0);
        due("kept", t.node(3, 0), 2);
    }

    private static void thinRefuses() {
        checks.about("promise 13, refused");
        PastTree t = new PastTree(0, 5);
        t.make(0, 0, false);
        t.make(0, 1, true);
        int[] wrongFiles = {-1, 0, 2, 3, 23, 24, MAX, MIN};
        for (int file : wrongFiles) {
            due("file " + file, t.thin(file), REFUSED);
        }
        due("nothing became durable", t.count(3), 2);
        t.remove(0, 0);
        due("an unplaced file", t.thin(1), 0);
        due("all durable", t.count(3), 0);
    }

    private static void versionTimeAnswers() {
        checks.about("promise 17");
        PastTree t = new PastTree(0, 5);
        t.tick(4);
        t.make(0, 0, false);
        t.make(0, 1, true);
        t.tick(1);
        t.write(1, 0, 1);
        t.tick(2);
        t.turnBack(1, 4);
        t.tick(1);
        t.thin(1);
        due("0", t.versionTime(1, 0), 4);
        due("1", t.versionTime(1, 1), 5);
        due("2", t.versionTime(1, 2), 7);
        due("3", t.versionTime(1, 3), REFUSED);
        due("-1", t.versionTime(1, -1), REFUSED);
        due("MAX", t.versionTime(1, MAX), REFUSED);
        due("MIN", t.versionTime(1, MIN), REFUSED);
        int[] wrongFiles = {-1, 0, 2, 3, 23, 24, MAX, MIN};
        for (int file : wrongFiles) {
            due("file " + file, t.versionTime(file, 0), REFUSED);
        }
        t.remove(0, 0);
        due("unplaced", t.versionTime(1, 2), 7);
    }
}
