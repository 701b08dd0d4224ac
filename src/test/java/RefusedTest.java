/**
 * The sentences of the Terms on refused calls, for every method: "Numbers out of range, nodes that were not made,
 * folders where a file is needed and files where a folder is needed are numbers out of range. All that is said to be
 * refused answers REFUSED (NONE where the answer is a long) and changes nothing. FULL changes nothing."
 */
public final class RefusedTest {
    private static final int REFUSED = PastTree.REFUSED;
    private static final long NONE = PastTree.NONE;
    private static final int MIN = Integer.MIN_VALUE;
    private static final int MAX = Integer.MAX_VALUE;
    /** So many folders of eight names are as many as there are ints: a place that wraps around is the root's again. */
    private static final int WRAP = 1 << 29;
    private static final Checks checks = new Checks();

    private static final int FOLDER = 1;
    private static final int FILE = 2;
    private static final int EMPTY_FOLDER = 3;
    private static final int REMOVED_FOLDER = 4;
    private static final int REMOVED_FILE = 5;
    private static final int CLOCK = 9;

    private static final int[] WRONG_NODES = {-1, 24, 25, MIN, MAX, WRAP, -WRAP, WRAP + 1};
    private static final int[] NO_FOLDERS = {FILE, REMOVED_FILE, 6, 23};
    private static final int[] NO_FILES = {0, FOLDER, EMPTY_FOLDER, REMOVED_FOLDER, 6, 23};
    private static final int[] WRONG_NAMES = {-1, -8, 8, 9, 15, MIN, MAX, WRAP};
    private static final int[] WRONG_CELLS = {-1, 4, 5, MIN, MAX};
    private static final int[] WRONG_TIMES = {-1, -2, MIN};

    private static final Twins twins = new Twins(checks, RefusedTest::past, 0, 3, 5, CLOCK, MAX);
    private static final Twins full = new Twins(checks, RefusedTest::fullPast, 0);

    public static void main(String[] args) {
        tickRefuses();
        makeRefusesNumbers();
        makeRefusesByItsComment();
        makeThatIsFullChangesNothing();
        removeRefuses();
        moveRefusesNumbers();
        moveRefusesByItsComment();
        writeRefuses();
        turnBackRefuses();
        putBackRefusesNumbers();
        putBackRefusesByItsComment();
        lookAndNextRefuse();
        readRefuses();
        belowRefuses();
        thinRefuses();
        nodeRefuses();
        versionTimeRefuses();
        countRefuses();
        questionsChangeNothing();
        checks.end();
    }

    /** The root has node 1 under 0 and node 3 under 7; node 1 has the file 2 under 0; 4 and 5 are not placed. */
    private static void past(PastTree t) {
        t.make(0, 0, true);
        t.make(FOLDER, 0, false);
        t.make(0, 7, true);
        t.tick(3);
        t.write(FILE, 0, 30);
        t.make(0, 5, true);
        t.make(REMOVED_FOLDER, 0, false);
        t.tick(2);
        t.write(FILE, 3, 50);
        t.remove(REMOVED_FOLDER, 0);
        t.tick(1);
        t.thin(FILE);
        t.tick(2);
        t.remove(0, 5);
        t.write(FILE, 1, 80);
        t.tick(1);
    }

    private static void fullPast(PastTree t) {
        t.make(0, 0, true);
        t.make(0, 1, true);
        t.make(0, 2, true);
        t.sync();
        t.tick(1);
        for (int i = 4; i < 24; i++) {
            t.make((i - 4) / 8 + 1, i % 8, false);
        }
    }

    private static int[] both(int[] a, int[] b) {
        int[] all = java.util.Arrays.copyOf(a, a.length + b.length);
        System.arraycopy(b, 0, all, a.length, b.length);
        return all;
    }

    private static int[] wrongFolders() {
        return both(WRONG_NODES, NO_FOLDERS);
    }

    private static int[] wrongFiles() {
        return both(WRONG_NODES, NO_FILES);
    }

    private static void refused(String name, Twins.Call call) {
        twins.leavesAll(name, call, REFUSED);
    }

    private static void tickRefuses() {
        checks.about("promise 2, 'by 0 .. 1000'");
        int[] wrong = {-1, -1000, 1001, MIN, MAX};
        for (int by : wrong) {
            refused("tick(" + by + ")", t -> t.tick(by));
        }
    }

    private static void makeRefusesNumbers() {
        checks.about("promise 3, numbers");
        for (int folder : wrongFolders()) {
            refused("make(" + folder + ", 1, true)", t -> t.make(folder, 1, true));
            refused("make(" + folder + ", 1, false)", t -> t.make(folder, 1, false));
        }
        for (int name : WRONG_NAMES) {
            refused("make(0, " + name + ", true)", t -> t.make(0, name, true));
            refused("make(1, " + name + ", false)", t -> t.make(FOLDER, name, false));
        }
    }

    private static void makeRefusesByItsComment() {
        checks.about("promise 3, 'PLACED or the root, else REFUSED'");
        refused("make(4, 1, true)", t -> t.make(REMOVED_FOLDER, 1, true));
        refused("make(4, 0, false)", t -> t.make(REMOVED_FOLDER, 0, false));
        checks.about("promise 3, 'a name that has none there (else REFUSED)'");
        refused("make(0, 0, true)", t -> t.make(0, 0, true));
        refused("make(0, 7, false)", t -> t.make(0, 7, false));
        refused("make(1, 0, false)", t -> t.make(FOLDER, 0, false));
    }

    private static void makeThatIsFullChangesNothing() {
        checks.about("promise 3, '24 nodes were made: FULL'");
        full.leavesAll("make(0, 3, true)", t -> t.make(0, 3, true), PastTree.FULL);
        full.leavesAll("make(3, 0, false)", t -> t.make(3, 0, false), PastTree.FULL);
        checks.about("Terms, 'in that order': the number, the folder and the name come before FULL");
        full.leavesAll("make(24, 3, true)", t -> t.make(24, 3, true), REFUSED);
        full.leavesAll("make(4, 3, true)", t -> t.make(4, 3, true), REFUSED);
        full.leavesAll("make(0, 8, true)", t -> t.make(0, 8, true), REFUSED);
        full.leavesAll("make(0, 2, true)", t -> t.make(0, 2, true), REFUSED);
    }

    private static void removeRefuses() {
        checks.about("promise 4, numbers");
        for (int folder : wrongFolders()) {
            refused("remove(" + folder + ", 0)", t -> t.remove(folder, 0));
        }
        for (int name : WRONG_NAMES) {
            refused("remove(0, " + name + ")", t -> t.remove(0, name));
            refused("remove(1, " + name + ")", t -> t.remove(FOLDER, name));
        }
        checks.about("promise 4, 'no entry of that name'");
        refused("remove(0, 6)", t -> t.remove(0, 6));
        refused("remove(0, 5) that was removed", t -> t.remove(0, 5));
        refused("remove(4, 0) in a removed folder", t -> t.remove(REMOVED_FOLDER, 0));
        checks.about("promise 4, 'the entry is a folder that has entries'");
        refused("remove(0, 0)", t -> t.remove(0, 0));
    }

    private static void moveRefusesNumbers() {
        checks.about("promise 5, numbers");
        for (int folder : wrongFolders()) {
            refused("move(" + folder + ", 0, 0, 1)", t -> t.move(folder, 0, 0, 1));
            refused("move(1, 0, " + folder + ", 1)", t -> t.move(FOLDER, 0, folder, 1));
            refused("move(0, 7, " + folder + ", 1)", t -> t.move(0, 7, folder, 1));
        }
        for (int name : WRONG_NAMES) {
            refused("move(0, " + name + ", 0, 1)", t -> t.move(0, name, 0, 1));
            refused("move(1, " + name + ", 0, 1)", t -> t.move(FOLDER, name, 0, 1));
            refused("move(1, 0, 0, " + name + ")", t -> t.move(FOLDER, 0, 0, name));
            refused("move(1, 0, 3, " + name + ")", t -> t.move(FOLDER, 0, EMPTY_FOLDER, name));
        }
    }

    private static void moveRefusesByItsComment() {
        checks.about("promise 5, 'The folder has no entry of that name'");
        refused("move(0, 5, 3, 1)", t -> t.move(0, 5, EMPTY_FOLDER, 1));
        refused("move(4, 0, 3, 1)", t -> t.move(REMOVED_FOLDER, 0, EMPTY_FOLDER, 1));
        checks.about("promise 5, 'other is not PLACED and not the root'");
        refused("move(1, 0, 4, 0)", t -> t.move(FOLDER, 0, REMOVED_FOLDER, 0));
        checks.about("promise 5, 'other is the entry itself'");
        refused("move(0, 7, 3, 0)", t -> t.move(0, 7, EMPTY_FOLDER, 0));
        checks.about("promise 5, 'other has an entry as'");
        refused("move(1, 0, 0, 7)", t -> t.move(FOLDER, 0, 0, 7));
        refused("move(0, 7, 1, 0)", t -> t.move(0, 7, FOLDER, 0));
        refused("move(1, 0, 1, 0) to where it is", t -> t.move(FOLDER, 0, FOLDER, 0));
    }

    private static void writeRefuses() {
        checks.about("promise 6, numbers");
        for (int file : wrongFiles()) {
            refused("write(" + file + ", 0, 1)", t -> t.write(file, 0, 1));
        }
        for (int cell : WRONG_CELLS) {
            refused("write(2, " + cell + ", 1)", t -> t.write(FILE, cell, 1));
        }
    }

    private static void turnBackRefuses() {
        checks.about("promise 7, numbers");
        for (int file : wrongFiles()) {
            refused("turnBack(" + file + ", 9)", t -> t.turnBack(file, CLOCK));
        }
        for (int time : WRONG_TIMES) {
            refused("turnBack(2, " + time + ")", t -> t.turnBack(FILE, time));
        }
        checks.about("promise 7, 'There is no version of the file AS OF the time'");
        refused("turnBack(5, 2)", t -> t.turnBack(REMOVED_FILE, 2));
        checks.about("promise 7, 'or it is GONE'");
        refused("turnBack(2, 0)", t -> t.turnBack(FILE, 0));
        refused("turnBack(2, 2)", t -> t.turnBack(FILE, 2));
    }

    private static void putBackRefusesNumbers() {
        checks.about("promise 8, numbers");
        for (int folder : wrongFolders()) {
            refused("putBack(" + folder + ", 5, 4)", t -> t.putBack(folder, 5, 4));
        }
        for (int name : WRONG_NAMES) {
            refused("putBack(0, " + name + ", 4)", t -> t.putBack(0, name, 4));
            refused("putBack(3, " + name + ", 4)", t -> t.putBack(EMPTY_FOLDER, name, 4));
        }
        for (int time : WRONG_TIMES) {
            refused("putBack(0, 5, " + time + ")", t -> t.putBack(0, 5, time));
        }
    }

    private static void putBackRefusesByItsComment() {
        checks.about("promise 8, 'AS OF the time the folder had no such entry'");
        refused("putBack(0, 5, 2) before it was made", t -> t.putBack(0, 5, 2));
        refused("putBack(0, 5, 8) at its removal", t -> t.putBack(0, 5, 8));
        refused("putBack(0, 5, MAX)", t -> t.putBack(0, 5, MAX));
        refused("putBack(0, 6, 4) never there", t -> t.putBack(0, 6, 4));
        checks.about("promise 8, 'or the node is PLACED now'");
        refused("putBack(0, 7, 4)", t -> t.putBack(0, 7, 4));
        refused("putBack(1, 0, 0)", t -> t.putBack(FOLDER, 0, 0));
        checks.about("promise 8, 'or the folder is not PLACED and not the root'");
        refused("putBack(4, 0, 4)", t -> t.putBack(REMOVED_FOLDER, 0, 4));
    }

    private static void lookAndNextRefuse() {
        checks.about("promises 9 and 10, numbers");
        for (int folder : wrongFolders()) {
            refused("look(4, " + folder + ", 0)", t -> t.look(4, folder, 0));
            refused("next(4, " + folder + ", 0)", t -> t.next(4, folder, 0));
        }
        for (int name : WRONG_NAMES) {
            refused("look(4, 0, " + name + ")", t -> t.look(4, 0, name));
            refused("look(4, 1, " + name + ")", t -> t.look(4, FOLDER, name));
            refused("next(4, 0, " + name + ")", t -> t.next(4, 0, name));
            refused("next(4, 1, " + name + ")", t -> t.next(4, FOLDER, name));
        }
        for (int time : WRONG_TIMES) {
            refused("look(" + time + ", 0, 0)", t -> t.look(time, 0, 0));
            refused("next(" + time + ", 0, 0)", t -> t.next(time, 0, 0));
        }
    }

    private static void readRefuses() {
        checks.about("promise 11, numbers: NONE where the answer is a long");
        for (int file : wrongFiles()) {
            twins.leavesAll("read(9, " + file + ", 0)", t -> t.read(CLOCK, file, 0), NONE);
        }
        for (int cell : WRONG_CELLS) {
            twins.leavesAll("read(9, 2, " + cell + ")", t -> t.read(CLOCK, FILE, cell), NONE);
            twins.leavesAll("read(0, 2, " + cell + ") of a GONE one", t -> t.read(0, FILE, cell), NONE);
        }
        for (int time : WRONG_TIMES) {
            twins.leavesAll("read(" + time + ", 2, 0)", t -> t.read(time, FILE, 0), NONE);
        }
    }

    private static void belowRefuses() {
        checks.about("promise 12, numbers");
        for (int folder : wrongFolders()) {
            refused("below(4, " + folder + ")", t -> t.below(4, folder));
        }
        for (int time : WRONG_TIMES) {
            refused("below(" + time + ", 0)", t -> t.below(time, 0));
        }
    }

    private static void thinRefuses() {
        checks.about("promise 13, numbers come before the sync");
        for (int file : wrongFiles()) {
            refused("thin(" + file + ")", t -> t.thin(file));
        }
    }

    private static void nodeRefuses() {
        checks.about("promise 16, 'a node 0 .. 23'");
        for (int number : WRONG_NODES) {
            for (int what = 0; what <= 4; what++) {
                int asked = what;
                refused("node(" + number + ", " + what + ")", t -> t.node(number, asked));
            }
        }
        checks.about("promise 16, 'REFUSED if it is no file'");
        for (int number : NO_FILES) {
            for (int what = 2; what <= 4; what++) {
                int asked = what;
                refused("node(" + number + ", " + what + ")", t -> t.node(number, asked));
            }
        }
        checks.about("promise 16, 'Another what: REFUSED'");
        int[] wrongWhats = {-1, 5, MIN, MAX};
        for (int what : wrongWhats) {
            for (int number = 0; number < 7; number++) {
                int asked = number;
                refused("node(" + number + ", " + what + ")", t -> t.node(asked, what));
            }
        }
    }

    private static void versionTimeRefuses() {
        checks.about("promise 17, numbers");
        for (int file : wrongFiles()) {
            refused("versionTime(" + file + ", 0)", t -> t.versionTime(file, 0));
        }
        checks.about("promise 17, 'REFUSED if it has not so many'");
        int[] wrongKs = {-1, 4, 5, MIN, MAX};
        for (int k : wrongKs) {
            refused("versionTime(2, " + k + ")", t -> t.versionTime(FILE, k));
        }
        refused("versionTime(5, 1)", t -> t.versionTime(REMOVED_FILE, 1));
    }

    private static void countRefuses() {
        checks.about("promise 18, 'Else REFUSED'");
        int[] wrong = {-1, 4, 5, MIN, MAX};
        for (int what : wrong) {
            refused("count(" + what + ")", t -> t.count(what));
        }
    }

    private static void questionsChangeNothing() {
        checks.about("what only asks changes nothing");
        twins.leavesAll("tick(0)", t -> t.tick(0), CLOCK);
        twins.leavesAll("look(4, 0, 5)", t -> t.look(4, 0, 5), REMOVED_FOLDER);
        twins.leavesAll("next(4, 0, 1)", t -> t.next(4, 0, 1), 5);
        twins.leavesAll("read(8, 2, 1)", t -> t.read(8, FILE, 1), 80);
        twins.leavesAll("read(0, 2, 1)", t -> t.read(0, FILE, 1), PastTree.LOST);
        twins.leavesAll("below(4, 0)", t -> t.below(4, 0), 5);
        twins.leavesAll("node(2, 3)", t -> t.node(FILE, 3), 1);
        twins.leavesAll("versionTime(2, 3)", t -> t.versionTime(FILE, 3), 8);
        twins.leavesAll("count(3)", t -> t.count(3), 2);
    }
}
