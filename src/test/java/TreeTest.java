/** Promises 1 to 5, 8 to 10 and 12: the clock, the folders and their entries, now and AS OF a time. */
public final class TreeTest {
    private static final int REFUSED = PastTree.REFUSED;
    private static final int FULL = PastTree.FULL;
    private static final int DONE = PastTree.DONE;
    private static final int MIN = Integer.MIN_VALUE;
    private static final int MAX = Integer.MAX_VALUE;
    private static final Checks checks = new Checks();

    private static void due(String call, long got, long want) {
        checks.due(call, got, want);
    }

    public static void main(String[] args) {
        newObjectIsEmpty();
        windowIsClamped();
        gapIsClamped();
        tickMovesTheClock();
        makeGivesLeastNumbers();
        makeRefuses();
        makeFillsUp();
        removeTakesEntriesAway();
        moveMoves();
        moveRefuses();
        moveRefusesToItsOwnInside();
        namesOfOneFolderStayOutOfAnother();
        putBackPutsBack();
        putBackRefuses();
        lookAndNextSeeThePast();
        belowCountsThePast();
        pastQueriesRefuseWrongNumbers();
        checks.end();
    }

    private static void newObjectIsEmpty() {
        checks.about("promise 1, new object");
        PastTree t = new PastTree(3, 4);
        due("count(0)", t.count(0), 0);
        due("count(1)", t.count(1), 1);
        due("count(2)", t.count(2), 0);
        due("count(3)", t.count(3), 0);
        due("node(0, 0)", t.node(0, 0), 1);
        due("node(0, 1)", t.node(0, 1), 0);
        due("node(1, 0)", t.node(1, 0), 0);
        due("next(0, 0, 0)", t.next(0, 0, 0), 8);
        due("below(0, 0)", t.below(0, 0), 0);
    }

    /** Versions at the times 0 and step; thinned so much later as wait says. */
    private static int thinnedOfTwo(PastTree t, int step, int wait) {
        t.make(0, 0, false);
        for (int gone = 0; gone < step; gone += Math.min(1000, step - gone)) {
            t.tick(Math.min(1000, step - gone));
        }
        t.write(1, 0, 1);
        for (int gone = 0; gone < wait; gone += Math.min(1000, wait - gone)) {
            t.tick(Math.min(1000, wait - gone));
        }
        return t.thin(1);
    }

    private static void windowIsClamped() {
        checks.about("promise 1, window");
        due("-1 is 0, wait 0", thinnedOfTwo(new PastTree(-1, 5), 1, 0), 0);
        due("-1 is 0, wait 1", thinnedOfTwo(new PastTree(-1, 5), 1, 1), 1);
        due("MIN is 0, wait 0", thinnedOfTwo(new PastTree(MIN, 5), 1, 0), 0);
        due("MIN is 0, wait 1", thinnedOfTwo(new PastTree(MIN, 5), 1, 1), 1);
        due("7, wait 7", thinnedOfTwo(new PastTree(7, 5), 1, 7), 0);
        due("7, wait 8", thinnedOfTwo(new PastTree(7, 5), 1, 8), 1);
        due("999, wait 1000", thinnedOfTwo(new PastTree(999, 5), 1, 1000), 1);
        due("1000, wait 1000", thinnedOfTwo(new PastTree(1000, 5), 1, 1000), 0);
        due("1001 is 1000, wait 1001", thinnedOfTwo(new PastTree(1001, 5), 1, 1001), 1);
        due("MAX is 1000, wait 1000", thinnedOfTwo(new PastTree(MAX, 5), 1, 1000), 0);
        due("MAX is 1000, wait 1001", thinnedOfTwo(new PastTree(MAX, 5), 1, 1001), 1);
    }

    private static void gapIsClamped() {
        checks.about("promise 1, gap");
        due("-1 is 0, step 1", thinnedOfTwo(new PastTree(0, -1), 1, 5), 0);
        due("MIN is 0, step 1", thinnedOfTwo(new PastTree(0, MIN), 1, 5), 0);
        due("6, step 6", thinnedOfTwo(new PastTree(0, 6), 6, 5), 1);
        due("6, step 7", thinnedOfTwo(new PastTree(0, 6), 7, 5), 0);
        due("999, step 1000", thinnedOfTwo(new PastTree(0, 999), 1000, 5), 0);
        due("1000, step 1000", thinnedOfTwo(new PastTree(0, 1000), 1000, 5), 1);
        due("1001 is 1000, step 1001", thinnedOfTwo(new PastTree(0, 1001), 1001, 5), 0);
        due("MAX is 1000, step 1000", thinnedOfTwo(new PastTree(0, MAX), 1000, 5), 1);
        due("MAX is 1000, step 1001", thinnedOfTwo(new PastTree(0, MAX), 1001, 5), 0);
    }

    private static void tickMovesTheClock() {
        checks.about("promise 2");
        PastTree t = new PastTree(0, 0);
        due("tick(0)", t.tick(0), 0);
        due("tick(7)", t.tick(7), 7);
        due("tick(0)", t.tick(0), 7);
        due("tick(1000)", t.tick(1000), 1007);
        due("tick(1001)", t.tick(1001), REFUSED);
        due("tick(-1)", t.tick(-1), REFUSED);
        due("tick(MAX)", t.tick(MAX), REFUSED);
        due("tick(MIN)", t.tick(MIN), REFUSED);
        due("count(0)", t.count(0), 1007);
        due("count(2)", t.count(2), 0);
    }

    private static void makeGivesLeastNumbers() {
        checks.about("promise 3");
        PastTree t = new PastTree(0, 0);
        due("make(0, 7, true)", t.make(0, 7, true), 1);
        due("make(0, 0, false)", t.make(0, 0, false), 2);
        due("make(1, 7, false)", t.make(1, 7, false), 3);
        due("kind of 1", t.node(1, 0), 1);
        due("kind of 2", t.node(2, 0), 2);
        due("look(0, 0, 7)", t.look(0, 0, 7), 1);
        due("look(0, 1, 7)", t.look(0, 1, 7), 3);
        due("placed 3", t.node(3, 1), 1);
        due("versions of 3", t.node(3, 2), 1);
        due("remove(0, 0)", t.remove(0, 0), DONE);
        due("a removed number is not used again", t.make(0, 0, true), 4);
        due("count(1)", t.count(1), 5);
        due("count(2)", t.count(2), 5);
        t.sync();
        due("make(0, 1, true)", t.make(0, 1, true), 5);
        t.crash();
        due("a lost number is used again", t.make(0, 2, false), 5);
        due("and may be of another kind", t.node(5, 0), 2);
    }

    private static void makeRefuses() {
        checks.about("promise 3, refused");
        PastTree t = new PastTree(0, 0);
        t.make(0, 0, true);
        t.make(0, 1, false);
        due("name taken by a folder", t.make(0, 0, false), REFUSED);
        due("name taken by a file", t.make(0, 1, true), REFUSED);
        due("name -1", t.make(0, -1, true), REFUSED);
        due("name 8", t.make(0, 8, true), REFUSED);
        due("name MAX", t.make(0, MAX, true), REFUSED);
        due("name MIN", t.make(0, MIN, true), REFUSED);
        due("folder -1", t.make(-1, 2, true), REFUSED);
        due("folder not made", t.make(3, 2, true), REFUSED);
        due("folder 24", t.make(24, 2, true), REFUSED);
        due("folder MAX", t.make(MAX, 2, true), REFUSED);
        due("a file", t.make(2, 2, true), REFUSED);
        t.remove(0, 0);
        due("folder not placed", t.make(1, 2, true), REFUSED);
        due("count(1)", t.count(1), 3);
        due("count(2)", t.count(2), 3);
        t.putBack(0, 0, 0);
        t.tick(1);
        t.remove(0, 0);
        due("folder placed again and removed again", t.make(1, 2, true), REFUSED);
    }

    private static void makeFillsUp() {
        checks.about("promise 3, full");
        PastTree t = new PastTree(0, 0);
        t.make(0, 0, true);
        t.make(0, 1, true);
        t.make(0, 2, true);
        for (int i = 4; i < 24; i++) {
            due("make " + i, t.make((i - 4) / 8 + 1, i % 8, i % 2 == 0), i);
        }
        due("count(1)", t.count(1), 24);
        due("the 25th folder", t.make(0, 3, true), FULL);
        due("the 25th file", t.make(0, 3, false), FULL);
        due("name taken comes before full", t.make(0, 0, true), REFUSED);
        due("number comes before full", t.make(0, 8, true), REFUSED);
        due("count(1)", t.count(1), 24);
        due("count(2)", t.count(2), 23);
        due("look(0, 0, 3)", t.look(0, 0, 3), 0);
        t.remove(3, 7);
        due("a removed one leaves no number", t.make(3, 7, true), FULL);
        for (int name = 0; name < 8; name++) {
            t.remove(3, name);
        }
        due("remove(0, 2)", t.remove(0, 2), DONE);
        due("folder not placed comes before full", t.make(3, 0, true), REFUSED);
    }

    private static void removeTakesEntriesAway() {
        checks.about("promise 4");
        PastTree t = new PastTree(0, 0);
        t.make(0, 0, true);
        t.make(1, 7, false);
        due("a folder with entries", t.remove(0, 0), REFUSED);
        due("no entry", t.remove(0, 1), REFUSED);
        due("name -1", t.remove(0, -1), REFUSED);
        due("name 8", t.remove(1, 8), REFUSED);
        due("name MIN", t.remove(1, MIN), REFUSED);
        due("a file as folder", t.remove(2, 0), REFUSED);
        due("folder not made", t.remove(3, 0), REFUSED);
        due("folder -1", t.remove(-1, 0), REFUSED);
        due("folder MAX", t.remove(MAX, 0), REFUSED);
        due("count(2)", t.count(2), 2);
        due("the file", t.remove(1, 7), DONE);
        due("the file again", t.remove(1, 7), REFUSED);
        due("file placed", t.node(2, 1), 0);
        due("file is a file", t.node(2, 0), 2);
        due("the empty folder", t.remove(0, 0), DONE);
        due("folder placed", t.node(1, 1), 0);
        due("out of an unplaced folder", t.remove(1, 7), REFUSED);
        due("count(1)", t.count(1), 3);
        due("count(2)", t.count(2), 4);
    }

    private static void moveMoves() {
        checks.about("promise 5");
        PastTree t = new PastTree(0, 0);
        t.make(0, 0, true);
        t.make(0, 1, true);
        t.make(1, 2, false);
        t.tick(1);
        due("file to another folder", t.move(1, 2, 2, 7), DONE);
        due("gone from", t.look(1, 1, 2), 0);
        due("come to", t.look(1, 2, 7), 3);
        due("before", t.look(0, 1, 2), 3);
        due("before, not there yet", t.look(0, 2, 7), 0);
        due("to another name", t.move(2, 7, 2, 0), DONE);
        due("come to", t.look(1, 2, 0), 3);
        due("gone from", t.look(1, 2, 7), 0);
        due("folder with all below it", t.move(0, 1, 1, 4), DONE);
        due("below(1, 1)", t.below(1, 1), 2);
        due("up again", t.move(1, 4, 0, 5), DONE);
        due("below(1, 1)", t.below(1, 1), 0);
        due("still in it", t.look(1, 2, 0), 3);
        due("count(2)", t.count(2), 7);
    }

    private static void moveRefuses() {
        checks.about("promise 5, refused");
        PastTree t = new PastTree(0, 0);
        t.make(0, 0, true);
        t.make(0, 1, true);
        t.make(0, 2, false);
        due("no entry", t.move(0, 3, 1, 0), REFUSED);
        due("taken", t.move(0, 2, 0, 1), REFUSED);
        due("taken by itself", t.move(0, 2, 0, 2), REFUSED);
        due("name -1", t.move(0, -1, 1, 0), REFUSED);
        due("name 8", t.move(0, 8, 1, 0), REFUSED);
        due("as -1", t.move(0, 2, 1, -1), REFUSED);
        due("as 8", t.move(0, 2, 1, 8), REFUSED);
        due("as MIN", t.move(0, 2, 1, MIN), REFUSED);
        due("folder a file", t.move(3, 0, 1, 0), REFUSED);
        due("other a file", t.move(0, 0, 3, 0), REFUSED);
        due("folder not made", t.move(4, 0, 1, 0), REFUSED);
        due("other not made", t.move(0, 0, 4, 0), REFUSED);
        due("folder -1", t.move(-1, 0, 1, 0), REFUSED);
        due("other 24", t.move(0, 0, 24, 0), REFUSED);
        due("other MIN", t.move(0, 0, MIN, 0), REFUSED);
        t.remove(0, 1);
        due("other not placed", t.move(0, 2, 2, 0), REFUSED);
        due("count(2)", t.count(2), 4);
        due("nothing moved", t.look(0, 0, 2), 3);
    }

    private static void moveRefusesToItsOwnInside() {
        checks.about("promise 5, inside");
        PastTree t = new PastTree(0, 0);
        t.make(0, 0, true);
        for (int i = 1; i < 23; i++) {
            t.make(i, 1, true);
        }
        due("into itself", t.move(0, 0, 1, 0), REFUSED);
        due("into its entry", t.move(0, 0, 2, 0), REFUSED);
        due("into the deepest", t.move(0, 0, 23, 0), REFUSED);
        due("a lower one into the deepest", t.move(21, 1, 23, 0), REFUSED);
        due("the deepest up", t.move(22, 1, 1, 0), DONE);
        due("now out of the others", t.move(1, 1, 23, 0), DONE);
        due("below(0, 0)", t.below(0, 0), 23);
        due("below(0, 23)", t.below(0, 23), 21);
        due("below(0, 22)", t.below(0, 22), 0);
    }

    /** Name 8 of the root must not be taken for name 0 of node 1, nor name -1 of node 1 for name 7 of the root. */
    private static void namesOfOneFolderStayOutOfAnother() {
        checks.about("promises 3 to 5 and 8 to 10, names out of range");
        PastTree t = new PastTree(0, 0);
        t.make(0, 0, true);
        t.make(1, 0, false);
        t.make(0, 7, false);
        due("remove(0, 8)", t.remove(0, 8), REFUSED);
        due("remove(1, -1)", t.remove(1, -1), REFUSED);
        due("move(0, 8, 0, 1)", t.move(0, 8, 0, 1), REFUSED);
        due("move(1, -1, 0, 1)", t.move(1, -1, 0, 1), REFUSED);
        due("look(0, 0, 8)", t.look(0, 0, 8), REFUSED);
        due("look(0, 1, -1)", t.look(0, 1, -1), REFUSED);
        due("next(0, 0, 8)", t.next(0, 0, 8), REFUSED);
        due("next(0, 1, -1)", t.next(0, 1, -1), REFUSED);
        due("count(2)", t.count(2), 3);
        t.tick(1);
        t.remove(1, 0);
        t.remove(0, 7);
        due("putBack(0, 8, 0)", t.putBack(0, 8, 0), REFUSED);
        due("putBack(1, -1, 0)", t.putBack(1, -1, 0), REFUSED);
        due("make(0, 8, true)", t.make(0, 8, true), REFUSED);
        due("make(1, -1, true)", t.make(1, -1, true), REFUSED);
        due("count(2)", t.count(2), 5);
    }

    private static void putBackPutsBack() {
        checks.about("promise 8");
        PastTree t = new PastTree(0, 0);
        t.make(0, 7, false);
        t.write(1, 0, 5);
        t.tick(2);
        t.remove(0, 7);
        t.tick(2);
        t.make(0, 0, true);
        due("as of the removal", t.putBack(0, 7, 2), REFUSED);
        due("just before it", t.putBack(0, 7, 1), 1);
        due("placed", t.node(1, 1), 1);
        due("now", t.look(4, 0, 7), 1);
        due("above the clock", t.look(MAX, 0, 7), 1);
        due("between", t.look(3, 0, 7), 0);
        due("at first", t.look(0, 0, 7), 1);
        due("versions stay", t.read(4, 1, 0), 5);
        due("count(2)", t.count(2), 5);
        t.remove(0, 7);
        due("as of now there is none", t.putBack(0, 7, 4), REFUSED);
        due("as of above the clock there is none", t.putBack(0, 7, MAX), REFUSED);
        t.make(0, 7, false);
        t.tick(1);
        t.remove(0, 7);
        due("the later one", t.putBack(0, 7, 4), 3);
        t.tick(1);
        t.remove(0, 7);
        due("the older one", t.putBack(0, 7, 1), 1);
    }

    private static void putBackRefuses() {
        checks.about("promise 8, refused");
        PastTree t = new PastTree(0, 0);
        t.make(0, 0, true);
        t.make(1, 0, true);
        t.make(2, 0, false);
        t.tick(1);
        t.move(2, 0, 0, 5);
        due("placed elsewhere", t.putBack(2, 0, 0), REFUSED);
        t.remove(0, 5);
        t.make(2, 0, false);
        due("name taken", t.putBack(2, 0, 0), REFUSED);
        t.remove(2, 0);
        t.remove(1, 0);
        due("folder not placed", t.putBack(2, 0, 0), REFUSED);
        due("never there", t.putBack(0, 1, 0), REFUSED);
        due("time -1", t.putBack(1, 0, -1), REFUSED);
        due("time MIN", t.putBack(1, 0, MIN), REFUSED);
        due("name -1", t.putBack(1, -1, 0), REFUSED);
        due("name 8", t.putBack(1, 8, 0), REFUSED);
        due("folder a file", t.putBack(3, 0, 0), REFUSED);
        due("folder not made", t.putBack(5, 0, 0), REFUSED);
        due("folder -1", t.putBack(-1, 0, 0), REFUSED);
        due("folder 24", t.putBack(24, 0, 0), REFUSED);
        due("count(2)", t.count(2), 8);
        due("folder first", t.putBack(1, 0, 0), 2);
        due("then the file", t.putBack(2, 0, 0), 3);
        due("count(2)", t.count(2), 10);
    }

    private static void lookAndNextSeeThePast() {
        checks.about("promises 9 and 10");
        PastTree t = new PastTree(0, 0);
        t.tick(5);
        t.make(0, 2, true);
        t.make(0, 6, false);
        t.tick(5);
        t.remove(0, 2);
        t.make(0, 2, true);
        t.remove(0, 2);
        t.make(0, 2, false);
        t.make(0, 7, true);
        due("look before all", t.look(4, 0, 2), 0);
        due("look at the making", t.look(5, 0, 2), 1);
        due("look just before the changes", t.look(9, 0, 2), 1);
        due("look after the last at that time", t.look(10, 0, 2), 4);
        due("look above the clock", t.look(MAX, 0, 2), 4);
        due("look in a folder not made then", t.look(0, 5, 0), 0);
        due("next before all", t.next(4, 0, 0), 8);
        due("next from 0", t.next(5, 0, 0), 2);
        due("next at its name", t.next(5, 0, 2), 2);
        due("next above its name", t.next(5, 0, 3), 6);
        due("next none above", t.next(5, 0, 7), 8);
        due("next the last name", t.next(10, 0, 7), 7);
        due("next above the clock", t.next(MAX, 0, 7), 7);
        due("next in an empty folder", t.next(10, 5, 0), 8);
        t.tick(1);
        t.move(0, 6, 5, 0);
        t.remove(0, 2);
        due("next after a move and a removal", t.next(11, 0, 0), 7);
        due("next before them", t.next(10, 0, 0), 2);
        due("next where it moved to", t.next(11, 5, 0), 0);
    }

    private static void belowCountsThePast() {
        checks.about("promise 12");
        PastTree t = new PastTree(0, 0);
        t.tick(1);
        t.make(0, 0, true);
        t.make(1, 0, true);
        t.make(1, 1, false);
        t.make(2, 7, false);
        t.tick(1);
        t.move(1, 0, 0, 1);
        t.tick(1);
        t.remove(2, 7);
        due("before all", t.below(0, 0), 0);
        due("a folder not made then", t.below(0, 1), 0);
        due("at 1 the root", t.below(1, 0), 4);
        due("at 1 the folder", t.below(1, 1), 3);
        due("at 1 the inner folder", t.below(1, 2), 1);
        due("at 2 the root", t.below(2, 0), 4);
        due("at 2 the folder", t.below(2, 1), 1);
        due("at 3 the root", t.below(3, 0), 3);
        due("at 3 the inner folder", t.below(3, 2), 0);
        due("above the clock", t.below(MAX, 0), 3);
        t.remove(0, 1);
        due("an unplaced folder", t.below(3, 2), 0);
        due("an unplaced folder before", t.below(2, 2), 1);
    }

    private static void pastQueriesRefuseWrongNumbers() {
        checks.about("promises 9, 10 and 12, refused");
        PastTree t = new PastTree(0, 0);
        t.make(0, 0, false);
        int[] wrongFolders = {-1, 1, 2, 23, 24, MAX, MIN};
        for (int folder : wrongFolders) {
            due("look in " + folder, t.look(0, folder, 0), REFUSED);
            due("next in " + folder, t.next(0, folder, 0), REFUSED);
            due("below " + folder, t.below(0, folder), REFUSED);
        }
        int[] wrongNames = {-1, 8, MAX, MIN};
        for (int name : wrongNames) {
            due("look for " + name, t.look(0, 0, name), REFUSED);
            due("next from " + name, t.next(0, 0, name), REFUSED);
        }
        int[] wrongTimes = {-1, MIN};
        for (int time : wrongTimes) {
            due("look at " + time, t.look(time, 0, 0), REFUSED);
            due("next at " + time, t.next(time, 0, 0), REFUSED);
            due("below at " + time, t.below(time, 0), REFUSED);
        }
    }
}
