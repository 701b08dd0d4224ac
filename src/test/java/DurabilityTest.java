/** Promises 14, 15, 16 and 18: what is durable, what a crash leaves, and the counts. */
public final class DurabilityTest {
    private static final int REFUSED = PastTree.REFUSED;
    private static final long NONE = PastTree.NONE;
    private static final int MIN = Integer.MIN_VALUE;
    private static final int MAX = Integer.MAX_VALUE;
    private static final Checks checks = new Checks();

    private static void due(String call, long got, long want) {
        checks.due(call, got, want);
    }

    public static void main(String[] args) {
        syncCountsChanges();
        crashWithoutSync();
        crashGoesBackToTheSync();
        crashKeepsReplacedVersions();
        crashAgainAndAgain();
        crashForgetsThePastOfLostChanges();
        nodeAnswers();
        nodeRefuses();
        countAnswers();
        checks.end();
    }

    private static void syncCountsChanges() {
        checks.about("promise 14");
        PastTree t = new PastTree(0, 0);
        due("at the start", t.sync(), 0);
        t.make(0, 0, true);
        t.make(0, 1, false);
        due("make", t.sync(), 2);
        t.write(2, 0, 1);
        t.turnBack(2, 0);
        due("write and turnBack", t.sync(), 4);
        t.move(0, 1, 1, 1);
        t.tick(1);
        t.remove(1, 1);
        t.putBack(1, 1, 0);
        due("move, remove and putBack", t.sync(), 7);
        t.make(0, 0, true);
        t.write(2, 4, 0);
        t.look(0, 0, 0);
        t.tick(1);
        t.thin(2);
        due("no refused call, no other call", t.sync(), 7);
        t.write(2, 0, 1);
        due("crash", t.crash(), 1);
        due("what a crash lost is not counted", t.sync(), 7);
        t.write(2, 0, 1);
        due("sync", t.sync(), 8);
    }

    private static void crashWithoutSync() {
        checks.about("promise 15, no sync");
        PastTree t = new PastTree(0, 0);
        due("at the start", t.crash(), 0);
        t.tick(9);
        t.make(0, 0, false);
        t.make(0, 1, true);
        t.write(1, 0, 1);
        due("crash", t.crash(), 3);
        due("count(0)", t.count(0), 0);
        due("count(1)", t.count(1), 1);
        due("count(2)", t.count(2), 0);
        due("count(3)", t.count(3), 0);
        due("node(1, 0)", t.node(1, 0), 0);
        due("node(1, 1)", t.node(1, 1), 0);
        due("look(9, 0, 0)", t.look(9, 0, 0), 0);
        due("read(9, 1, 0)", t.read(9, 1, 0), NONE);
        due("write(1, 0, 1)", t.write(1, 0, 1), REFUSED);
        due("make(0, 0, true)", t.make(0, 0, true), 1);
        due("a folder now", t.node(1, 0), 1);
    }

    private static void crashGoesBackToTheSync() {
        checks.about("promise 15");
        PastTree t = new PastTree(0, 0);
        t.make(0, 0, true);
        t.make(1, 0, false);
        t.tick(2);
        t.write(2, 0, 2);
        t.tick(2);
        due("sync", t.sync(), 3);
        t.tick(1);
        t.write(2, 0, 5);
        t.move(1, 0, 0, 3);
        t.remove(0, 0);
        t.make(0, 4, false);
        due("crash", t.crash(), 4);
        due("the time", t.count(0), 4);
        due("nodes", t.count(1), 3);
        due("changes", t.count(2), 3);
        due("folder is there", t.look(4, 0, 0), 1);
        due("file is there", t.look(MAX, 1, 0), 2);
        due("not where it was moved to", t.look(MAX, 0, 3), 0);
        due("nor the new one", t.look(MAX, 0, 4), 0);
        due("file placed", t.node(2, 1), 1);
        due("versions", t.node(2, 2), 2);
        due("latest", t.node(2, 4), 2);
        due("read", t.read(MAX, 2, 0), 2);
        due("crash with nothing to lose", t.crash(), 0);
    }

    private static void crashKeepsReplacedVersions() {
        checks.about("promise 15, replaced versions");
        PastTree t = new PastTree(0, 0);
        t.make(0, 0, false);
        t.write(1, 1, 7);
        t.sync();
        due("replaces", t.write(1, 1, 8), 1);
        due("replaces", t.write(1, 2, 9), 1);
        due("crash", t.crash(), 2);
        due("cell 1", t.read(0, 1, 1), 7);
        due("cell 2", t.read(0, 1, 2), 0);
        due("versions", t.node(1, 2), 1);
        t.tick(3);
        due("later", t.write(1, 1, 8), 2);
        due("crash", t.crash(), 1);
        due("replaces, the clock went back", t.write(1, 1, 6), 1);
    }

    private static void crashAgainAndAgain() {
        checks.about("promise 15, again");
        PastTree t = new PastTree(0, 0);
        t.tick(1);
        t.sync();
        for (int i = 0; i < 3; i++) {
            due("make", t.make(0, i, i == 1), 1);
            t.tick(1000);
            due("crash", t.crash(), 1);
            due("the time", t.count(0), 1);
        }
        t.tick(1);
        due("a tick alone is lost too", t.crash(), 0);
        due("the time", t.count(0), 1);
        t.tick(1);
        t.sync();
        t.crash();
        due("a tick alone is durable too", t.count(0), 2);
    }

    private static void crashForgetsThePastOfLostChanges() {
        checks.about("promise 15, the past");
        PastTree t = new PastTree(0, 0);
        t.make(0, 0, false);
        t.sync();
        t.tick(2);
        t.remove(0, 0);
        t.make(0, 1, true);
        t.tick(2);
        t.make(2, 0, false);
        t.crash();
        t.tick(5);
        due("look(2, 0, 0)", t.look(2, 0, 0), 1);
        due("look(2, 0, 1)", t.look(2, 0, 1), 0);
        due("below(4, 0)", t.below(4, 0), 1);
        due("putBack of what was lost", t.putBack(0, 1, 3), REFUSED);
        due("make", t.make(0, 1, true), 2);
        due("not there before", t.look(4, 0, 1), 0);
        due("there now", t.look(5, 0, 1), 2);
    }

    private static void nodeAnswers() {
        checks.about("promise 16");
        PastTree t = new PastTree(0, 5);
        t.make(0, 0, true);
        t.make(1, 0, false);
        t.tick(1);
        t.write(2, 0, 1);
        t.tick(1);
        t.write(2, 0, 2);
        t.tick(3);
        t.thin(2);
        due("root kind", t.node(0, 0), 1);
        due("root placed", t.node(0, 1), 0);
        due("folder kind", t.node(1, 0), 1);
        due("folder placed", t.node(1, 1), 1);
        due("file kind", t.node(2, 0), 2);
        due("file placed", t.node(2, 1), 1);
        due("versions", t.node(2, 2), 3);
        due("gone", t.node(2, 3), 2);
        due("latest", t.node(2, 4), 2);
        due("not made kind", t.node(3, 0), 0);
        due("not made placed", t.node(3, 1), 0);
        due("the last not made", t.node(23, 0), 0);
        t.remove(1, 0);
        due("removed kind", t.node(2, 0), 2);
        due("removed placed", t.node(2, 1), 0);
        due("removed versions", t.node(2, 2), 3);
    }

    private static void nodeRefuses() {
        checks.about("promise 16, refused");
        PastTree t = new PastTree(0, 0);
        t.make(0, 0, false);
        t.make(0, 1, true);
        int[] noFiles = {0, 2, 3, 23};
        for (int number : noFiles) {
            for (int what = 2; what <= 4; what++) {
                due("node(" + number + ", " + what + ")", t.node(number, what), REFUSED);
            }
        }
        int[] wrongNodes = {-1, 24, MAX, MIN};
        for (int number : wrongNodes) {
            for (int what = 0; what <= 4; what++) {
                due("node(" + number + ", " + what + ")", t.node(number, what), REFUSED);
            }
        }
        int[] wrongWhats = {-1, 5, MAX, MIN};
        for (int what : wrongWhats) {
            for (int number = 0; number < 4; number++) {
                due("node(" + number + ", " + what + ")", t.node(number, what), REFUSED);
            }
        }
    }

    private static void countAnswers() {
        checks.about("promise 18");
        PastTree t = new PastTree(0, 0);
        t.tick(6);
        t.make(0, 0, false);
        t.write(1, 0, 1);
        due("count(0)", t.count(0), 6);
        due("count(1)", t.count(1), 2);
        due("count(2)", t.count(2), 2);
        due("count(3)", t.count(3), 2);
        t.sync();
        due("count(3) after sync", t.count(3), 0);
        t.remove(0, 0);
        due("count(1) after remove", t.count(1), 2);
        due("count(2)", t.count(2), 3);
        due("count(3)", t.count(3), 1);
        int[] wrong = {-1, 4, MAX, MIN};
        for (int what : wrong) {
            due("count(" + what + ")", t.count(what), REFUSED);
        }
    }
}
