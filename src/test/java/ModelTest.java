import java.util.Random;

/** Runs of 512 drawn calls, the same ones each time, on the program and on the model: every answer must agree. */
public final class ModelTest {
    private static final int RUNS = 1500;
    private static final int CALLS = 512;
    private static final int[] ODD = {-1, 4, 5, 8, 24, 25, 1001, Integer.MAX_VALUE, Integer.MIN_VALUE};
    private static final Checks checks = new Checks();

    private final Random random;
    private final PastTree tree;
    private final Model model;
    private final int names;
    private final int longest;
    private final int rareCrash;
    private final StringBuilder told = new StringBuilder();
    private long programSays;
    private long modelSays;

    private ModelTest(int seed) {
        random = new Random(seed);
        int[] rules = {-3, 0, 1, 2, 5, 20, 1000, 1001};
        int window = rules[random.nextInt(rules.length)];
        int gap = rules[random.nextInt(rules.length)];
        tree = new PastTree(window, gap);
        model = new Model(window, gap);
        names = 1 + random.nextInt(8);
        longest = seed % 7 == 0 ? 1000 : 1 + random.nextInt(4);
        rareCrash = 1 + random.nextInt(6);
    }

    public static void main(String[] args) {
        boolean full = false;
        boolean lost = false;
        for (int seed = 0; seed < RUNS && checks.allRight(); seed++) {
            ModelTest run = new ModelTest(seed);
            checks.about("run " + seed);
            for (int i = 0; i < CALLS && checks.allRight(); i++) {
                run.oneCall();
                checks.due("call " + (i + 1) + " " + run.told, run.programSays, run.modelSays);
                full |= run.modelSays == PastTree.FULL;
                lost |= run.modelSays == PastTree.LOST;
            }
        }
        checks.about("the runs");
        checks.due("came to FULL and LOST", full && lost ? 1 : 0, 1);
        checks.end();
    }

    private int drawn(int below) {
        return random.nextInt(60) == 0 ? ODD[random.nextInt(ODD.length)] : random.nextInt(below);
    }

    private int aNode() {
        return drawn(Math.min(24, model.count(1) + 1));
    }

    /** Drawn again a few times, so that fewer calls are refused for their kind alone. */
    private int aNode(int kind) {
        int node = aNode();
        for (int i = 0; i < 4 && model.node(node, 0) != kind; i++) {
            node = aNode();
        }
        return node;
    }

    private int aFolder() {
        return aNode(1);
    }

    private int aFile() {
        return aNode(2);
    }

    private int aName() {
        return drawn(names);
    }

    private int aTime() {
        return drawn(model.clock() + 2);
    }

    private void says(String call, long program, long due, int... numbers) {
        programSays = program;
        modelSays = due;
        told.setLength(0);
        told.append(call);
        for (int number : numbers) {
            told.append(' ').append(number);
        }
    }

    private void oneCall() {
        int which = random.nextInt(40);
        if (which < 14) {
            changeTree(which);
        } else if (which < 22) {
            changeFile(which);
        } else if (which < 34) {
            askPast(which);
        } else {
            askOrKeep(which);
        }
    }

    private void changeTree(int which) {
        int folder = aFolder();
        int name = aName();
        if (which < 5) {
            boolean isFolder = random.nextInt(5) < 3;
            says("make", tree.make(folder, name, isFolder), model.make(folder, name, isFolder), folder, name);
        } else if (which < 8) {
            says("remove", tree.remove(folder, name), model.remove(folder, name), folder, name);
        } else if (which < 11) {
            int other = aFolder();
            int as = aName();
            says("move", tree.move(folder, name, other, as), model.move(folder, name, other, as), folder, name, other, as);
        } else {
            int time = aTime();
            says("putBack", tree.putBack(folder, name, time), model.putBack(folder, name, time), folder, name, time);
        }
    }

    private void changeFile(int which) {
        int file = aFile();
        if (which < 19) {
            int cell = drawn(4);
            int value = random.nextInt();
            says("write", tree.write(file, cell, value), model.write(file, cell, value), file, cell, value);
        } else {
            int time = aTime();
            says("turnBack", tree.turnBack(file, time), model.turnBack(file, time), file, time);
        }
    }

    private void askPast(int which) {
        int time = aTime();
        int folder = aFolder();
        int name = aName();
        if (which < 25) {
            says("look", tree.look(time, folder, name), model.look(time, folder, name), time, folder, name);
        } else if (which < 27) {
            says("next", tree.next(time, folder, name), model.next(time, folder, name), time, folder, name);
        } else if (which < 31) {
            int file = aFile();
            int cell = drawn(4);
            says("read", tree.read(time, file, cell), model.read(time, file, cell), time, file, cell);
        } else {
            says("below", tree.below(time, folder), model.below(time, folder), time, folder);
        }
    }

    private void askOrKeep(int which) {
        if (which == 34) {
            int node = aNode();
            int what = drawn(5);
            says("node", tree.node(node, what), model.node(node, what), node, what);
        } else if (which == 35) {
            int file = aFile();
            int k = drawn(Math.max(0, model.node(file, 2)) + 1);
            says("versionTime", tree.versionTime(file, k), model.versionTime(file, k), file, k);
        } else if (which == 36) {
            int what = drawn(4);
            says("count", tree.count(what), model.count(what), what);
        } else if (which < 39) {
            int by = drawn(longest + 1);
            says("tick", tree.tick(by), model.tick(by), by);
        } else {
            keepOrCrash();
        }
    }

    private void keepOrCrash() {
        int which = random.nextInt(2 + rareCrash);
        if (which == 0) {
            says("crash", tree.crash(), model.crash());
        } else if (which == 1) {
            says("sync", tree.sync(), model.sync());
        } else {
            int file = aFile();
            says("thin", tree.thin(file), model.thin(file), file);
        }
    }
}
