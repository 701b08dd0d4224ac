import java.util.ArrayList;
import java.util.List;
import java.util.Random;
import java.util.TreeMap;

/** Runs of 512 drawn calls, the same ones each time, on the program and on the model: every answer must agree. */
public final class ModelTest {
    private static final int RUNS = 1500;
    private static final int CALLS = 512;
    private static final int[] ODD = {-1, 4, 5, 8, 24, 25, 1001, Integer.MAX_VALUE, Integer.MIN_VALUE};
    private static final int[] RULES = {0, 1, 2, 5, 20, -3, 1000, 1001};
    private static final int NARROW_RULES = 5;
    private static final int FILES = 1;
    private static final String[] CALL = {"make", "remove", "move", "putBack", "write", "turnBack", "look", "next", "read",
        "below", "node", "versionTime", "count", "tick", "crash", "sync", "thin"};
    /** How often each of CALL is drawn: in all kinds, with few files that have many versions, with much moved about. */
    private static final int[][] WEIGHTS = {
        {20, 12, 12, 12, 20, 12, 12, 8, 16, 12, 4, 4, 4, 8, 1, 1, 3},
        {4, 1, 1, 1, 40, 14, 2, 2, 40, 1, 12, 10, 2, 40, 2, 2, 10},
        {24, 24, 16, 36, 2, 1, 20, 14, 2, 20, 6, 1, 3, 12, 2, 2, 1}};
    private static final Checks checks = new Checks();
    private static final TreeMap<String, Integer> came = new TreeMap<>();

    private final Random random;
    private final PastTree tree;
    private final Model model;
    private final int kind;
    private final int names;
    private final int longest;
    /** Folder, name and time of what was placed: drawn again by putBack, as few others would be accepted. */
    private final List<int[]> placed = new ArrayList<>();
    private final StringBuilder told = new StringBuilder();
    private long programSays;
    private long modelSays;

    private ModelTest(int seed) {
        random = new Random(seed);
        kind = seed % WEIGHTS.length;
        int rules = kind == FILES ? NARROW_RULES : RULES.length;
        int window = RULES[random.nextInt(rules)];
        int gap = RULES[random.nextInt(rules)];
        tree = new PastTree(window, gap);
        model = new Model(window, gap);
        names = 1 + random.nextInt(8);
        longest = seed % 7 == 0 ? 1000 : 1 + random.nextInt(4);
    }

    public static void main(String[] args) {
        for (int seed = 0; seed < RUNS && checks.allRight(); seed++) {
            ModelTest run = new ModelTest(seed);
            checks.about("run " + seed);
            for (int i = 0; i < CALLS && checks.allRight(); i++) {
                run.oneCall();
                checks.due("call " + (i + 1) + " " + run.told, run.programSays, run.modelSays);
            }
        }
        if (checks.allRight()) {
            seldomAnswersCame();
        }
        checks.end();
    }

    /** Drawn runs show little if nearly all their calls are refused. */
    private static void seldomAnswersCame() {
        checks.about("the runs");
        String[] seldom = {"make FULL", "read LOST", "thin some", "putBack some", "move 0", "remove 0", "crash some",
            "turnBack some", "below some", "versionTime some"};
        for (String one : seldom) {
            checks.due(one + " came a thousand times", came.getOrDefault(one, 0) >= 1000 ? 1 : 0, 1);
        }
    }

    private int drawn(int below) {
        return random.nextInt(60) == 0 ? ODD[random.nextInt(ODD.length)] : random.nextInt(below);
    }

    private int aNode() {
        return drawn(Math.min(24, model.count(1) + 1));
    }

    /** Drawn again a few times, so that fewer calls are refused for their kind alone. */
    private int aNode(int what) {
        int node = aNode();
        for (int i = 0; i < 4 && model.node(node, 0) != what; i++) {
            node = aNode();
        }
        return node;
    }

    private int aFolder() {
        return aNode(1);
    }

    private int aFile() {
        return aNode(2);
    }

    private int aName() {
        return drawn(names);
    }

    private int aTime() {
        return drawn(model.clock() + 2);
    }

    private String aCall() {
        int all = 0;
        for (int weight : WEIGHTS[kind]) {
            all += weight;
        }
        int left = random.nextInt(all);
        int which = 0;
        while (left >= WEIGHTS[kind][which]) {
            left -= WEIGHTS[kind][which];
            which++;
        }
        return CALL[which];
    }

    private void says(String call, long program, long due, int... numbers) {
        programSays = program;
        modelSays = due;
        told.setLength(0);
        told.append(call);
        for (int number : numbers) {
            told.append(' ').append(number);
        }
        came.merge(call + ' ' + sortOf(due), 1, Integer::sum);
    }

    private static String sortOf(long answer) {
        if (answer == PastTree.LOST) {
            return "LOST";
        }
        if (answer == PastTree.FULL) {
            return "FULL";
        }
        if (answer == PastTree.REFUSED || answer == PastTree.NONE) {
            return "REFUSED";
        }
        return answer == 0 ? "0" : "some";
    }

    private void oneCall() {
        String call = aCall();
        switch (call) {
            case "make", "remove", "move", "putBack" -> changeTree(call);
            case "write", "turnBack" -> changeFile(call);
            case "look", "next", "read", "below" -> askPast(call);
            case "node", "versionTime", "count" -> askNow(call);
            default -> keep(call);
        }
    }

    private void changeTree(String call) {
        int folder = aFolder();
        int name = aName();
        switch (call) {
            case "make" -> {
                boolean isFolder = random.nextInt(5) < 3;
                says(call, tree.make(folder, name, isFolder), model.make(folder, name, isFolder), folder, name);
                remember(folder, name);
            }
            case "remove" -> says(call, tree.remove(folder, name), model.remove(folder, name), folder, name);
            case "move" -> {
                int other = aFolder();
                int as = aName();
                says(call, tree.move(folder, name, other, as), model.move(folder, name, other, as), folder, name, other, as);
                remember(other, as);
            }
            default -> putBack(folder, name);
        }
    }

    private void remember(int folder, int name) {
        if (modelSays >= 0) {
            placed.add(new int[] {folder, name, model.clock()});
        }
    }

    private void putBack(int drawnFolder, int drawnName) {
        int folder = drawnFolder;
        int name = drawnName;
        int time = aTime();
        if (!placed.isEmpty() && random.nextInt(4) != 0) {
            int[] one = placed.get(random.nextInt(placed.size()));
            folder = one[0];
            name = one[1];
            time = one[2] + random.nextInt(2);
        }
        says("putBack", tree.putBack(folder, name, time), model.putBack(folder, name, time), folder, name, time);
        remember(folder, name);
    }

    private void changeFile(String call) {
        int file = aFile();
        if (call.equals("write")) {
            int cell = drawn(4);
            int value = random.nextInt();
            says(call, tree.write(file, cell, value), model.write(file, cell, value), file, cell, value);
        } else {
            int time = aTime();
            says(call, tree.turnBack(file, time), model.turnBack(file, time), file, time);
        }
    }

    private void askPast(String call) {
        int time = aTime();
        int folder = aFolder();
        int name = aName();
        switch (call) {
            case "look" -> says(call, tree.look(time, folder, name), model.look(time, folder, name), time, folder, name);
            case "next" -> says(call, tree.next(time, folder, name), model.next(time, folder, name), time, folder, name);
            case "below" -> says(call, tree.below(time, folder), model.below(time, folder), time, folder);
            default -> {
                int file = aFile();
                int cell = drawn(4);
                says(call, tree.read(time, file, cell), model.read(time, file, cell), time, file, cell);
            }
        }
    }

    private void askNow(String call) {
        switch (call) {
            case "node" -> {
                int node = kind == FILES ? aFile() : aNode();
                int what = drawn(5);
                says(call, tree.node(node, what), model.node(node, what), node, what);
            }
            case "versionTime" -> {
                int file = aFile();
                int k = drawn(Math.max(0, model.node(file, 2)) + 1);
                says(call, tree.versionTime(file, k), model.versionTime(file, k), file, k);
            }
            default -> {
                int what = drawn(4);
                says(call, tree.count(what), model.count(what), what);
            }
        }
    }

    private void keep(String call) {
        switch (call) {
            case "tick" -> {
                int by = drawn(longest + 1);
                says(call, tree.tick(by), model.tick(by), by);
            }
            case "crash" -> says(call, tree.crash(), model.crash());
            case "sync" -> says(call, tree.sync(), model.sync());
            default -> {
                int file = aFile();
                says(call, tree.thin(file), model.thin(file), file);
            }
        }
    }
}
