/**
 * Two new objects with the same past, of which one gets a call that must change nothing: then all that can be asked
 * must be answered alike by both, now and after a crash. New ones each time, as an object is good for 512 calls only.
 */
final class Twins {
    /** With the calls of the past this stays below the 512 that the document allows. */
    private static final int MOST_QUESTIONS = 440;

    interface Past {
        void on(PastTree tree);
    }

    interface Call {
        long on(PastTree tree);
    }

    private final Checks checks;
    private final Past past;
    private final int[] times;
    private int questions = 0;

    Twins(Checks checks, Past past, int... times) {
        this.checks = checks;
        this.past = past;
        this.times = times;
    }

    private PastTree born() {
        PastTree tree = new PastTree(1, 3);
        past.on(tree);
        return tree;
    }

    void leavesAll(String name, Call call, long due) {
        PastTree called = born();
        checks.due(name, call.on(called), due);
        sameAnswers("after " + name, called, born());
        PastTree crashed = born();
        PastTree other = born();
        call.on(crashed);
        same("after " + name + " crash()", crashed.crash(), other.crash());
        sameAnswers("after " + name + " and a crash", crashed, other);
    }

    private void same(String question, long got, long want) {
        questions++;
        checks.due(question, got, want);
    }

    private void sameAnswers(String when, PastTree a, PastTree b) {
        questions = 0;
        for (int what = 0; what < 4; what++) {
            same(when + " count(" + what + ")", a.count(what), b.count(what));
        }
        for (int i = 0; i < 24; i++) {
            same(when + " node(" + i + ", 0)", a.node(i, 0), b.node(i, 0));
            same(when + " node(" + i + ", 1)", a.node(i, 1), b.node(i, 1));
        }
        for (int i = 0; i < b.count(1); i++) {
            if (b.node(i, 0) == 1) {
                sameFolder(when, i, a, b);
            } else {
                sameFile(when, i, a, b);
            }
        }
        checks.due(when + " questions are too many", questions > MOST_QUESTIONS ? 1 : 0, 0);
    }

    private void sameFolder(String when, int folder, PastTree a, PastTree b) {
        for (int time : times) {
            for (int name = 0; name < 8; name++) {
                same(when + " look(" + time + ", " + folder + ", " + name + ")",
                    a.look(time, folder, name), b.look(time, folder, name));
            }
        }
    }

    private void sameFile(String when, int file, PastTree a, PastTree b) {
        for (int what = 2; what <= 4; what++) {
            same(when + " node(" + file + ", " + what + ")", a.node(file, what), b.node(file, what));
        }
        for (int k = 0; k < b.node(file, 2); k++) {
            same(when + " versionTime(" + file + ", " + k + ")", a.versionTime(file, k), b.versionTime(file, k));
        }
        for (int time : times) {
            for (int cell = 0; cell < 4; cell++) {
                same(when + " read(" + time + ", " + file + ", " + cell + ")",
                    a.read(time, file, cell), b.read(time, file, cell));
            }
        }
    }
}
