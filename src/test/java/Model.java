import java.util.ArrayList;
import java.util.List;

/**
 * The document told over again in the dearest and plainest way: a picture of all entries after each change, and a
 * whole copy of the state at each sync. It shares no idea with the program, so that both hardly err alike.
 */
final class Model {
    private static final int REFUSED = -1;
    private static final int FULL = -2;
    private static final long NONE = -1000000000000L;
    private static final long LOST = -2000000000000L;

    private static final class Picture {
        int time;
        int[][] entries = new int[24][8];

        Picture copy() {
            Picture p = new Picture();
            p.time = time;
            for (int i = 0; i < 24; i++) {
                p.entries[i] = entries[i].clone();
            }
            return p;
        }
    }

    private static final class FileVersion {
        int time;
        int[] cells;
        boolean gone;

        FileVersion(int time, int[] cells, boolean gone) {
            this.time = time;
            this.cells = cells.clone();
            this.gone = gone;
        }
    }

    private static final class State {
        int clock = 0;
        int changes = 0;
        int[] kind = new int[24];
        List<Picture> pictures = new ArrayList<>();
        List<List<FileVersion>> versions = new ArrayList<>();

        State() {
            kind[0] = 1;
            pictures.add(new Picture());
            for (int i = 0; i < 24; i++) {
                versions.add(new ArrayList<>());
            }
        }

        State copy() {
            State s = new State();
            s.clock = clock;
            s.changes = changes;
            s.kind = kind.clone();
            s.pictures.clear();
            for (Picture p : pictures) {
                s.pictures.add(p.copy());
            }
            for (int i = 0; i < 24; i++) {
                for (FileVersion v : versions.get(i)) {
                    s.versions.get(i).add(new FileVersion(v.time, v.cells, v.gone));
                }
            }
            return s;
        }
    }

    private final int window;
    private final int gap;
    private State state = new State();
    private State durable = new State();

    Model(int window, int gap) {
        this.window = window < 0 ? 0 : window > 1000 ? 1000 : window;
        this.gap = gap < 0 ? 0 : gap > 1000 ? 1000 : gap;
    }

    int clock() {
        return state.clock;
    }

    private boolean is(int node, int kind) {
        return node >= 0 && node < 24 && state.kind[node] == kind;
    }

    private static boolean in(int number, int least, int most) {
        return number >= least && number <= most;
    }

    private int[][] entriesAt(int time) {
        int[][] found = null;
        for (Picture p : state.pictures) {
            if (p.time <= time) {
                found = p.entries;
            }
        }
        return found;
    }

    private int[][] entriesNow() {
        return state.pictures.get(state.pictures.size() - 1).entries;
    }

    private int[][] newPicture() {
        Picture p = state.pictures.get(state.pictures.size() - 1).copy();
        p.time = state.clock;
        state.pictures.add(p);
        state.changes++;
        return p.entries;
    }

    private boolean placed(int node) {
        for (int[] row : entriesNow()) {
            for (int entry : row) {
                if (entry == node && node != 0) {
                    return true;
                }
            }
        }
        return false;
    }

    private static void collect(int[][] entries, int from, boolean[] seen) {
        for (int entry : entries[from]) {
            if (entry != 0 && !seen[entry]) {
                seen[entry] = true;
                collect(entries, entry, seen);
            }
        }
    }

    private static boolean canCome(int[][] entries, int from, int to) {
        boolean[] seen = new boolean[24];
        collect(entries, from, seen);
        return seen[to];
    }

    private FileVersion versionAt(int file, int time) {
        FileVersion found = null;
        for (FileVersion v : state.versions.get(file)) {
            if (v.time <= time) {
                found = v;
            }
        }
        return found;
    }

    private int addVersion(int file, int[] cells) {
        List<FileVersion> all = state.versions.get(file);
        if (!all.isEmpty() && all.get(all.size() - 1).time == state.clock) {
            all.remove(all.size() - 1);
        }
        all.add(new FileVersion(state.clock, cells, false));
        return all.size();
    }

    int tick(int by) {
        if (!in(by, 0, 1000)) {
            return REFUSED;
        }
        state.clock += by;
        return state.clock;
    }

    int make(int folder, int name, boolean isFolder) {
        if (!is(folder, 1) || !in(name, 0, 7)) {
            return REFUSED;
        }
        if (folder != 0 && !placed(folder)) {
            return REFUSED;
        }
        if (entriesNow()[folder][name] != 0) {
            return REFUSED;
        }
        int node = 0;
        while (node < 24 && state.kind[node] != 0) {
            node++;
        }
        if (node == 24) {
            return FULL;
        }
        newPicture()[folder][name] = node;
        state.kind[node] = isFolder ? 1 : 2;
        if (!isFolder) {
            addVersion(node, new int[4]);
        }
        return node;
    }

    int remove(int folder, int name) {
        if (!is(folder, 1) || !in(name, 0, 7)) {
            return REFUSED;
        }
        int entry = entriesNow()[folder][name];
        if (entry == 0) {
            return REFUSED;
        }
        for (int inner : entriesNow()[entry]) {
            if (inner != 0) {
                return REFUSED;
            }
        }
        newPicture()[folder][name] = 0;
        return 0;
    }

    int move(int folder, int name, int other, int as) {
        if (!is(folder, 1) || !is(other, 1) || !in(name, 0, 7) || !in(as, 0, 7)) {
            return REFUSED;
        }
        int[][] now = entriesNow();
        int entry = now[folder][name];
        if (entry == 0 || other != 0 && !placed(other)) {
            return REFUSED;
        }
        if (other == entry || canCome(now, entry, other) || now[other][as] != 0) {
            return REFUSED;
        }
        int[][] after = newPicture();
        after[folder][name] = 0;
        after[other][as] = entry;
        return 0;
    }

    int write(int file, int cell, int value) {
        if (!is(file, 2) || !in(cell, 0, 3)) {
            return REFUSED;
        }
        int[] cells = versionAt(file, state.clock).cells.clone();
        cells[cell] = value;
        state.changes++;
        return addVersion(file, cells);
    }

    int turnBack(int file, int time) {
        if (!is(file, 2) || time < 0) {
            return REFUSED;
        }
        FileVersion then = versionAt(file, time);
        if (then == null || then.gone) {
            return REFUSED;
        }
        state.changes++;
        return addVersion(file, then.cells);
    }

    int putBack(int folder, int name, int time) {
        if (!is(folder, 1) || time < 0 || !in(name, 0, 7)) {
            return REFUSED;
        }
        int entry = entriesAt(time)[folder][name];
        if (entry == 0 || placed(entry) || folder != 0 && !placed(folder)) {
            return REFUSED;
        }
        if (entriesNow()[folder][name] != 0 || folder == entry || canCome(entriesNow(), entry, folder)) {
            return REFUSED;
        }
        newPicture()[folder][name] = entry;
        return entry;
    }

    int look(int time, int folder, int name) {
        return time < 0 || !is(folder, 1) || !in(name, 0, 7) ? REFUSED : entriesAt(time)[folder][name];
    }

    int next(int time, int folder, int name) {
        if (time < 0 || !is(folder, 1) || !in(name, 0, 7)) {
            return REFUSED;
        }
        int found = name;
        while (found < 8 && entriesAt(time)[folder][found] == 0) {
            found++;
        }
        return found;
    }

    long read(int time, int file, int cell) {
        if (time < 0 || !is(file, 2) || !in(cell, 0, 3) || versionAt(file, time) == null) {
            return NONE;
        }
        return versionAt(file, time).gone ? LOST : versionAt(file, time).cells[cell];
    }

    int below(int time, int folder) {
        if (time < 0 || !is(folder, 1)) {
            return REFUSED;
        }
        boolean[] seen = new boolean[24];
        collect(entriesAt(time), folder, seen);
        int found = 0;
        for (int i = 0; i < 24; i++) {
            if (seen[i] && i != folder) {
                found++;
            }
        }
        return found;
    }

    int thin(int file) {
        if (!is(file, 2)) {
            return REFUSED;
        }
        List<FileVersion> all = state.versions.get(file);
        int went = 0;
        for (int k = 0; k + 1 < all.size(); k++) {
            int nextTime = all.get(k + 1).time;
            if (nextTime < state.clock - window && nextTime <= all.get(k).time + gap) {
                went += all.get(k).gone ? 0 : 1;
                all.get(k).gone = true;
            }
        }
        durable = state.copy();
        return went;
    }

    int sync() {
        durable = state.copy();
        return state.changes;
    }

    int crash() {
        int lost = state.changes - durable.changes;
        state = durable.copy();
        return lost;
    }

    int node(int node, int what) {
        if (!in(node, 0, 23) || !in(what, 0, 4)) {
            return REFUSED;
        }
        if (what == 0) {
            return state.kind[node];
        }
        if (what == 1) {
            return placed(node) ? 1 : 0;
        }
        if (state.kind[node] != 2) {
            return REFUSED;
        }
        List<FileVersion> all = state.versions.get(node);
        if (what == 2) {
            return all.size();
        }
        if (what == 4) {
            return all.get(all.size() - 1).time;
        }
        int gone = 0;
        for (FileVersion v : all) {
            gone += v.gone ? 1 : 0;
        }
        return gone;
    }

    int versionTime(int file, int k) {
        if (!is(file, 2) || !in(k, 0, state.versions.get(file).size() - 1)) {
            return REFUSED;
        }
        return state.versions.get(file).get(k).time;
    }

    int count(int what) {
        int made = 0;
        for (int kind : state.kind) {
            made += kind != 0 ? 1 : 0;
        }
        int[] answers = {state.clock, made, state.changes, state.changes - durable.changes};
        return in(what, 0, 3) ? answers[what] : REFUSED;
    }
}
