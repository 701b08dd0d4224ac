/**
 * Folders and files with their whole past.
 *
 * Each node keeps two chains, newest first: the spots where it was and, if it is a file, its versions. Links of a
 * chain stay as they were made (but for a version's being gone), so a sync only remembers the newest links and a
 * crash only goes back to them.
 */
public final class PastTree {
    public static final int DONE = 0;
    public static final int REFUSED = -1;
    public static final int FULL = -2;
    public static final long NONE = -1000000000000L;
    public static final long LOST = -2000000000000L;

    private static final int NODES = 24;
    private static final int NAMES = 8;
    private static final int CELLS = 4;
    private static final int ROOT = 0;
    private static final int NOWHERE = -1;
    private static final int LONGEST_TICK = 1000;
    private static final int WIDEST_RULE = 1000;
    private static final int MOST_CHANGES = 512;

    private final int window;
    private final int gap;
    private final Node[] nodes = new Node[NODES];
    /** Where each node was at the time last given to findPlaces: made once, as no call may need a row of its own. */
    private final int[] places = new int[NODES];
    private int clock = 0;
    private int made = 1;
    private int changes = 0;
    private int durableClock = 0;
    private int durableMade = 1;
    private int durableChanges = 0;
    /** Changes that a crash lost are counted here too, as what they took is not given back. */
    private int changesEver = 0;

    public PastTree(int window, int gap) {
        this.window = clamp(window);
        this.gap = clamp(gap);
        for (int i = 0; i < NODES; i++) {
            nodes[i] = new Node();
        }
    }

    public int tick(int by) {
        if (by < 0 || by > LONGEST_TICK) {
            return REFUSED;
        }
        clock += by;
        return clock;
    }

    public int make(int folder, int name, boolean isFolder) {
        if (!isMadeFolder(folder) || !isName(name)) {
            return REFUSED;
        }
        findPlaces(clock);
        if (!hasRoomFor(folder, name)) {
            return REFUSED;
        }
        if (made >= NODES || isUsedUp()) {
            return FULL;
        }
        int number = made;
        made++;
        if (!isFolder) {
            nodes[number].version = new Version(clock, 0, new int[CELLS], null);
        }
        place(number, placeOf(folder, name));
        return number;
    }

    public int remove(int folder, int name) {
        if (!isMadeFolder(folder) || !isName(name)) {
            return REFUSED;
        }
        findPlaces(clock);
        int entry = entryAt(folder, name);
        if (entry == ROOT || firstName(entry, 0) < NAMES) {
            return REFUSED;
        }
        if (isUsedUp()) {
            return FULL;
        }
        place(entry, NOWHERE);
        return DONE;
    }

    public int move(int folder, int name, int other, int as) {
        if (!isMadeFolder(folder) || !isName(name) || !isMadeFolder(other) || !isName(as)) {
            return REFUSED;
        }
        findPlaces(clock);
        int entry = entryAt(folder, name);
        if (entry == ROOT || !hasRoomFor(other, as) || isWithin(other, entry)) {
            return REFUSED;
        }
        if (isUsedUp()) {
            return FULL;
        }
        place(entry, placeOf(other, as));
        return DONE;
    }

    public int write(int file, int cell, int value) {
        Version latest = latestVersion(file);
        if (latest == null || !isCell(cell)) {
            return REFUSED;
        }
        if (isUsedUp()) {
            return FULL;
        }
        int[] cells = latest.cells.clone();
        cells[cell] = value;
        return addVersion(file, latest, cells);
    }

    public int turnBack(int file, int time) {
        Version latest = latestVersion(file);
        if (latest == null || time < 0) {
            return REFUSED;
        }
        Version then = versionAsOf(latest, time);
        if (then == null || then.gone) {
            return REFUSED;
        }
        if (isUsedUp()) {
            return FULL;
        }
        return addVersion(file, latest, then.cells);
    }

    public int putBack(int folder, int name, int time) {
        if (!isMadeFolder(folder) || !isName(name) || time < 0) {
            return REFUSED;
        }
        findPlaces(time);
        int entry = entryAt(folder, name);
        findPlaces(clock);
        if (entry == ROOT || places[entry] != NOWHERE || !hasRoomFor(folder, name) || isWithin(folder, entry)) {
            return REFUSED;
        }
        if (isUsedUp()) {
            return FULL;
        }
        place(entry, placeOf(folder, name));
        return entry;
    }

    public int look(int time, int folder, int name) {
        if (time < 0 || !isMadeFolder(folder) || !isName(name)) {
            return REFUSED;
        }
        findPlaces(time);
        return entryAt(folder, name);
    }

    public int next(int time, int folder, int name) {
        if (time < 0 || !isMadeFolder(folder) || !isName(name)) {
            return REFUSED;
        }
        findPlaces(time);
        return firstName(folder, name);
    }

    public long read(int time, int file, int cell) {
        Version latest = latestVersion(file);
        if (time < 0 || latest == null || !isCell(cell)) {
            return NONE;
        }
        Version then = versionAsOf(latest, time);
        if (then == null) {
            return NONE;
        }
        return then.gone ? LOST : then.cells[cell];
    }

    public int below(int time, int folder) {
        if (time < 0 || !isMadeFolder(folder)) {
            return REFUSED;
        }
        findPlaces(time);
        int found = 0;
        for (int i = 0; i < NODES; i++) {
            if (i != folder && isWithin(i, folder)) {
                found++;
            }
        }
        return found;
    }

    public int thin(int file) {
        Version latest = latestVersion(file);
        if (latest == null) {
            return REFUSED;
        }
        makeDurable();
        return dropThinned(latest);
    }

    public int sync() {
        makeDurable();
        return changes;
    }

    public int crash() {
        int lost = changes - durableChanges;
        clock = durableClock;
        made = durableMade;
        changes = durableChanges;
        for (int i = 0; i < NODES; i++) {
            nodes[i].goBack();
        }
        return lost;
    }

    public int node(int node, int what) {
        if (node < 0 || node >= NODES) {
            return REFUSED;
        }
        if (what == 0) {
            return kindOf(node);
        }
        if (what == 1) {
            return nodes[node].placeAsOf(clock) == NOWHERE ? 0 : 1;
        }
        Version latest = latestVersion(node);
        if (latest == null) {
            return REFUSED;
        }
        switch (what) {
            case 2:
                return latest.index + 1;
            case 3:
                return countGone(latest);
            case 4:
                return latest.time;
            default:
                return REFUSED;
        }
    }

    public int versionTime(int file, int k) {
        Version version = latestVersion(file);
        while (version != null && version.index != k) {
            version = version.before;
        }
        return version == null ? REFUSED : version.time;
    }

    public int count(int what) {
        switch (what) {
            case 0:
                return clock;
            case 1:
                return made;
            case 2:
                return changes;
            case 3:
                return changes - durableChanges;
            default:
                return REFUSED;
        }
    }

    private static int clamp(int given) {
        return Math.max(0, Math.min(WIDEST_RULE, given));
    }

    private static boolean isName(int name) {
        return name >= 0 && name < NAMES;
    }

    private static boolean isCell(int cell) {
        return cell >= 0 && cell < CELLS;
    }

    private static int placeOf(int folder, int name) {
        return folder * NAMES + name;
    }

    private boolean isMade(int number) {
        return number >= 0 && number < made;
    }

    /** A file has a version from the first on, so a made node without one is a folder. */
    private boolean isMadeFolder(int number) {
        return isMade(number) && nodes[number].version == null;
    }

    /** Null if the number is not that of a file. */
    private Version latestVersion(int number) {
        return isMade(number) ? nodes[number].version : null;
    }

    private int kindOf(int number) {
        if (!isMade(number)) {
            return 0;
        }
        return isMadeFolder(number) ? 1 : 2;
    }

    /** No object can come here in the calls that the document allows: it only keeps later ones from taking more. */
    private boolean isUsedUp() {
        return changesEver >= MOST_CHANGES;
    }

    private void noteChange() {
        changes++;
        changesEver++;
    }

    private void place(int number, int place) {
        nodes[number].spot = new Spot(clock, place, nodes[number].spot);
        noteChange();
    }

    private int addVersion(int file, Version latest, int[] cells) {
        boolean replaces = latest.time == clock;
        int index = replaces ? latest.index : latest.index + 1;
        nodes[file].version = new Version(clock, index, cells, replaces ? latest.before : latest);
        noteChange();
        return index + 1;
    }

    private void findPlaces(int time) {
        for (int i = 0; i < NODES; i++) {
            places[i] = nodes[i].placeAsOf(time);
        }
    }

    /** By the places last found. The root stands for none, as it is nobody's entry. */
    private int entryAt(int folder, int name) {
        int place = placeOf(folder, name);
        for (int i = 0; i < NODES; i++) {
            if (places[i] == place) {
                return i;
            }
        }
        return ROOT;
    }

    /** By the places last found. */
    private int firstName(int folder, int from) {
        for (int name = from; name < NAMES; name++) {
            if (entryAt(folder, name) != ROOT) {
                return name;
            }
        }
        return NAMES;
    }

    /** By the places last found. */
    private boolean hasRoomFor(int folder, int name) {
        boolean inUse = folder == ROOT || places[folder] != NOWHERE;
        return inUse && entryAt(folder, name) == ROOT;
    }

    /** By the places last found: going up, as each node is in one folder at most. */
    private boolean isWithin(int number, int top) {
        int at = number;
        for (int step = 0; step < NODES; step++) {
            if (at == top) {
                return true;
            }
            if (places[at] == NOWHERE) {
                return false;
            }
            at = places[at] / NAMES;
        }
        return false;
    }

    private void makeDurable() {
        durableClock = clock;
        durableMade = made;
        durableChanges = changes;
        for (int i = 0; i < NODES; i++) {
            nodes[i].keep();
        }
    }

    private int dropThinned(Version latest) {
        int went = 0;
        Version following = latest;
        Version version = latest.before;
        while (version != null) {
            boolean isOld = following.time < clock - window;
            boolean isClose = following.time - version.time <= gap;
            if (isOld && isClose && !version.gone) {
                version.gone = true;
                went++;
            }
            following = version;
            version = version.before;
        }
        return went;
    }

    private static Version versionAsOf(Version latest, int time) {
        Version version = latest;
        while (version != null && version.time > time) {
            version = version.before;
        }
        return version;
    }

    private static int countGone(Version latest) {
        int gone = 0;
        Version version = latest;
        while (version != null) {
            if (version.gone) {
                gone++;
            }
            version = version.before;
        }
        return gone;
    }

    private static final class Node {
        Spot spot = null;
        Version version = null;
        Spot durableSpot = null;
        Version durableVersion = null;

        void keep() {
            durableSpot = spot;
            durableVersion = version;
        }

        void goBack() {
            spot = durableSpot;
            version = durableVersion;
        }

        int placeAsOf(int time) {
            Spot then = spot;
            while (then != null && then.time > time) {
                then = then.before;
            }
            return then == null ? NOWHERE : then.place;
        }
    }

    /** Where a node was from a time on: a folder and name as one number, or nowhere. */
    private static final class Spot {
        final int time;
        final int place;
        final Spot before;

        Spot(int time, int place, Spot before) {
            this.time = time;
            this.place = place;
            this.before = before;
        }
    }

    /** The cells are never changed, so versions may share them. Only thin sets gone, and that is durable at once. */
    private static final class Version {
        final int time;
        final int index;
        final int[] cells;
        final Version before;
        boolean gone = false;

        Version(int time, int index, int[] cells, Version before) {
            this.time = time;
            this.index = index;
            this.cells = cells;
            this.before = before;
        }
    }
}
