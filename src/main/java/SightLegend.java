/**
 * A maker of map legends that explain only the signs in sight. The document
 * ../shared/DOC.md tells each call; the numbers behind "promise" are its numbers.
 */
public final class SightLegend {
    public static final int NONE = -1;

    private static final int KINDS = 12;
    private static final int GROUPS = 5;
    private static final int RANKS = 100;
    private static final int LIMITS = 5;
    private static final int CLASSES = 6;
    private static final int SIGNS = 40;
    private static final int PLACES = 200;
    private static final int VALUES = 10000;
    private static final int LEVELS = 6;
    private static final int SAVED_STATES = 4;
    private static final int MOST_ROUNDS = 8;
    private static final int CORNERS = 4;
    private static final int TEXT_BYTES = 160;
    /** Every class of every kind as a line, and a heading for every group. */
    private static final int MOST_LINES = 77;

    private static final int LEFT = 0;
    private static final int TOP = 1;
    private static final int WIDTH = 2;
    private static final int HEIGHT = 3;
    private static final int ZOOM = 4;
    private static final int WINDOW_PARTS = 5;
    private static final int LEAST_SPAN = 10;

    private static final int LINES_OF_A_KIND = 0;
    private static final int LEGEND_COLUMNS = 1;
    private static final int COLUMN_WIDTH = 2;
    private static final int LINE_HEIGHT = 3;
    private static final int SETTINGS = 4;
    private static final int[] HIGHEST_SETTING = {6, 4, 60, 20};

    private static final int VALUE_FACTS = 12;
    private static final int SIGN_FACTS = 9;
    private static final int KIND_FACTS = 10;
    private static final int LINE_FACTS = 8;
    private static final int BOX_FACTS = 6;
    private static final int ROUND_FACTS = 3;

    private static final int KIND_LINE = 0;
    private static final int HEADING = 1;
    private static final int JOINED = 2;

    private final MapState map;
    private final Legend legend;
    /** The state and the legend of what-if calls, so that those of the map stay as they are. */
    private final MapState otherMap;
    private final Legend otherLegend;
    private final SignText text;
    /** The saved states in a ring: the oldest one's place, and how many there are. */
    private final MapState[] saved;
    private int oldestSaved;
    private int savedCount;

    public SightLegend() {
        map = new MapState();
        legend = new Legend();
        otherMap = new MapState();
        otherLegend = new Legend();
        text = new SignText();
        saved = new MapState[SAVED_STATES];
        for (int i = 0; i < SAVED_STATES; i++) {
            saved[i] = new MapState();
        }
    }

    // ---- map

    public int addSign(int kind, int column, int row, int value, int level)
            throws IndexOutOfBoundsException, IllegalArgumentException, IllegalStateException {
        demandKind(kind);
        demandBelow(column, PLACES);
        demandBelow(row, PLACES);
        demandBelow(value, VALUES);
        demandBelow(level, LEVELS);
        if (map.signCount >= SIGNS) {
            throw new IllegalStateException("the map is full");
        }
        saveState();
        map.putSign(kind, column, row, value, level);
        return map.signCount - 1;
    }

    public int removeSign(int sign) throws IndexOutOfBoundsException {
        demandSign(sign);
        saveState();
        map.dropSign(sign);
        return map.signCount;
    }

    public int moveSign(int sign, int column, int row)
            throws IndexOutOfBoundsException, IllegalArgumentException {
        demandSign(sign);
        demandBelow(column, PLACES);
        demandBelow(row, PLACES);
        saveState();
        int previous = map.signColumn[sign];
        map.signColumn[sign] = column;
        map.signRow[sign] = row;
        return previous;
    }

    public int setWindow(int left, int top, int width, int height, int zoom)
            throws IllegalArgumentException {
        demandBelow(left, PLACES);
        demandBelow(top, PLACES);
        demandSpan(width);
        demandSpan(height);
        demandBelow(zoom, LEVELS);
        saveState();
        map.window[LEFT] = left;
        map.window[TOP] = top;
        map.window[WIDTH] = width;
        map.window[HEIGHT] = height;
        map.window[ZOOM] = zoom;
        return map.countShown();
    }

    public int set(int what, int value) throws IllegalArgumentException {
        demandBelow(what, SETTINGS);
        if (value < 1 || value > HIGHEST_SETTING[what]) {
            throw new IllegalArgumentException("the setting is out of its range");
        }
        saveState();
        int previous = map.settings[what];
        map.settings[what] = value;
        return previous;
    }

    public int setKind(int kind, int rank, int group)
            throws IndexOutOfBoundsException, IllegalArgumentException {
        demandKind(kind);
        demandBelow(rank, RANKS);
        if (group != NONE) {
            demandBelow(group, GROUPS);
        }
        saveState();
        int previous = map.rank[kind];
        map.rank[kind] = rank;
        map.group[kind] = group;
        return previous;
    }

    public int setWay(int group, int way) throws IndexOutOfBoundsException, IllegalArgumentException {
        if (group < 0 || group >= GROUPS) {
            throw new IndexOutOfBoundsException("there is no such group");
        }
        demandBelow(way, 2);
        saveState();
        int previous = map.way[group];
        map.way[group] = way;
        return previous;
    }

    public int limit(int kind, int limit)
            throws IndexOutOfBoundsException, IllegalArgumentException, IllegalStateException {
        demandKind(kind);
        if (limit < 1 || limit >= VALUES) {
            throw new IllegalArgumentException("the limit is out of its range");
        }
        boolean known = map.hasLimit(kind, limit);
        if (!known && map.limitCount[kind] >= LIMITS) {
            throw new IllegalStateException("the kind has all its limits");
        }
        saveState();
        if (known) {
            map.dropLimit(kind, limit);
        } else {
            map.putLimit(kind, limit);
        }
        return map.limitCount[kind];
    }

    public int value(int what) throws IllegalArgumentException {
        demandBelow(what, VALUE_FACTS);
        legend.make(map);
        return numberOf(what);
    }

    public int sign(int sign, int what) throws IndexOutOfBoundsException, IllegalArgumentException {
        demandSign(sign);
        demandBelow(what, SIGN_FACTS);
        legend.make(map);
        return signFact(sign, what);
    }

    public int kind(int kind, int what) throws IndexOutOfBoundsException, IllegalArgumentException {
        demandKind(kind);
        demandBelow(what, KIND_FACTS);
        legend.make(map);
        return kindFact(kind, what);
    }

    // ---- legend

    public int lines() {
        legend.make(map);
        return legend.now.size;
    }

    public int line(int line, int what) throws IndexOutOfBoundsException, IllegalArgumentException {
        legend.make(map);
        if (line < 0 || line >= legend.now.size) {
            throw new IndexOutOfBoundsException("there is no such line");
        }
        demandBelow(what, LINE_FACTS);
        return legend.now.fact(line, what);
    }

    public int box(int what) throws IllegalArgumentException {
        demandBelow(what, BOX_FACTS);
        legend.make(map);
        return legend.box.fact(what);
    }

    public int rounds(int what) throws IllegalArgumentException {
        demandBelow(what, ROUND_FACTS);
        legend.make(map);
        return roundFact(what);
    }

    public int firstLines() {
        legend.make(map);
        return legend.firstLineCount;
    }

    public double explained() {
        legend.make(map);
        int shown = legend.shownCount;
        return shown > 0 ? (double) legend.explainedCount / (double) shown : 1.0;
    }

    // ---- what if

    public int linesAt(int left, int top) throws IllegalArgumentException {
        demandBelow(left, PLACES);
        demandBelow(top, PLACES);
        otherMap.copyFrom(map);
        otherMap.window[LEFT] = left;
        otherMap.window[TOP] = top;
        otherLegend.stands = false;
        otherLegend.make(otherMap);
        return otherLegend.now.size;
    }

    public int bestColumns() {
        otherMap.copyFrom(map);
        int best = 0;
        int most = NONE;
        for (int columns = 1; columns <= HIGHEST_SETTING[LEGEND_COLUMNS]; columns++) {
            otherMap.settings[LEGEND_COLUMNS] = columns;
            otherLegend.stands = false;
            otherLegend.make(otherMap);
            if (otherLegend.explainedCount > most) {
                most = otherLegend.explainedCount;
                best = columns;
            }
        }
        return best;
    }

    public int zoomFor(int kind) throws IndexOutOfBoundsException {
        demandKind(kind);
        int zoom = 0;
        for (int sign = 0; sign < map.signCount; sign++) {
            if (map.signKind[sign] == kind && map.isInWindow(sign)) {
                zoom = Math.max(zoom, map.signLevel[sign]);
            }
        }
        return zoom;
    }

    public int linesSaved(int sign) throws IndexOutOfBoundsException {
        demandSign(sign);
        legend.make(map);
        otherMap.copyFrom(map);
        otherMap.dropSign(sign);
        otherLegend.stands = false;
        otherLegend.make(otherMap);
        return legend.now.size - otherLegend.now.size;
    }

    // ---- text

    public int append(int value) throws IllegalArgumentException, IllegalStateException {
        demandBelow(value, 128);
        if (text.length >= TEXT_BYTES) {
            throw new IllegalStateException("the text is full");
        }
        text.put(value);
        return text.length;
    }

    public int clearText() {
        int previous = text.length;
        text.length = 0;
        return previous;
    }

    public int parse() {
        text.read();
        if (text.error != NONE) {
            return -10 - text.error;
        }
        saveState();
        map.takeSigns(text.signs);
        return map.signCount;
    }

    // ---- state

    public int undo() throws IllegalStateException {
        if (savedCount <= 0) {
            throw new IllegalStateException("there is no saved state");
        }
        savedCount--;
        MapState state = saved[(oldestSaved + savedCount) % SAVED_STATES];
        if (state != null) {
            map.copyFrom(state);
        }
        legend.stands = false;
        return savedCount;
    }

    public long digest() {
        legend.make(map);
        long hash = 31 * 3391L + text.length;
        for (int what = 0; what < VALUE_FACTS; what++) {
            hash = 31 * hash + numberOf(what);
        }
        for (int group = 0; group < GROUPS; group++) {
            hash = 31 * hash + map.way[group];
        }
        hash = hashOfKinds(hash);
        hash = hashOfSigns(hash);
        hash = hashOfLines(hash);
        for (int what = 0; what < BOX_FACTS; what++) {
            hash = 31 * hash + legend.box.fact(what);
        }
        for (int what = 0; what < ROUND_FACTS; what++) {
            hash = 31 * hash + roundFact(what);
        }
        return 31 * hash + savedCount;
    }

    private long hashOfKinds(long start) {
        long hash = start;
        for (int kind = 0; kind < KINDS; kind++) {
            for (int what = 0; what < KIND_FACTS; what++) {
                hash = 31 * hash + kindFact(kind, what);
            }
        }
        return hash;
    }

    private long hashOfSigns(long start) {
        long hash = start;
        for (int sign = 0; sign < map.signCount; sign++) {
            for (int what = 0; what < SIGN_FACTS; what++) {
                hash = 31 * hash + signFact(sign, what);
            }
        }
        return hash;
    }

    private long hashOfLines(long start) {
        long hash = start;
        for (int line = 0; line < legend.now.size; line++) {
            for (int what = 0; what < LINE_FACTS; what++) {
                hash = 31 * hash + legend.now.fact(line, what);
            }
        }
        return hash;
    }

    /** Saves the state from before a change; the change makes the present legend void. */
    private void saveState() {
        if (savedCount == SAVED_STATES) {
            oldestSaved = (oldestSaved + 1) % SAVED_STATES;
            savedCount--;
        }
        MapState state = saved[(oldestSaved + savedCount) % SAVED_STATES];
        if (state != null) {
            state.copyFrom(map);
        }
        savedCount++;
        legend.stands = false;
    }

    /** One of the numbers of promise 10; the legend must stand, here and in the facts below. */
    private int numberOf(int what) {
        if (what < SETTINGS) {
            return what >= 0 ? map.settings[what] : NONE;
        }
        if (what < SETTINGS + WINDOW_PARTS) {
            return map.window[what - SETTINGS];
        }
        switch (what) {
            case 9:
                return map.signCount;
            case 10:
                return legend.shownCount;
            default:
                return legend.explainedCount;
        }
    }

    private int signFact(int sign, int what) {
        if (sign < 0 || sign >= SIGNS) {
            return NONE;
        }
        switch (what) {
            case 0:
                return map.signKind[sign];
            case 1:
                return map.signColumn[sign];
            case 2:
                return map.signRow[sign];
            case 3:
                return map.signValue[sign];
            case 4:
                return map.signLevel[sign];
            case 5:
                return map.classOf(sign);
            case 6:
                return legend.shown[sign] ? 1 : 0;
            case 7:
                return legend.inSight[sign] ? 1 : 0;
            default:
                return legend.lineOf(map, sign);
        }
    }

    private int kindFact(int kind, int what) {
        if (kind < 0 || kind >= KINDS) {
            return NONE;
        }
        switch (what) {
            case 0:
                return map.rank[kind];
            case 1:
                return map.group[kind];
            case 2:
                return map.limitCount[kind];
            case 8:
                return legend.now.countOfKind(kind);
            case 9:
                return legend.ranges.total[kind];
            default:
                return map.limitAt(kind, what - 3);
        }
    }

    private int roundFact(int what) {
        switch (what) {
            case 0:
                return legend.roundCount;
            case 1:
                return legend.stays ? 1 : 0;
            default:
                return legend.countCoveredInSight(map);
        }
    }

    private void demandSign(int sign) {
        if (sign < 0 || sign >= map.signCount) {
            throw new IndexOutOfBoundsException("there is no such sign");
        }
    }

    private static void demandKind(int kind) {
        if (kind < 0 || kind >= KINDS) {
            throw new IndexOutOfBoundsException("there is no such kind");
        }
    }

    private static void demandBelow(int argument, int bound) {
        if (argument < 0 || argument >= bound) {
            throw new IllegalArgumentException("an argument is out of its range");
        }
    }

    private static void demandSpan(int span) {
        if (span < LEAST_SPAN || span > PLACES) {
            throw new IllegalArgumentException("the window has no such size");
        }
    }

    /** All that undo restores: signs, kinds, groups, the window and the settings. */
    private static final class MapState {
        final int[] signKind = new int[SIGNS];
        final int[] signColumn = new int[SIGNS];
        final int[] signRow = new int[SIGNS];
        final int[] signValue = new int[SIGNS];
        final int[] signLevel = new int[SIGNS];
        int signCount;
        final int[] rank = new int[KINDS];
        final int[] group = new int[KINDS];
        final int[] limitCount = new int[KINDS];
        /** LIMITS places for each kind, one kind behind the other. */
        final int[] limits = new int[KINDS * LIMITS];
        final int[] way = new int[GROUPS];
        final int[] window = new int[WINDOW_PARTS];
        final int[] settings = new int[SETTINGS];

        MapState() {
            for (int kind = 0; kind < KINDS; kind++) {
                rank[kind] = kind;
                group[kind] = NONE;
            }
            window[WIDTH] = 100;
            window[HEIGHT] = 100;
            window[ZOOM] = LEVELS - 1;
            settings[LINES_OF_A_KIND] = 3;
            settings[LEGEND_COLUMNS] = 1;
            settings[COLUMN_WIDTH] = 20;
            settings[LINE_HEIGHT] = 5;
        }

        void copyFrom(MapState other) {
            takeSigns(other);
            System.arraycopy(other.rank, 0, rank, 0, KINDS);
            System.arraycopy(other.group, 0, group, 0, KINDS);
            System.arraycopy(other.limitCount, 0, limitCount, 0, KINDS);
            System.arraycopy(other.limits, 0, limits, 0, KINDS * LIMITS);
            System.arraycopy(other.way, 0, way, 0, GROUPS);
            System.arraycopy(other.window, 0, window, 0, WINDOW_PARTS);
            System.arraycopy(other.settings, 0, settings, 0, SETTINGS);
        }

        void takeSigns(MapState other) {
            System.arraycopy(other.signKind, 0, signKind, 0, SIGNS);
            System.arraycopy(other.signColumn, 0, signColumn, 0, SIGNS);
            System.arraycopy(other.signRow, 0, signRow, 0, SIGNS);
            System.arraycopy(other.signValue, 0, signValue, 0, SIGNS);
            System.arraycopy(other.signLevel, 0, signLevel, 0, SIGNS);
            signCount = other.signCount;
        }

        void putSign(int kind, int column, int row, int value, int level) {
            if (signCount < 0 || signCount >= SIGNS) {
                return;
            }
            signKind[signCount] = kind;
            signColumn[signCount] = column;
            signRow[signCount] = row;
            signValue[signCount] = value;
            signLevel[signCount] = level;
            signCount++;
        }

        void dropSign(int sign) {
            if (sign < 0 || sign >= signCount) {
                return;
            }
            for (int i = sign; i + 1 < signCount; i++) {
                signKind[i] = signKind[i + 1];
                signColumn[i] = signColumn[i + 1];
                signRow[i] = signRow[i + 1];
                signValue[i] = signValue[i + 1];
                signLevel[i] = signLevel[i + 1];
            }
            signCount--;
        }

        boolean isInWindow(int sign) {
            int right = signColumn[sign] - window[LEFT];
            int down = signRow[sign] - window[TOP];
            return right >= 0 && right < window[WIDTH] && down >= 0 && down < window[HEIGHT];
        }

        boolean isShown(int sign) {
            return signLevel[sign] <= window[ZOOM] && isInWindow(sign);
        }

        int countShown() {
            int count = 0;
            for (int sign = 0; sign < signCount; sign++) {
                if (isShown(sign)) {
                    count++;
                }
            }
            return count;
        }

        int classOf(int sign) {
            int kind = signKind[sign];
            int number = 0;
            for (int i = 0; i < limitCount[kind]; i++) {
                if (limits[kind * LIMITS + i] <= signValue[sign]) {
                    number++;
                }
            }
            return number;
        }

        int limitAt(int kind, int place) {
            return place >= 0 && place < limitCount[kind] ? limits[kind * LIMITS + place] : NONE;
        }

        boolean hasLimit(int kind, int limit) {
            for (int i = 0; i < limitCount[kind]; i++) {
                if (limits[kind * LIMITS + i] == limit) {
                    return true;
                }
            }
            return false;
        }

        void putLimit(int kind, int limit) {
            if (limitCount[kind] >= LIMITS) {
                return;
            }
            int start = kind * LIMITS;
            int at = start + limitCount[kind];
            while (at > start && limits[at - 1] > limit) {
                limits[at] = limits[at - 1];
                at--;
            }
            limits[at] = limit;
            limitCount[kind]++;
        }

        void dropLimit(int kind, int limit) {
            int start = kind * LIMITS;
            int kept = 0;
            for (int i = 0; i < limitCount[kind]; i++) {
                int one = limits[start + i];
                if (one != limit) {
                    limits[start + kept] = one;
                    kept++;
                }
            }
            limitCount[kind] = kept;
        }
    }

    /** The ranges of classes that stand in the lines of each kind. */
    private static final class Ranges {
        /** The signs in sight of each kind, and of each class of it (CLASSES places for a kind). */
        final int[] total = new int[KINDS];
        final int[] classSigns = new int[KINDS * CLASSES];
        /** The ranges, CLASSES places for a kind, of which the first 'size' ones are in use. */
        final int[] size = new int[KINDS];
        final int[] first = new int[KINDS * CLASSES];
        final int[] last = new int[KINDS * CLASSES];
        final int[] signs = new int[KINDS * CLASSES];

        void build(MapState map, boolean[] inSight) {
            countSigns(map, inSight);
            for (int kind = 0; kind < KINDS; kind++) {
                takeClasses(kind);
                int most = Math.max(map.settings[LINES_OF_A_KIND], 1);
                // each pass joins two of at most CLASSES ranges
                for (int i = 0; i < CLASSES && size[kind] > most; i++) {
                    joinFewest(kind);
                }
            }
        }

        private void countSigns(MapState map, boolean[] inSight) {
            for (int kind = 0; kind < KINDS; kind++) {
                total[kind] = 0;
            }
            for (int i = 0; i < KINDS * CLASSES; i++) {
                classSigns[i] = 0;
            }
            for (int sign = 0; sign < map.signCount; sign++) {
                if (inSight[sign]) {
                    int kind = map.signKind[sign];
                    total[kind]++;
                    classSigns[kind * CLASSES + map.classOf(sign)]++;
                }
            }
        }

        private void takeClasses(int kind) {
            int start = kind * CLASSES;
            size[kind] = 0;
            for (int number = 0; number < CLASSES; number++) {
                if (classSigns[start + number] > 0) {
                    int at = start + size[kind];
                    first[at] = number;
                    last[at] = number;
                    signs[at] = classSigns[start + number];
                    size[kind]++;
                }
            }
        }

        private void joinFewest(int kind) {
            int start = kind * CLASSES;
            int end = start + size[kind];
            int best = start;
            for (int at = start + 1; at + 1 < end; at++) {
                if (signs[at] + signs[at + 1] < signs[best] + signs[best + 1]) {
                    best = at;
                }
            }
            last[best] = last[best + 1];
            signs[best] += signs[best + 1];
            for (int at = best + 1; at + 1 < end; at++) {
                first[at] = first[at + 1];
                last[at] = last[at + 1];
                signs[at] = signs[at + 1];
            }
            size[kind]--;
        }
    }

    /** The lines of a legend in their order, with their columns. */
    private static final class Lines {
        int size;
        final int[] type = new int[MOST_LINES];
        final int[] kind = new int[MOST_LINES];
        final int[] group = new int[MOST_LINES];
        final int[] first = new int[MOST_LINES];
        final int[] last = new int[MOST_LINES];
        final int[] signs = new int[MOST_LINES];
        final int[] column = new int[MOST_LINES];
        final int[] place = new int[MOST_LINES];
        int usedColumns;
        int tallest;
        /** The kinds in sight by ranks and numbers, and which groups have their block. */
        final int[] order = new int[KINDS];
        int orderSize;
        final boolean[] groupDone = new boolean[GROUPS];

        void copyFrom(Lines other) {
            size = other.size;
            for (int i = 0; i < size; i++) {
                type[i] = other.type[i];
                kind[i] = other.kind[i];
                group[i] = other.group[i];
                first[i] = other.first[i];
                last[i] = other.last[i];
            }
        }

        boolean isSameAs(Lines other) {
            if (size != other.size) {
                return false;
            }
            for (int i = 0; i < size; i++) {
                if (type[i] != other.type[i] || kind[i] != other.kind[i] || group[i] != other.group[i]
                        || first[i] != other.first[i] || last[i] != other.last[i]) {
                    return false;
                }
            }
            return true;
        }

        /**
         * Makes the lines of all blocks. A block's place is that of its first kind in the
         * order of all kinds in sight, so one walk through that order meets the blocks in theirs.
         */
        void compose(MapState map, Ranges ranges) {
            size = 0;
            orderKinds(map, ranges);
            for (int i = 0; i < GROUPS; i++) {
                groupDone[i] = false;
            }
            for (int i = 0; i < orderSize; i++) {
                int one = order[i];
                int itsGroup = map.group[one];
                if (itsGroup < 0 || itsGroup >= GROUPS) {
                    addKindLines(one, NONE, ranges);
                } else if (!groupDone[itsGroup]) {
                    groupDone[itsGroup] = true;
                    addGroup(map, itsGroup, ranges);
                }
            }
        }

        private void orderKinds(MapState map, Ranges ranges) {
            orderSize = 0;
            for (int one = 0; one < KINDS; one++) {
                if (ranges.size[one] > 0) {
                    int at = orderSize;
                    while (at > 0 && map.rank[order[at - 1]] > map.rank[one]) {
                        order[at] = order[at - 1];
                        at--;
                    }
                    order[at] = one;
                    orderSize++;
                }
            }
        }

        private void addGroup(MapState map, int itsGroup, Ranges ranges) {
            int members = 0;
            int seen = 0;
            int seenSigns = 0;
            for (int one = 0; one < KINDS; one++) {
                if (map.group[one] == itsGroup) {
                    members++;
                    seen += ranges.size[one] > 0 ? 1 : 0;
                    seenSigns += ranges.total[one];
                }
            }
            if (map.way[itsGroup] == 1 && seen >= 2 && seen == members) {
                add(JOINED, NONE, itsGroup, NONE, NONE, seenSigns);
                return;
            }
            if (seen >= 2) {
                add(HEADING, NONE, itsGroup, NONE, NONE, 0);
            }
            for (int i = 0; i < orderSize; i++) {
                if (map.group[order[i]] == itsGroup) {
                    addKindLines(order[i], itsGroup, ranges);
                }
            }
        }

        private void addKindLines(int one, int itsGroup, Ranges ranges) {
            int start = one * CLASSES;
            for (int at = start; at < start + ranges.size[one]; at++) {
                add(KIND_LINE, one, itsGroup, ranges.first[at], ranges.last[at], ranges.signs[at]);
            }
        }

        private void add(int aType, int aKind, int aGroup, int aFirst, int aLast, int itsSigns) {
            if (size >= MOST_LINES) {
                return;
            }
            type[size] = aType;
            kind[size] = aKind;
            group[size] = aGroup;
            first[size] = aFirst;
            last[size] = aLast;
            signs[size] = itsSigns;
            size++;
        }

        void layOut(int columns) {
            int full = columns > 0 ? (size + columns - 1) / columns : size;
            int presentColumn = 0;
            int inColumn = 0;
            tallest = 0;
            for (int i = 0; i < size; i++) {
                // a heading does not stay alone at the end of a column
                boolean ends = inColumn >= full
                        || type[i] == HEADING && inColumn >= 1 && inColumn >= full - 1;
                if (ends && presentColumn < columns - 1) {
                    presentColumn++;
                    inColumn = 0;
                }
                column[i] = presentColumn;
                place[i] = inColumn;
                inColumn++;
                tallest = Math.max(tallest, inColumn);
            }
            usedColumns = size > 0 ? presentColumn + 1 : 0;
        }

        int countOfKind(int one) {
            int count = 0;
            for (int i = 0; i < size; i++) {
                if (type[i] == KIND_LINE && kind[i] == one) {
                    count++;
                }
            }
            return count;
        }

        int fact(int line, int what) {
            if (line < 0 || line >= size) {
                return NONE;
            }
            switch (what) {
                case 0:
                    return type[line];
                case 1:
                    return kind[line];
                case 2:
                    return group[line];
                case 3:
                    return first[line];
                case 4:
                    return last[line];
                case 5:
                    return signs[line];
                case 6:
                    return column[line];
                default:
                    return place[line];
            }
        }
    }

    /** The box of a legend; without lines there is none, and all its numbers are NONE. */
    private static final class Box {
        int corner;
        int left;
        int top;
        int width;
        int height;
        int covered;

        void place(MapState map, Lines lines, boolean[] shown) {
            if (lines.size <= 0) {
                vanish();
                return;
            }
            width = Math.min(map.settings[COLUMN_WIDTH] * lines.usedColumns, map.window[WIDTH]);
            height = Math.min(map.settings[LINE_HEIGHT] * lines.tallest, map.window[HEIGHT]);
            int best = 0;
            int fewest = SIGNS + 1;
            for (int one = 0; one < CORNERS; one++) {
                moveTo(map, one);
                int count = countCovered(map, shown);
                if (count < fewest) {
                    fewest = count;
                    best = one;
                }
            }
            moveTo(map, best);
            covered = fewest;
        }

        private void vanish() {
            corner = NONE;
            left = NONE;
            top = NONE;
            width = NONE;
            height = NONE;
            covered = NONE;
        }

        private void moveTo(MapState map, int newCorner) {
            corner = newCorner;
            boolean right = newCorner == 1 || newCorner == 3;
            boolean bottom = newCorner == 2 || newCorner == 3;
            left = map.window[LEFT] + (right ? map.window[WIDTH] - width : 0);
            top = map.window[TOP] + (bottom ? map.window[HEIGHT] - height : 0);
        }

        int countCovered(MapState map, boolean[] among) {
            int count = 0;
            for (int sign = 0; sign < map.signCount; sign++) {
                if (among[sign] && covers(map, sign)) {
                    count++;
                }
            }
            return count;
        }

        boolean covers(MapState map, int sign) {
            int right = map.signColumn[sign] - left;
            int down = map.signRow[sign] - top;
            return corner != NONE && right >= 0 && right < width && down >= 0 && down < height;
        }

        int fact(int what) {
            switch (what) {
                case 0:
                    return corner;
                case 1:
                    return left;
                case 2:
                    return top;
                case 3:
                    return width;
                case 4:
                    return height;
                default:
                    return covered;
            }
        }
    }

    /** The legend of a map, made in rounds. */
    private static final class Legend {
        /** Whether the legend is that of the map as it is now; if so, it is not made again. */
        boolean stands;
        final boolean[] shown = new boolean[SIGNS];
        final boolean[] inSight = new boolean[SIGNS];
        int shownCount;
        int explainedCount;
        final Ranges ranges = new Ranges();
        final Lines now = new Lines();
        final Lines before = new Lines();
        final Box box = new Box();
        int roundCount;
        boolean stays;
        int firstLineCount;

        void make(MapState map) {
            if (stands) {
                return;
            }
            seeAllShown(map);
            stays = false;
            for (int round = 1; round <= MOST_ROUNDS && !stays; round++) {
                if (round > 1) {
                    hideCovered(map);
                }
                makeRound(map, round);
            }
            explainedCount = 0;
            for (int sign = 0; sign < SIGNS; sign++) {
                explainedCount += inSight[sign] ? 1 : 0;
            }
            stands = true;
        }

        private void seeAllShown(MapState map) {
            shownCount = 0;
            for (int sign = 0; sign < SIGNS; sign++) {
                shown[sign] = sign < map.signCount && map.isShown(sign);
                inSight[sign] = shown[sign];
                shownCount += shown[sign] ? 1 : 0;
            }
        }

        private void hideCovered(MapState map) {
            for (int sign = 0; sign < SIGNS; sign++) {
                inSight[sign] = shown[sign] && !box.covers(map, sign);
            }
        }

        private void makeRound(MapState map, int round) {
            before.copyFrom(now);
            ranges.build(map, inSight);
            now.compose(map, ranges);
            now.layOut(map.settings[LEGEND_COLUMNS]);
            box.place(map, now, shown);
            roundCount = round;
            if (round == 1) {
                firstLineCount = now.size;
            } else {
                stays = now.isSameAs(before);
            }
        }

        int countCoveredInSight(MapState map) {
            return box.countCovered(map, inSight);
        }

        int lineOf(MapState map, int sign) {
            if (!inSight[sign]) {
                return NONE;
            }
            int kind = map.signKind[sign];
            int number = map.classOf(sign);
            for (int i = 0; i < now.size; i++) {
                if (now.type[i] == JOINED && now.group[i] == map.group[kind]) {
                    return i;
                }
                if (now.kind[i] == kind && now.first[i] <= number && number <= now.last[i]) {
                    return i;
                }
            }
            return NONE;
        }
    }

    /** The sign text, and the signs that were read from it last. */
    private static final class SignText {
        final int[] bytes = new int[TEXT_BYTES];
        int length;
        final MapState signs = new MapState();
        /** The syntax error position, or NONE. */
        int error;
        /** The index of the byte to read next. */
        private int at;

        void put(int value) {
            if (length >= 0 && length < TEXT_BYTES) {
                bytes[length] = value;
                length++;
            }
        }

        void read() {
            at = 0;
            error = NONE;
            signs.signCount = 0;
            for (int i = 0; i <= SIGNS && at < length && error == NONE; i++) {
                if (i < SIGNS) {
                    readSign();
                } else {
                    error = at;
                }
            }
        }

        private void readSign() {
            int kind = readNumber(2, KINDS);
            readByte(',');
            int column = readNumber(3, PLACES);
            readByte(',');
            int row = readNumber(3, PLACES);
            readByte(',');
            int value = readNumber(4, VALUES);
            readByte(',');
            int level = readLevel();
            readByte(';');
            if (error == NONE) {
                signs.putSign(kind, column, row, value, level);
            }
        }

        /** Behind an error nothing more is read, for the first error is the one that counts. */
        private int readNumber(int mostDigits, int bound) {
            if (error != NONE) {
                return 0;
            }
            int start = at;
            int number = 0;
            for (int i = 0; i < mostDigits && isDigit(at); i++) {
                number = number * 10 + (bytes[at] - '0');
                at++;
            }
            if (at == start || isDigit(at)) {
                error = at;
            } else if (number >= bound) {
                error = start;
            }
            return number;
        }

        private int readLevel() {
            if (error != NONE) {
                return 0;
            }
            int level = isDigit(at) ? bytes[at] - '0' : LEVELS;
            if (level >= LEVELS) {
                error = at;
                return 0;
            }
            at++;
            return level;
        }

        private void readByte(int due) {
            if (error != NONE) {
                return;
            }
            if (at >= 0 && at < length && bytes[at] == due) {
                at++;
            } else {
                error = at;
            }
        }

        private boolean isDigit(int index) {
            return index >= 0 && index < length && bytes[index] >= '0' && bytes[index] <= '9';
        }
    }
}
