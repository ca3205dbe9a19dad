import java.util.ArrayList;
import java.util.Arrays;
import java.util.List;

/** A second, slower reading of the document, to hold SightLegend's answers against. */
final class Model {
    static final int NONE = -1;

    /** Kind, column, row, value and level of each sign. */
    List<int[]> signs = new ArrayList<>();
    int[] ranks = new int[12];
    int[] groups = new int[12];
    List<List<Integer>> limits = new ArrayList<>();
    int[] ways = new int[5];
    int[] window = {0, 0, 100, 100, 5};
    int[] settings = {3, 1, 20, 5};
    StringBuilder text = new StringBuilder();
    List<Model> saved = new ArrayList<>();
    /** The rounds, until a change makes them void. */
    private List<Round> made;

    record Line(int type, int kind, int group, int first, int last) {
    }

    record Rect(int corner, int left, int top, int width, int height) {
        boolean holds(int[] s) {
            return s[1] >= left && s[1] < left + width && s[2] >= top && s[2] < top + height;
        }
    }

    /** One round: which signs were in sight in it, its lines, their columns and its box. */
    static final class Round {
        List<int[]> sight = new ArrayList<>();
        List<Line> lines = new ArrayList<>();
        List<List<Line>> columns = new ArrayList<>();
        Rect box;
    }

    Model() {
        for (int k = 0; k < 12; k++) {
            ranks[k] = k;
            groups[k] = NONE;
            limits.add(new ArrayList<>());
        }
    }

    Model copy() {
        Model m = new Model();
        for (int[] s : signs) {
            m.signs.add(s.clone());
        }
        m.ranks = ranks.clone();
        m.groups = groups.clone();
        for (int k = 0; k < 12; k++) {
            m.limits.get(k).addAll(limits.get(k));
        }
        m.ways = ways.clone();
        m.window = window.clone();
        m.settings = settings.clone();
        return m;
    }

    private void save() {
        made = null;
        saved.add(copy());
        if (saved.size() > 4) {
            saved.remove(0);
        }
    }

    private static void index(boolean good) {
        if (!good) {
            throw new IndexOutOfBoundsException();
        }
    }

    private static void argument(boolean good) {
        if (!good) {
            throw new IllegalArgumentException();
        }
    }

    private static void state(boolean good) {
        if (!good) {
            throw new IllegalStateException();
        }
    }

    private static boolean in(int x, int low, int high) {
        return low <= x && x <= high;
    }

    // ---- the legend

    boolean windowHolds(int[] s) {
        return in(s[1], window[0], window[0] + window[2] - 1) && in(s[2], window[1], window[1] + window[3] - 1);
    }

    List<int[]> shown() {
        List<int[]> r = new ArrayList<>();
        for (int[] s : signs) {
            if (windowHolds(s) && s[4] <= window[4]) {
                r.add(s);
            }
        }
        return r;
    }

    int classOf(int[] s) {
        int c = 0;
        for (int limit : limits.get(s[0])) {
            c += limit <= s[3] ? 1 : 0;
        }
        return c;
    }

    int count(List<int[]> sight, int kind, int first, int last) {
        int n = 0;
        for (int[] s : sight) {
            n += s[0] == kind && in(classOf(s), first, last) ? 1 : 0;
        }
        return n;
    }

    List<Line> linesOfKind(List<int[]> sight, int kind) {
        List<Line> r = new ArrayList<>();
        for (int c = 0; c <= 5; c++) {
            if (count(sight, kind, c, c) > 0) {
                r.add(new Line(0, kind, groups[kind], c, c));
            }
        }
        while (r.size() > settings[0]) {
            int best = -1;
            int fewest = 1000;
            for (int i = 0; i + 1 < r.size(); i++) {
                int n = count(sight, kind, r.get(i).first, r.get(i + 1).last);
                if (n < fewest) {
                    fewest = n;
                    best = i;
                }
            }
            Line b = r.remove(best + 1);
            r.set(best, new Line(0, kind, groups[kind], r.get(best).first, b.last));
        }
        return r;
    }

    /** Kinds of a block in sight, by ranks, equal ranks by numbers. */
    private List<Integer> inOrder(List<Integer> kinds) {
        List<Integer> r = new ArrayList<>(kinds);
        r.sort((a, b) -> ranks[a] != ranks[b] ? ranks[a] - ranks[b] : a - b);
        return r;
    }

    List<Line> legend(List<int[]> sight) {
        List<List<Integer>> blocks = new ArrayList<>();
        for (int g = 0; g < 5; g++) {
            List<Integer> kinds = new ArrayList<>();
            for (int k = 0; k < 12; k++) {
                if (groups[k] == g && count(sight, k, 0, 5) > 0) {
                    kinds.add(k);
                }
            }
            if (!kinds.isEmpty()) {
                blocks.add(inOrder(kinds));
            }
        }
        for (int k = 0; k < 12; k++) {
            if (groups[k] == NONE && count(sight, k, 0, 5) > 0) {
                blocks.add(List.of(k));
            }
        }
        blocks.sort((a, b) -> ranks[a.get(0)] != ranks[b.get(0)] ? ranks[a.get(0)] - ranks[b.get(0)] : a.get(0) - b.get(0));
        List<Line> r = new ArrayList<>();
        for (List<Integer> block : blocks) {
            int g = groups[block.get(0)];
            int all = 0;
            for (int k = 0; k < 12; k++) {
                all += groups[k] == g ? 1 : 0;
            }
            if (g != NONE && ways[g] == 1 && block.size() >= 2 && block.size() == all) {
                r.add(new Line(2, NONE, g, NONE, NONE));
                continue;
            }
            if (g != NONE && block.size() >= 2) {
                r.add(new Line(1, NONE, g, NONE, NONE));
            }
            for (int k : block) {
                r.addAll(linesOfKind(sight, k));
            }
        }
        return r;
    }

    List<List<Line>> columns(List<Line> lines) {
        int t = lines.size();
        int c = settings[1];
        int h = (t + c - 1) / c;
        List<List<Line>> r = new ArrayList<>();
        r.add(new ArrayList<>());
        for (Line line : lines) {
            List<Line> present = r.get(r.size() - 1);
            boolean next = present.size() == h
                    || line.type == 1 && present.size() == h - 1 && present.size() >= 1;
            if (next && r.size() < c) {
                present = new ArrayList<>();
                r.add(present);
            }
            present.add(line);
        }
        return r;
    }

    Rect box(List<List<Line>> columns) {
        int tallest = 0;
        for (List<Line> column : columns) {
            tallest = Math.max(tallest, column.size());
        }
        if (tallest == 0) {
            return null;
        }
        int w = Math.min(settings[2] * columns.size(), window[2]);
        int h = Math.min(settings[3] * tallest, window[3]);
        Rect best = null;
        for (int corner = 0; corner < 4; corner++) {
            int left = corner % 2 == 0 ? window[0] : window[0] + window[2] - w;
            int top = corner < 2 ? window[1] : window[1] + window[3] - h;
            Rect r = new Rect(corner, left, top, w, h);
            if (best == null || covered(r, shown()) < covered(best, shown())) {
                best = r;
            }
        }
        return best;
    }

    int covered(Rect r, List<int[]> among) {
        int n = 0;
        for (int[] s : among) {
            n += r != null && r.holds(s) ? 1 : 0;
        }
        return n;
    }

    List<Round> allRounds() {
        if (made == null) {
            made = makeRounds();
        }
        return made;
    }

    private List<Round> makeRounds() {
        List<Round> r = new ArrayList<>();
        do {
            Round round = new Round();
            for (int[] s : shown()) {
                Rect hiding = r.isEmpty() ? null : r.get(r.size() - 1).box;
                if (hiding == null || !hiding.holds(s)) {
                    round.sight.add(s);
                }
            }
            round.lines = legend(round.sight);
            round.columns = columns(round.lines);
            round.box = box(round.columns);
            r.add(round);
        } while (r.size() < 8 && !stays(r));
        return r;
    }

    static boolean stays(List<Round> r) {
        return r.size() >= 2 && r.get(r.size() - 1).lines.equals(r.get(r.size() - 2).lines);
    }

    Round last() {
        List<Round> r = allRounds();
        return r.get(r.size() - 1);
    }

    private static boolean stands(Round round, int[] sign) {
        for (int[] s : round.sight) {
            if (s == sign) {
                return true;
            }
        }
        return false;
    }

    boolean standsFor(Line line, int[] sign) {
        if (line.type == 0) {
            return line.kind == sign[0] && in(classOf(sign), line.first, line.last);
        }
        return line.type == 2 && line.group == groups[sign[0]];
    }

    // ---- the calls

    int addSign(int kind, int column, int row, int value, int level) {
        index(in(kind, 0, 11));
        argument(in(column, 0, 199) && in(row, 0, 199) && in(value, 0, 9999) && in(level, 0, 5));
        state(signs.size() < 40);
        save();
        signs.add(new int[] {kind, column, row, value, level});
        return signs.size() - 1;
    }

    int removeSign(int sign) {
        index(in(sign, 0, signs.size() - 1));
        save();
        signs.remove(sign);
        return signs.size();
    }

    int moveSign(int sign, int column, int row) {
        index(in(sign, 0, signs.size() - 1));
        argument(in(column, 0, 199) && in(row, 0, 199));
        save();
        int r = signs.get(sign)[1];
        signs.get(sign)[1] = column;
        signs.get(sign)[2] = row;
        return r;
    }

    int setWindow(int left, int top, int width, int height, int zoom) {
        argument(in(left, 0, 199) && in(top, 0, 199) && in(width, 10, 200) && in(height, 10, 200) && in(zoom, 0, 5));
        save();
        window = new int[] {left, top, width, height, zoom};
        return shown().size();
    }

    int set(int what, int value) {
        argument(in(what, 0, 3));
        argument(in(value, 1, new int[] {6, 4, 60, 20}[what]));
        save();
        int r = settings[what];
        settings[what] = value;
        return r;
    }

    int setKind(int kind, int rank, int group) {
        index(in(kind, 0, 11));
        argument(in(rank, 0, 99) && in(group, -1, 4));
        save();
        int r = ranks[kind];
        ranks[kind] = rank;
        groups[kind] = group;
        return r;
    }

    int setWay(int group, int way) {
        index(in(group, 0, 4));
        argument(in(way, 0, 1));
        save();
        int r = ways[group];
        ways[group] = way;
        return r;
    }

    int limit(int kind, int limit) {
        index(in(kind, 0, 11));
        argument(in(limit, 1, 9999));
        List<Integer> mine = limits.get(kind);
        state(mine.contains(limit) || mine.size() < 5);
        save();
        if (!mine.remove((Integer) limit)) {
            mine.add(limit);
            mine.sort(null);
        }
        return mine.size();
    }

    int value(int what) {
        argument(in(what, 0, 11));
        if (what < 4) {
            return settings[what];
        }
        if (what < 9) {
            return window[what - 4];
        }
        return what == 9 ? signs.size() : what == 10 ? shown().size() : last().sight.size();
    }

    int sign(int sign, int what) {
        index(in(sign, 0, signs.size() - 1));
        argument(in(what, 0, 8));
        int[] s = signs.get(sign);
        if (what < 5) {
            return s[what];
        }
        if (what == 5) {
            return classOf(s);
        }
        if (what == 6) {
            return shown().contains(s) ? 1 : 0;
        }
        Round last = last();
        if (!stands(last, s)) {
            return what == 7 ? 0 : NONE;
        }
        if (what == 7) {
            return 1;
        }
        for (Line line : last.lines) {
            if (standsFor(line, s)) {
                return last.lines.indexOf(line);
            }
        }
        throw new AssertionError("no line explains an explained sign");
    }

    int kind(int kind, int what) {
        index(in(kind, 0, 11));
        argument(in(what, 0, 9));
        List<Integer> mine = limits.get(kind);
        if (what == 0) {
            return ranks[kind];
        }
        if (what == 1) {
            return groups[kind];
        }
        if (what == 2) {
            return mine.size();
        }
        if (what < 8) {
            return what - 3 < mine.size() ? mine.get(what - 3) : NONE;
        }
        if (what == 9) {
            return count(last().sight, kind, 0, 5);
        }
        int n = 0;
        for (Line line : last().lines) {
            n += line.type == 0 && line.kind == kind ? 1 : 0;
        }
        return n;
    }

    int lines() {
        return last().lines.size();
    }

    int line(int line, int what) {
        Round last = last();
        index(in(line, 0, last.lines.size() - 1));
        argument(in(what, 0, 7));
        Line l = last.lines.get(line);
        if (what < 5) {
            return new int[] {l.type, l.kind, l.group, l.first, l.last}[what];
        }
        if (what == 5) {
            int n = 0;
            for (int[] s : last.sight) {
                n += standsFor(l, s) ? 1 : 0;
            }
            return n;
        }
        int place = line;
        int column = 0;
        while (place >= last.columns.get(column).size()) {
            place -= last.columns.get(column).size();
            column++;
        }
        return what == 6 ? column : place;
    }

    int box(int what) {
        argument(in(what, 0, 5));
        Rect b = last().box;
        if (b == null) {
            return NONE;
        }
        return new int[] {b.corner, b.left, b.top, b.width, b.height, covered(b, shown())}[what];
    }

    int rounds(int what) {
        argument(in(what, 0, 2));
        List<Round> r = allRounds();
        if (what == 0) {
            return r.size();
        }
        Round last = r.get(r.size() - 1);
        return what == 1 ? (stays(r) ? 1 : 0) : covered(last.box, last.sight);
    }

    int firstLines() {
        return allRounds().get(0).lines.size();
    }

    double explained() {
        return shown().isEmpty() ? 1.0 : (double) last().sight.size() / (double) shown().size();
    }

    int linesAt(int left, int top) {
        argument(in(left, 0, 199) && in(top, 0, 199));
        Model m = copy();
        m.window[0] = left;
        m.window[1] = top;
        return m.lines();
    }

    int bestColumns() {
        int[] explained = new int[5];
        for (int c = 1; c <= 4; c++) {
            Model m = copy();
            m.settings[1] = c;
            explained[c] = m.value(11);
        }
        int most = Arrays.stream(explained).max().getAsInt();
        for (int c = 1; c <= 4; c++) {
            if (explained[c] == most) {
                return c;
            }
        }
        throw new AssertionError();
    }

    int zoomFor(int kind) {
        index(in(kind, 0, 11));
        for (int zoom = 0; ; zoom++) {
            boolean all = true;
            for (int[] s : signs) {
                all &= s[0] != kind || !windowHolds(s) || s[4] <= zoom;
            }
            if (all) {
                return zoom;
            }
        }
    }

    int linesSaved(int sign) {
        index(in(sign, 0, signs.size() - 1));
        Model m = copy();
        m.signs.remove(sign);
        return lines() - m.lines();
    }

    int append(int value) {
        argument(in(value, 0, 127));
        state(text.length() < 160);
        text.append((char) value);
        return text.length();
    }

    int clearText() {
        int r = text.length();
        text.setLength(0);
        return r;
    }

    /** Reads byte by byte: each one either can stand behind those before it, or can't. */
    int parse() {
        int[] most = {2, 3, 3, 4, 1};
        int[] highest = {11, 199, 199, 9999, 5};
        List<int[]> read = new ArrayList<>();
        int[] sign = new int[5];
        int field = 0;
        int digits = 0;
        int start = 0;
        for (int i = 0; i < text.length(); i++) {
            char b = text.charAt(i);
            boolean digit = b >= '0' && b <= '9';
            if (digits == 0) {
                if (!digit || field == 4 && b > '5' || read.size() == 40) {
                    return -10 - i;
                }
                start = i;
                sign[field] = b - '0';
                digits = 1;
            } else if (digit) {
                if (digits == most[field]) {
                    return -10 - i;
                }
                sign[field] = 10 * sign[field] + b - '0';
                digits++;
            } else if (sign[field] > highest[field]) {
                return -10 - start;
            } else if (b != (field == 4 ? ';' : ',')) {
                return -10 - i;
            } else {
                digits = 0;
                field++;
                if (field == 5) {
                    read.add(sign);
                    sign = new int[5];
                    field = 0;
                }
            }
        }
        if (digits > 0 && sign[field] > highest[field]) {
            return -10 - start;
        }
        if (digits > 0 || field > 0) {
            return -10 - text.length();
        }
        save();
        signs = read;
        return signs.size();
    }

    int undo() {
        state(!saved.isEmpty());
        made = null;
        Model m = saved.remove(saved.size() - 1);
        signs = m.signs;
        ranks = m.ranks;
        groups = m.groups;
        limits = m.limits;
        ways = m.ways;
        window = m.window;
        settings = m.settings;
        return saved.size();
    }

    long digest() {
        long h = 31 * 3391L + text.length();
        for (int what = 0; what < 12; what++) {
            h = 31 * h + value(what);
        }
        for (int way : ways) {
            h = 31 * h + way;
        }
        for (int kind = 0; kind < 12; kind++) {
            for (int what = 0; what < 10; what++) {
                h = 31 * h + kind(kind, what);
            }
        }
        for (int sign = 0; sign < signs.size(); sign++) {
            for (int what = 0; what < 9; what++) {
                h = 31 * h + sign(sign, what);
            }
        }
        for (int line = 0, all = lines(); line < all; line++) {
            for (int what = 0; what < 8; what++) {
                h = 31 * h + line(line, what);
            }
        }
        for (int what = 0; what < 6; what++) {
            h = 31 * h + box(what);
        }
        for (int what = 0; what < 3; what++) {
            h = 31 * h + rounds(what);
        }
        return 31 * h + saved.size();
    }
}
