import java.util.ArrayList;
import java.util.Arrays;
import java.util.HashSet;
import java.util.List;
import java.util.Map;
import java.util.Set;
import java.util.TreeMap;
import java.util.TreeSet;

/** The document once more, as plainly as objects, maps and exceptions allow; ModelTest holds SweepKeeper against it. */
final class Model {
    static final int NONE = -1, UNKNOWN = -101, OUTSIDE = -102, NOT = -104;

    /** A finding, thrown where it is met. */
    private static final class Found extends RuntimeException {
        private static final long serialVersionUID = 1;
        final int finding;

        Found(int finding) {
            super(null, null, false, false);
            this.finding = finding;
        }
    }

    private static final class Cell {
        int handle, kind, weak = NONE, number, moved, rank, looked;
        int[] links, keys = {}, bytes = {}, why = {};

        Cell(int handle, int kind, int n) {
            this.handle = handle;
            this.kind = kind;
            links = new int[kind == 0 ? 2 : kind == 1 || kind == 5 ? n : kind == 2 ? 0 : 1];
            Arrays.fill(links, NONE);
            keys = new int[kind == 5 ? n : 0];
            bytes = new int[kind == 2 ? n : 0];
        }

        Cell(Cell c) {
            handle = c.handle;
            kind = c.kind;
            weak = c.weak;
            number = c.number;
            moved = c.moved;
            rank = c.rank;
            looked = c.looked;
            links = c.links.clone();
            keys = c.keys.clone();
            bytes = c.bytes.clone();
            why = c.why.clone();
        }

        boolean is(int wanted) {
            switch (wanted) {
                case 0: return kind == 0 || kind == 3 || kind == 4;
                case 1: return kind == 1 || kind == 5;
                case 3: return kind == 3 || kind == 4;
                default: return kind == wanted;
            }
        }

        List<Integer> ints() {
            List<Integer> out = new ArrayList<>();
            out.add(handle * 8 + kind);
            if (kind == 1 || kind == 5) {
                out.add(links.length);
            } else if (kind == 2) {
                out.add(bytes.length);
            }
            for (int l : links) {
                out.add(l);
            }
            if (kind == 3 || kind == 4) {
                out.add(weak);
            }
            if (kind == 4) {
                out.add(number);
            }
            for (int k : keys) {
                out.add(k);
            }
            for (int at = 0; at < bytes.length; at += 4) {
                int word = 0;
                for (int k = at; k < Math.min(at + 4, bytes.length); k++) {
                    word += bytes[k] << 8 * (k - at);
                }
                out.add(word);
            }
            return out;
        }
    }

    private static final class State {
        int n = 256, made, cycles, kept, back, slid, backInAll, tellings, next, done, findings;
        boolean marking;
        TreeMap<Integer, Cell> cells = new TreeMap<>();
        int[] roots = new int[24], registers = new int[8];
        int[][] shelves = new int[4][8];
        List<int[]> told = new ArrayList<>(), acts = new ArrayList<>();
        List<Integer> paper = new ArrayList<>(), plain = new ArrayList<>();

        State(int n) {
            this.n = n;
            Arrays.fill(roots, NONE);
            Arrays.fill(registers, NONE);
            for (int[] shelf : shelves) {
                Arrays.fill(shelf, NONE);
            }
        }

        State(State s) {
            n = s.n;
            made = s.made;
            cycles = s.cycles;
            kept = s.kept;
            back = s.back;
            slid = s.slid;
            backInAll = s.backInAll;
            tellings = s.tellings;
            next = s.next;
            done = s.done;
            findings = s.findings;
            marking = s.marking;
            for (Cell c : s.cells.values()) {
                cells.put(c.handle, new Cell(c));
            }
            roots = s.roots.clone();
            registers = s.registers.clone();
            for (int k = 0; k < 4; k++) {
                shelves[k] = s.shelves[k].clone();
            }
            told.addAll(s.told);
            acts.addAll(s.acts);
            paper.addAll(s.paper);
            plain.addAll(s.plain);
        }
    }

    private State s = new State(256);
    private State image, undo;
    private int finding, copied, found;
    private final int[] trace = new int[14];

    /** Call number op of the document's face (size is 0) with its arguments. */
    int call(int op, int... v) {
        int refusal = refusal(op, v);
        if (refusal != 0) {
            return refusal;
        }
        boolean names = op >= 1 && op <= 20 && op != 16 && op != 18 || op == 24 || op == 25;
        try {
            int answer = done(op, v);
            if (names) {
                finding = 0;
            }
            return answer;
        } catch (Found f) {
            finding = f.finding;
            return -10 - f.finding;
        }
    }

    private boolean known(int h) {
        return h >= 0 && h < s.made;
    }

    private static boolean in(int v, int low, int high) {
        return low <= v && v <= high;
    }

    private static boolean badMake(int kind, int n) {
        return !in(kind, 0, 5) || (kind == 1 || kind == 2 || kind == 5) && n > 300;
    }

    private int refusal(int op, int[] v) {
        switch (op) {
            case 0: return in(v[0], 16, 4000) ? 0 : OUTSIDE;
            case 1: return badMake(v[0], v[1]) ? OUTSIDE : 0;
            case 2: case 3: case 4: case 5: case 7: case 9: case 10: case 11: case 12: case 13: case 14:
            case 24: case 25:
                return known(v[0]) ? 0 : UNKNOWN;
            case 6: return known(v[0]) && (v[2] == NONE || known(v[2])) ? 0 : UNKNOWN;
            case 8: return known(v[0]) && (v[1] == NONE || known(v[1])) ? 0 : UNKNOWN;
            case 15: return in(v[0], 0, 23) && (v[1] == NONE || known(v[1])) ? 0 : UNKNOWN;
            case 16: return in(v[0], 0, 23) ? 0 : UNKNOWN;
            case 17: return known(v[0]) && known(v[2]) ? 0 : UNKNOWN;
            case 19: return in(v[0], 0, 3) && (v[2] == NONE || known(v[2])) ? 0 : UNKNOWN;
            case 20: return in(v[0], 0, 3) ? 0 : UNKNOWN;
            case 21: return in(v[0], 0, 1000) ? 0 : OUTSIDE;
            case 26: return in(v[1], 0, 2) ? 0 : OUTSIDE;
            case 27: return in(v[0], 0, 15) ? 0 : OUTSIDE;
            case 28: return in(v[0], 0, s.n - 1) ? 0 : OUTSIDE;
            case 31: case 32: return in(v[0], 0, s.paper.size() - 1) ? 0 : UNKNOWN;
            case 34: return s.paper.isEmpty() ? NOT : 0;
            case 35: return refusalOfAct(v);
            case 37: return !in(v[0], 0, 200) ? OUTSIDE : s.acts.isEmpty() ? NOT : 0;
            case 39: return in(v[0], 0, 7) ? 0 : UNKNOWN;
            case 41: return image == null ? NOT : 0;
            case 42: return undo == null ? NOT : 0;
            case 44: return in(v[0], 0, 13) ? 0 : UNKNOWN;
            default: return 0;
        }
    }

    private int refusalOfAct(int[] v) {
        if (!in(v[0], 0, 12)) {
            return OUTSIDE;
        }
        // r a register, o a root, s a shelf, . not looked at
        String[] names = {"r..", "r.r", "r.r", "or.", "or.", "rr.", "rr.", "r.r", "r..", "...", "...", "r..", "s.r"};
        for (int k = 0; k < 3; k++) {
            char c = names[v[0]].charAt(k);
            int most = c == 'r' ? 7 : c == 'o' ? 23 : 3;
            if (c != '.' && !in(v[k + 1], 0, most)) {
                return UNKNOWN;
            }
        }
        if (v[0] == 0 && badMake(v[2], v[3]) || v[0] == 9 && !in(v[1], 0, 1000)) {
            return OUTSIDE;
        }
        return s.acts.size() == 40 ? NOT : 0;
    }

    private int done(int op, int[] v) {
        switch (op) {
            case 0: return size(v[0]);
            case 1: return make(v[0], v[1]);
            case 2: return cell(v[0]).kind;
            case 3: return placeOf(cell(v[0]));
            case 4: return measure(cell(v[0]));
            case 5: return links(cell(v[0]));
            case 6: return link(v[0], v[1], v[2]);
            case 7: return get(v[0], v[1]);
            case 8: return weaken(v[0], v[1]);
            case 9: return look(v[0]);
            case 10: return number(v[0], v[1]);
            case 11: return put(v[0], v[1], v[2]);
            case 12: return bytes(v[0], v[1]).bytes[v[1]];
            case 13: return key(v[0], v[1], v[2]);
            case 14: return find(v[0], v[1]);
            case 15: return root(v[0], v[1]);
            case 16: return s.roots[v[0]];
            case 17: return copy(v[0], v[1], v[2], v[3], v[4]);
            case 18: return copied;
            case 19: return shelve(v[0], v[1], v[2]);
            case 20: return in(v[1], 0, 7) ? s.shelves[v[0]][v[1]] : fail(2);
            case 21: return step(v[0]);
            case 22: return finish();
            case 23: return s.marking ? 1 : 0;
            case 24: return cell(v[0]).rank;
            case 25: return cell(v[0]).moved;
            case 26: return in(v[0], 0, Math.min(100, s.told.size()) - 1) ? s.told.get(v[0])[v[1]] : NONE;
            case 27: return about(v[0]);
            case 28: return v[0] < heap().size() ? heap().get(v[0]) : 0;
            case 29: return digest();
            default: return doneOther(op, v);
        }
    }

    private int doneOther(int op, int[] v) {
        switch (op) {
            case 30: return s.paper.size();
            case 31: return s.paper.get(v[0]);
            case 32: return s.paper.set(v[0], v[1]);
            case 33: return plain();
            case 34: return check();
            case 35: s.acts.add(v.clone()); return s.acts.size();
            case 36: return clear();
            case 37: return run(v[0]);
            case 38: return found;
            case 39: return s.registers[v[0]];
            case 40: image = new State(s); return s.cells.size();
            case 41: s = new State(image); undo = null; return 1;
            case 42: s = undo; undo = null; return 1;
            case 43: return finding;
            case 44: return trace[v[0]];
            default: throw new IllegalArgumentException("no call " + op);
        }
    }

    private static int fail(int finding) {
        throw new Found(finding);
    }

    private Cell cell(int h) {
        Cell c = s.cells.get(h);
        return c != null ? c : s.cells.get(fail(1));
    }

    private Cell cell(int h, int kind) {
        Cell c = cell(h);
        return c.is(kind) ? c : s.cells.get(fail(3));
    }

    private void thereOrNone(int t) {
        if (t != NONE) {
            cell(t);
        }
    }

    private List<Integer> heap() {
        List<Integer> out = new ArrayList<>();
        for (Cell c : s.cells.values()) {
            out.addAll(c.ints());
        }
        return out;
    }

    private int placeOf(Cell c) {
        int at = 0;
        for (Cell o : s.cells.headMap(c.handle).values()) {
            at += o.ints().size();
        }
        return at;
    }

    private int size(int n) {
        s = new State(n);
        image = null;
        undo = null;
        finding = 0;
        copied = 0;
        found = 0;
        return 1;
    }

    private int reached() {
        Set<Integer> seen = new HashSet<>();
        List<Integer> open = new ArrayList<>();
        for (int r : s.roots) {
            open.add(r);
        }
        int ints = 0;
        while (!open.isEmpty()) {
            int h = open.remove(open.size() - 1);
            if (h != NONE && seen.add(h)) {
                ints += s.cells.get(h).ints().size();
                for (int l : s.cells.get(h).links) {
                    open.add(l);
                }
            }
        }
        return ints;
    }

    private int make(int kind, int n) {
        boolean counted = kind == 1 || kind == 2 || kind == 5;
        if (counted && n < 0) {
            fail(4);
        }
        if (s.made == 500) {
            fail(6);
        }
        Cell c = new Cell(s.made, kind, counted ? n : 0);
        int ints = c.ints().size();
        if (ints > s.n - heap().size()) {
            if (reached() + ints > s.n) {
                fail(6);
            }
            if (s.marking) {
                finish();
            }
            if (ints > s.n - heap().size()) {
                finish();
            }
        }
        s.made++;
        s.cells.put(c.handle, c);
        mark(c.handle, 5, NONE, NONE);
        return c.handle;
    }

    private int measure(Cell c) {
        int[][] bodies = {{0}, {2}, {4}, {0}, {1, 0}, {3, 2}};
        for (int b : bodies[c.kind]) {
            trace[b]++;
        }
        return c.ints().size();
    }

    private int links(Cell c) {
        int[][] bodies = {{5}, {7}, {8}, {6, 5}, {6, 5}, {7}};
        for (int b : bodies[c.kind]) {
            trace[b]++;
        }
        return c.links.length;
    }

    private Cell linked(int h) {
        Cell c = cell(h);
        if (c.kind == 2) {
            fail(3);
        }
        return c;
    }

    private int link(int h, int i, int t) {
        Cell c = linked(h);
        thereOrNone(t);
        if (!in(i, 0, c.links.length - 1)) {
            fail(2);
        }
        mark(c.links[i], 2, h, i);
        c.links[i] = t;
        mark(t, 3, h, i);
        return 1;
    }

    private int get(int h, int i) {
        Cell c = linked(h);
        return in(i, 0, c.links.length - 1) ? c.links[i] : fail(2);
    }

    private int weaken(int h, int t) {
        Cell c = cell(h, 3);
        thereOrNone(t);
        c.weak = t;
        return 1;
    }

    private int look(int h) {
        Cell c = cell(h, 3);
        mark(c.weak, 4, h, 0);
        return c.weak;
    }

    private int number(int h, int v) {
        Cell c = cell(h, 4);
        int was = c.number;
        c.number = v;
        return was;
    }

    private Cell bytes(int h, int i) {
        Cell c = cell(h, 2);
        if (!in(i, 0, c.bytes.length - 1)) {
            fail(2);
        }
        return c;
    }

    private int put(int h, int i, int v) {
        Cell c = bytes(h, i);
        int was = c.bytes[i];
        c.bytes[i] = Math.floorMod(v, 256);
        return was;
    }

    private int key(int h, int i, int v) {
        Cell c = cell(h, 5);
        if (!in(i, 0, c.keys.length - 1)) {
            fail(2);
        }
        c.keys[i] = v;
        return 1;
    }

    private int find(int h, int v) {
        Cell c = cell(h, 5);
        for (int i = 0; i < c.keys.length; i++) {
            if (c.keys[i] == v) {
                return i;
            }
        }
        return NONE;
    }

    private int root(int r, int t) {
        thereOrNone(t);
        int had = s.roots[r];
        s.roots[r] = t;
        mark(t, 3, NONE, r);
        return had;
    }

    private int copy(int h, int i, int g, int j, int n) {
        copied = 0;
        cell(h);
        cell(g);
        Cell from = cell(h, 1);
        Cell to = cell(g, 1);
        if (n < 0) {
            fail(4);
        }
        for (long k = 0; k < n; k++) {
            if (i < 0 || i + k >= from.links.length || j < 0 || j + k >= to.links.length) {
                fail(2);
            }
            link(g, (int) (j + k), get(h, (int) (i + k)));
            copied++;
        }
        return n;
    }

    private int shelve(int shelf, int i, int t) {
        thereOrNone(t);
        if (!in(i, 0, 7)) {
            fail(2);
        }
        if (t != NONE && !cell(t).is(shelf)) {
            fail(5);
        }
        s.shelves[shelf][i] = t;
        return 1;
    }

    private int markedOnes() {
        int most = 0;
        for (Cell c : s.cells.values()) {
            most = Math.max(most, c.rank);
        }
        return most;
    }

    private void mark(int h, int reason, int first, int second) {
        if (s.marking && h != NONE && s.cells.get(h).rank == 0) {
            s.cells.get(h).rank = markedOnes() + 1;
            s.cells.get(h).why = new int[] {reason, first, second};
        }
    }

    private void beginIfNone() {
        if (!s.marking) {
            s.marking = true;
            for (int r = 0; r < 24; r++) {
                mark(s.roots[r], 0, r, NONE);
            }
        }
    }

    private Cell firstOpen() {
        Cell best = null;
        for (Cell c : s.cells.values()) {
            if (c.rank > 0 && c.looked < c.links.length && (best == null || c.rank < best.rank)) {
                best = c;
            }
        }
        return best;
    }

    private int lookThrough(int most) {
        int looked = 0;
        for (Cell c = firstOpen(); c != null && looked < most; c = firstOpen()) {
            mark(c.links[c.looked], 1, c.handle, c.looked);
            c.looked++;
            looked++;
        }
        return looked;
    }

    private int step(int n) {
        undo = new State(s);
        beginIfNone();
        int looked = lookThrough(n);
        if (firstOpen() == null) {
            end();
        }
        return looked;
    }

    private int finish() {
        beginIfNone();
        lookThrough(Integer.MAX_VALUE);
        end();
        return s.back;
    }

    private void end() {
        s.cycles++;
        Map<Integer, Integer> places = new TreeMap<>();
        TreeSet<Integer> gone = new TreeSet<>();
        for (Cell c : s.cells.values()) {
            places.put(c.handle, placeOf(c));
            if (c.rank == 0) {
                gone.add(c.handle);
                trace[11]++;
                trace[12] += c.kind == 4 ? 1 : 0;
            }
        }
        s.cells.keySet().removeAll(gone);
        s.back = gone.size();
        s.backInAll += s.back;
        s.kept = s.cells.size();
        for (int[] shelf : s.shelves) {
            for (int k = 0; k < 8; k++) {
                shelf[k] = gone.contains(shelf[k]) ? NONE : shelf[k];
            }
        }
        fade(gone);
        s.slid = 0;
        for (Cell c : s.cells.values()) {
            c.moved = places.get(c.handle) - placeOf(c);
            s.slid += c.moved > 0 ? 1 : 0;
        }
        trace[13] += s.slid;
        writePaper(gone);
        s.marking = false;
        for (Cell c : s.cells.values()) {
            c.rank = 0;
            c.looked = 0;
        }
    }

    private void fade(Set<Integer> gone) {
        for (Cell c : s.cells.values()) {
            if (gone.contains(c.weak)) {
                c.weak = NONE;
                trace[9]++;
                if (c.kind == 4) {
                    trace[10]++;
                    s.told.add(new int[] {c.handle, c.number, s.cycles});
                }
            }
        }
    }

    private static int sum(List<Integer> numbers) {
        int sum = 1;
        for (int v : numbers) {
            sum = 31 * sum + v;
        }
        return sum;
    }

    private void writePaper(Set<Integer> gone) {
        List<Integer> p = new ArrayList<>();
        for (int r : s.roots) {
            p.add(r);
        }
        p.add(s.cells.size());
        for (Cell c : s.cells.values()) {
            p.add(c.handle);
            for (int w : c.why) {
                p.add(w);
            }
            p.add(c.rank);
            p.add(c.links.length);
            for (int l : c.links) {
                p.add(l);
            }
        }
        p.add(gone.size());
        p.addAll(gone);
        p.add(sum(p));
        s.paper = p;
        s.plain = new ArrayList<>(p);
    }

    private int about(int what) {
        int open = 0;
        for (Cell c : s.cells.values()) {
            open += c.rank > 0 && c.looked < c.links.length ? 1 : 0;
        }
        int[] all = {s.n, s.n - heap().size(), s.made, s.cells.size(), s.cycles, s.kept, s.back, s.slid, s.backInAll,
            s.told.size(), markedOnes(), open, s.acts.size(), s.next, s.done, s.findings};
        return all[what];
    }

    private int digest() {
        int d = 7;
        for (int w : heap()) {
            d = 31 * d + w;
        }
        for (int r : s.roots) {
            d = 31 * d + r;
        }
        return 31 * d + (s.marking ? 1 : 0);
    }

    private int plain() {
        int others = 0;
        for (int k = 0; k < s.paper.size(); k++) {
            others += s.paper.get(k).equals(s.plain.get(k)) ? 0 : 1;
        }
        s.paper = new ArrayList<>(s.plain);
        return others;
    }

    /** One that was kept, as the paper tells it; at: where it begins. */
    private static final class Told {
        int at, handle, reason, first, second, number;
        List<Integer> links = new ArrayList<>();
    }

    private int check() {
        List<Integer> p = s.paper;
        int size = p.size();
        List<Told> kept = new ArrayList<>();
        int at = 25;
        if (!in(p.get(24), 0, 500)) {
            return 24;
        }
        while (kept.size() < p.get(24)) {
            if (at + 5 > size - 1) {
                return size;
            }
            int links = p.get(at + 5);
            if (!in(links, 0, 300)) {
                return at + 5;
            }
            if (at + 5 + links > size - 1) {
                return size;
            }
            Told t = new Told();
            t.at = at;
            t.handle = p.get(at);
            t.reason = p.get(at + 1);
            t.first = p.get(at + 2);
            t.second = p.get(at + 3);
            t.number = p.get(at + 4);
            t.links = p.subList(at + 6, at + 6 + links);
            kept.add(t);
            at += 6 + links;
        }
        if (at > size - 1) {
            return size;
        }
        if (!in(p.get(at), 0, 500) || size - 1 - at != p.get(at) + 1) {
            return at;
        }
        return checkMeaning(kept, at);
    }

    /** All that is wrong in meaning, and then the first of it; THE SUM only if there is nothing. */
    private int checkMeaning(List<Told> kept, int atBack) {
        List<Integer> p = s.paper;
        TreeSet<Integer> wrong = new TreeSet<>();
        Map<Integer, Told> byHandle = new TreeMap<>();
        for (Told t : kept) {
            if (in(t.handle, 0, 499)) {
                byHandle.putIfAbsent(t.handle, t);
            }
        }
        Set<Integer> noneOrKept = new HashSet<>(byHandle.keySet());
        noneOrKept.add(NONE);
        for (int r = 0; r < 24; r++) {
            if (!noneOrKept.contains(p.get(r))) {
                wrong.add(r);
            }
        }
        Set<Integer> numbers = new HashSet<>();
        for (Told t : kept) {
            if (byHandle.get(t.handle) != t) {
                wrong.add(t.at);
            }
            checkReason(t, byHandle, wrong);
            if (!in(t.number, 1, kept.size()) || !numbers.add(t.number)
                || t.reason == 1 && byHandle.containsKey(t.first) && t.number <= byHandle.get(t.first).number) {
                wrong.add(t.at + 4);
            }
            for (int i = 0; i < t.links.size(); i++) {
                if (!noneOrKept.contains(t.links.get(i))) {
                    wrong.add(t.at + 6 + i);
                }
            }
        }
        for (int k = atBack + 1; k < p.size() - 1; k++) {
            int least = k == atBack + 1 ? 0 : p.get(k - 1) + 1;
            if (p.get(k) < least || p.get(k) > 499 || byHandle.containsKey(p.get(k))) {
                wrong.add(k);
            }
        }
        if (wrong.isEmpty() && sum(p.subList(0, p.size() - 1)) != p.get(p.size() - 1)) {
            wrong.add(p.size() - 1);
        }
        return wrong.isEmpty() ? NONE : wrong.first();
    }

    private static void checkReason(Told t, Map<Integer, Told> byHandle, Set<Integer> wrong) {
        boolean ofRoot = t.reason == 3 && t.first == NONE;
        int[][] first = {{0, 23}, {0, 499}, {0, 499}, {0, 499}, {0, 499}, {NONE, NONE}};
        int[][] second = {{NONE, NONE}, {0, 299}, {0, 299}, {0, 299}, {0, 0}, {NONE, NONE}};
        if (!in(t.reason, 0, 5)) {
            wrong.add(t.at + 1);
        } else if (ofRoot) {
            if (!in(t.second, 0, 23)) {
                wrong.add(t.at + 3);
            }
        } else {
            if (!in(t.first, first[t.reason][0], first[t.reason][1])
                || t.reason == 1 && !byHandle.containsKey(t.first)) {
                wrong.add(t.at + 2);
            }
            if (!in(t.second, second[t.reason][0], second[t.reason][1])) {
                wrong.add(t.at + 3);
            }
        }
    }

    private int clear() {
        int had = s.acts.size();
        s.acts.clear();
        s.next = 0;
        return had;
    }

    private int run(int n) {
        int begun = 0;
        for (boolean ends = false; begun < n && !ends; begun++) {
            int[] v = s.acts.get(s.next);
            found = 0;
            try {
                perform(v[0], v[1], v[2], v[3], v[4]);
            } catch (Found f) {
                found = f.finding;
                s.findings++;
                ends = true;
            }
            s.done++;
            s.next = (s.next + 1) % s.acts.size();
        }
        return begun;
    }

    private void perform(int what, int a, int b, int c, int d) {
        int[] r = s.registers;
        switch (what) {
            case 0: r[a] = make(b, c); break;
            case 1: link(r[a], b, r[c]); break;
            case 2: r[c] = get(r[a], b); break;
            case 3: root(a, r[b]); break;
            case 4: r[b] = s.roots[a]; break;
            case 5: r[b] = look(r[a]); break;
            case 6: weaken(r[a], r[b]); break;
            case 7: copy(r[a], b, r[c], 0, d); break;
            case 8: r[a] = NONE; break;
            case 9: step(a); break;
            case 10: fail(a == 0 ? 8 : 7); break;
            case 11: put(r[a], b, c); break;
            default: shelve(a, b, r[c]); break;
        }
    }
}
