import java.util.ArrayDeque;
import java.util.ArrayList;
import java.util.Arrays;
import java.util.HashSet;
import java.util.List;
import java.util.Set;

/**
 * The document told a second time, by trying everything: slow, with the whole Java library, and written
 * apart from ChalkRoom, so that a slip in one of them shows as a difference.
 */
final class Model {
    static final int NONE = -1;
    private static final Set<String> KEYWORDS = new HashSet<>(Arrays.asList(
        ("room by line bends thing at worth leg big yield night sweep move to any when boards value holds loop end stop")
            .split(" ")));

    static final class Thing {
        String name;
        int c;
        int r;
        int[] worth = new int[2];
        int leg = NONE;
        boolean big;

        Thing twin() {
            Thing t = new Thing();
            t.name = name;
            t.c = c;
            t.r = r;
            t.worth = worth.clone();
            t.leg = leg;
            t.big = big;
            return t;
        }
    }

    static final class State {
        int wide;
        int deep;
        int bends = 9;
        int[] line = {};
        List<Thing> things = new ArrayList<>();
        int[] yielded = new int[2];
        int nights;
        List<Step> talks = null;

        State twin() {
            State s = new State();
            s.wide = wide;
            s.deep = deep;
            s.bends = bends;
            s.line = line.clone();
            for (Thing t : things) {
                s.things.add(t.twin());
            }
            s.yielded = yielded.clone();
            s.nights = nights;
            s.talks = talks;
            return s;
        }
    }

    static final class Step {
        String word;
        String test;
        char compare;
        int[] n = new int[3];
        String name;
        List<Step> body = new ArrayList<>();
    }

    static final class Fault extends Exception {
        private static final long serialVersionUID = 1L;
        final int kind;
        final int place;

        Fault(int kind, int place) {
            this.kind = kind;
            this.place = place;
        }
    }

    static final class Halt extends Exception {
        private static final long serialVersionUID = 1L;
        final boolean left;

        Halt(boolean left) {
            this.left = left;
        }
    }

    int status = 0;
    long top = 0;
    long bottom = 1;
    State now = new State();
    private final List<State> marks = new ArrayList<>();
    private final long[][] trays = new long[4][];
    private final int[] sorts = new int[4];
    private final List<Integer> tape = new ArrayList<>();
    private int faultKind = NONE;
    private int faultPlace = NONE;
    private int[] lived = null;

    private int no(int why) {
        status = why;
        return NONE;
    }

    private boolean deny(int why) {
        status = why;
        return false;
    }

    private int yes(int answer) {
        status = 0;
        return answer;
    }

    private boolean grant() {
        status = 0;
        return true;
    }

    // ---- trays

    boolean tray(int t, int sort, int many) {
        if (t < 0 || t > 3 || sort < 0 || sort > 3 || many < 0 || many > 60) {
            return deny(1);
        }
        trays[t] = new long[many];
        sorts[t] = sort;
        return grant();
    }

    boolean write(int t, int place, long v) {
        if (t < 0 || t > 3) {
            return deny(1);
        }
        if (trays[t] == null) {
            return deny(2);
        }
        if (place < 0 || place >= trays[t].length) {
            return deny(3);
        }
        int unused = 64 - (8 << sorts[t]);
        trays[t][place] = v << unused >> unused;
        return grant();
    }

    long read(int t, int place) {
        if (t < 0 || t > 3) {
            return no(1);
        }
        if (trays[t] == null) {
            return no(2);
        }
        if (place < 0 || place >= trays[t].length) {
            return no(3);
        }
        status = 0;
        return trays[t][place];
    }

    boolean pour(int from, int place, int to, int at, int many) {
        if (from < 0 || from > 3 || to < 0 || to > 3 || place < 0 || at < 0 || many < 0) {
            return deny(1);
        }
        if (trays[from] == null || trays[to] == null) {
            return deny(2);
        }
        if (sorts[from] != sorts[to]) {
            return deny(8);
        }
        if ((long) place + many > trays[from].length || (long) at + many > trays[to].length) {
            return deny(3);
        }
        long[] before = trays[from].clone();
        for (int i = 0; i < many; i++) {
            trays[to][at + i] = before[place + i];
        }
        return grant();
    }

    // ---- texts

    int feed(int a, int b, int c, int d, int e) {
        if (tape.size() + 20 > 900) {
            return NONE;
        }
        for (int v : new int[] {a, b, c, d, e}) {
            tape.add(v >>> 24);
            tape.add(v >>> 16 & 255);
            tape.add(v >>> 8 & 255);
            tape.add(v & 255);
        }
        return tape.size();
    }

    private String takeTape(int n) {
        StringBuilder sb = new StringBuilder();
        for (int i = 0; i < n; i++) {
            sb.append((char) tape.get(i).intValue());
        }
        tape.clear();
        faultKind = 0;
        faultPlace = NONE;
        return sb.toString();
    }

    private int faulty(Fault f) {
        faultKind = f.kind;
        faultPlace = f.place;
        return no(9);
    }

    int room(int n) {
        if (n < 0 || n > tape.size()) {
            return no(1);
        }
        try {
            now = new Parse(takeTape(n), null).room();
            return yes(now.things.size());
        } catch (Fault f) {
            return faulty(f);
        }
    }

    int talks(int n) {
        if (n < 0 || n > tape.size() || n > 300) {
            return no(1);
        }
        try {
            Parse p = new Parse(takeTape(n), now);
            List<Step> steps = p.talks();
            now.talks = steps;
            return yes(p.steps);
        } catch (Fault f) {
            return faulty(f);
        }
    }

    int fault(int what) {
        return what == 0 ? faultKind : what == 1 ? faultPlace : NONE;
    }

    static final class Parse {
        final String text;
        final State room;
        final List<String> words = new ArrayList<>();
        final List<Integer> places = new ArrayList<>();
        int at = 0;
        int steps = 0;

        Parse(String text, State room) {
            this.text = text;
            this.room = room;
            int i = 0;
            while (i < text.length()) {
                char ch = text.charAt(i);
                int j = i + 1;
                if (ch == ' ' || ch == '\n') {
                    i++;
                    continue;
                }
                String rest = text.substring(i);
                if (ch >= 'a' && ch <= 'z') {
                    j = i + rest.length() - rest.replaceFirst("^[a-z]+", "").length();
                } else if (ch >= '0' && ch <= '9') {
                    j = i + rest.length() - rest.replaceFirst("^[0-9]+", "").length();
                }
                words.add(text.substring(i, j));
                places.add(i);
                i = j;
            }
            words.add("");
            places.add(text.length());
        }

        String peek() {
            return words.get(at);
        }

        Fault bad(int kind) {
            String w = peek();
            boolean token = w.isEmpty() || w.matches("[a-z]+|[0-9]{1,4}|[;<>=]");
            return new Fault(token ? kind : 1, places.get(at));
        }

        void want(String w) throws Fault {
            if (!peek().equals(w)) {
                throw bad(2);
            }
            at++;
        }

        int number(int low, int high) throws Fault {
            if (!peek().matches("[0-9]{1,4}")) {
                throw bad(2);
            }
            int v = Integer.parseInt(peek());
            if (v < low || v > high) {
                throw bad(4);
            }
            at++;
            return v;
        }

        String name() throws Fault {
            if (!peek().matches("[a-z]{1,8}") || KEYWORDS.contains(peek())) {
                throw bad(2);
            }
            return peek();
        }

        State room() throws Fault {
            State s = new State();
            Set<String> seen = new HashSet<>();
            while (!peek().isEmpty()) {
                String w = peek();
                if (!Arrays.asList("room", "line", "bends", "thing").contains(w)) {
                    throw bad(2);
                }
                if (!w.equals("room") && !seen.contains("room")) {
                    throw bad(2);
                }
                if (!w.equals("thing") && !seen.add(w)) {
                    throw bad(5);
                }
                if (w.equals("thing") && s.things.size() == 10) {
                    throw bad(6);
                }
                at++;
                part(w, s);
                want(";");
            }
            return s;
        }

        void part(String w, State s) throws Fault {
            if (w.equals("room")) {
                s.wide = number(1, 9);
                want("by");
                s.deep = number(1, 7);
                s.line = new int[s.deep];
                Arrays.fill(s.line, s.wide / 2);
            } else if (w.equals("line")) {
                for (int i = 0; i < s.deep; i++) {
                    s.line[i] = number(0, s.wide);
                }
            } else if (w.equals("bends")) {
                s.bends = number(0, 9);
            } else {
                s.things.add(thing(s));
            }
        }

        Thing thing(State s) throws Fault {
            Thing t = new Thing();
            t.name = name();
            for (Thing u : s.things) {
                if (u.name.equals(t.name)) {
                    throw bad(3);
                }
            }
            at++;
            want("at");
            t.c = number(0, s.wide - 1);
            t.r = number(0, s.deep - 1);
            for (Thing u : s.things) {
                if (u.c == t.c && u.r == t.r) {
                    at--;
                    throw bad(5);
                }
            }
            want("worth");
            t.worth[0] = number(0, 99);
            t.worth[1] = number(0, 99);
            if (peek().equals("leg")) {
                at++;
                t.leg = number(0, 1);
            }
            if (peek().equals("big")) {
                at++;
                t.big = true;
            }
            return t;
        }

        List<Step> talks() throws Fault {
            List<Step> all = steps(0);
            if (!peek().isEmpty()) {
                throw bad(2);
            }
            return all;
        }

        List<Step> steps(int depth) throws Fault {
            List<Step> all = new ArrayList<>();
            while (Arrays.asList("yield", "night", "sweep", "move", "any", "when", "loop", "stop").contains(peek())) {
                all.add(step(depth));
            }
            return all;
        }

        Step step(int depth) throws Fault {
            Step s = new Step();
            s.word = peek();
            if (steps == 30) {
                throw bad(6);
            }
            boolean holder = s.word.equals("when") || s.word.equals("loop");
            if (holder && depth == 3) {
                throw bad(7);
            }
            steps++;
            at++;
            switch (s.word) {
                case "yield":
                    s.n[0] = number(0, 1);
                    s.n[1] = number(0, room.deep - 1);
                    s.n[2] = number(1, 9);
                    break;
                case "sweep":
                    s.n[0] = number(0, room.deep - 1);
                    break;
                case "move":
                    s.name = known();
                    want("to");
                    s.n[0] = number(0, room.wide - 1);
                    s.n[1] = number(0, room.deep - 1);
                    break;
                case "any":
                    s.n[0] = number(0, 1);
                    break;
                case "when":
                    test(s);
                    break;
                case "loop":
                    s.n[0] = number(1, 99);
                    break;
                default:
                    break;
            }
            want(";");
            if (holder) {
                s.body = steps(depth + 1);
                want("end");
                want(";");
            }
            return s;
        }

        void test(Step s) throws Fault {
            s.test = peek();
            if (!s.test.matches("boards|value|holds")) {
                throw bad(2);
            }
            at++;
            s.n[0] = number(0, 1);
            if (s.test.equals("holds")) {
                s.name = known();
                return;
            }
            if (!peek().matches("[<>=]")) {
                throw bad(2);
            }
            s.compare = peek().charAt(0);
            at++;
            s.n[1] = number(0, s.test.equals("boards") ? 99 : 999);
        }

        String known() throws Fault {
            String w = name();
            for (Thing t : room.things) {
                if (t.name.equals(w)) {
                    at++;
                    return w;
                }
            }
            throw bad(3);
        }
    }

    int told(int what) {
        if (what < 0 || what > 6) {
            return no(1);
        }
        return yes(new int[] {now.wide, now.deep, now.things.size(), now.bends, now.yielded[0], now.yielded[1],
            now.nights}[what]);
    }

    private boolean row(int r) {
        return r >= 0 && r < now.deep;
    }

    private boolean board(int c, int r) {
        return row(r) && c >= 0 && c < now.wide;
    }

    private boolean isThing(int t) {
        return t >= 0 && t < now.things.size();
    }

    private static boolean isLand(int l) {
        return l == 0 || l == 1;
    }

    int line(int r) {
        return row(r) ? yes(now.line[r]) : no(1);
    }

    int thing(int t, int what) {
        if (!isThing(t) || what < 0 || what > 5) {
            return no(1);
        }
        Thing u = now.things.get(t);
        if (what == 4 && u.leg == NONE) {
            return no(6);
        }
        return yes(new int[] {u.c, u.r, u.worth[0], u.worth[1], u.leg, u.big ? 1 : 0}[what]);
    }

    private Thing thingAt(int c, int r) {
        for (Thing t : now.things) {
            if (t.c == c && t.r == r) {
                return t;
            }
        }
        return null;
    }

    int on(int c, int r) {
        if (!board(c, r)) {
            return no(1);
        }
        Thing t = thingAt(c, r);
        return t == null ? no(6) : yes(now.things.indexOf(t));
    }

    private int held(int c, int r) {
        Thing t = thingAt(c, r);
        if (t != null && t.leg != NONE) {
            return t.leg;
        }
        return c < now.line[r] ? 0 : 1;
    }

    int land(int c, int r) {
        return board(c, r) ? yes(held(c, r)) : no(1);
    }

    /** All boards, row by row, as {column, row}. */
    private List<int[]> allBoards() {
        List<int[]> all = new ArrayList<>();
        for (int r = 0; r < now.deep; r++) {
            for (int c = 0; c < now.wide; c++) {
                all.add(new int[] {c, r});
            }
        }
        return all;
    }

    private int countBoards(int land) {
        int sum = 0;
        for (int[] b : allBoards()) {
            sum += held(b[0], b[1]) == land ? 1 : 0;
        }
        return sum;
    }

    int boards(int land) {
        return isLand(land) ? yes(countBoards(land)) : no(1);
    }

    private int worthAt(int holder, int to) {
        int sum = 0;
        for (Thing t : now.things) {
            sum += held(t.c, t.r) == holder ? t.worth[to] : 0;
        }
        return sum;
    }

    int value(int land) {
        return isLand(land) ? yes(worthAt(land, land)) : no(1);
    }

    int things(int land) {
        if (!isLand(land)) {
            return no(1);
        }
        int set = 0;
        for (int i = 0; i < now.things.size(); i++) {
            set += held(now.things.get(i).c, now.things.get(i).r) == land ? 1 << i : 0;
        }
        return yes(set);
    }

    private void fraction(long over, long under) {
        for (long d = under; d >= 1; d--) {
            if (over % d == 0 && under % d == 0) {
                top = over / d;
                bottom = under / d;
                return;
            }
        }
    }

    boolean share(int land) {
        if (!isLand(land)) {
            return deny(1);
        }
        int all = worthAt(0, land) + worthAt(1, land);
        if (all == 0) {
            return deny(6);
        }
        fraction(worthAt(land, land), all);
        return grant();
    }

    int envy(int land) {
        return isLand(land) ? yes(worthAt(1 - land, land) - worthAt(land, land)) : no(1);
    }

    int fair() {
        return yes(worthAt(1, 0) <= worthAt(0, 0) && worthAt(0, 1) <= worthAt(1, 1) ? 1 : 0);
    }

    private static int chalkOf(int[] line) {
        int sum = line.length;
        for (int i = 1; i < line.length; i++) {
            sum += Math.abs(line[i] - line[i - 1]);
        }
        return sum;
    }

    int chalk() {
        return yes(chalkOf(now.line));
    }

    int bulges() {
        int sum = 0;
        for (int i = 1; i < now.deep; i++) {
            sum += Math.abs(now.line[i] - now.line[i - 1]) > now.bends ? 1 : 0;
        }
        return yes(sum);
    }

    private List<int[]> around(int[] b) {
        List<int[]> all = new ArrayList<>();
        for (int[] o : allBoards()) {
            if (Math.abs(o[0] - b[0]) + Math.abs(o[1] - b[1]) == 1) {
                all.add(o);
            }
        }
        return all;
    }

    int border(int land) {
        if (!isLand(land)) {
            return no(1);
        }
        int sum = 0;
        for (int[] b : allBoards()) {
            boolean touches = false;
            for (int[] o : around(b)) {
                touches |= held(o[0], o[1]) != land;
            }
            sum += touches && held(b[0], b[1]) == land ? 1 : 0;
        }
        return yes(sum);
    }

    private int has(int land, int r) {
        return land == 0 ? now.line[r] : now.wide - now.line[r];
    }

    int strongest(int land) {
        if (!isLand(land)) {
            return no(1);
        }
        for (int many = 9; many >= 0; many--) {
            for (int r = 0; r < now.deep; r++) {
                if (has(land, r) == many) {
                    return yes(r);
                }
            }
        }
        return no(6);
    }

    int least(int land) {
        if (!isLand(land)) {
            return no(1);
        }
        for (int w = 0; w <= 99; w++) {
            for (int i = 0; i < now.things.size(); i++) {
                Thing t = now.things.get(i);
                if (held(t.c, t.r) == land && t.worth[land] == w) {
                    return yes(i);
                }
            }
        }
        return no(6);
    }

    int wanted(int land) {
        if (!isLand(land)) {
            return no(1);
        }
        for (int w = 99; w >= 0; w--) {
            for (int i = 0; i < now.things.size(); i++) {
                Thing t = now.things.get(i);
                if (held(t.c, t.r) != land && t.worth[land] == w) {
                    return yes(i);
                }
            }
        }
        return no(6);
    }

    // ---- what is done

    private int doYield(int land, int r, int n) {
        int moved = 0;
        while (moved < n && has(land, r) > 0) {
            now.line[r] += land == 0 ? -1 : 1;
            moved++;
        }
        now.yielded[land] += moved;
        return moved;
    }

    int cede(int land, int r, int n) {
        if (!isLand(land) || !row(r) || n < 1 || n > 9) {
            return no(1);
        }
        int moved = doYield(land, r, n);
        return moved == 0 ? no(7) : yes(moved);
    }

    private int doNight() {
        int moved = 0;
        for (int r = 1; r < now.deep; r++) {
            int before = now.line[r];
            while (now.line[r] - now.line[r - 1] > now.bends) {
                now.line[r]--;
            }
            while (now.line[r - 1] - now.line[r] > now.bends) {
                now.line[r]++;
            }
            moved += before != now.line[r] ? 1 : 0;
        }
        now.nights++;
        return moved;
    }

    int night() {
        return yes(doNight());
    }

    private boolean doSweep(int r) {
        int before = now.line[r];
        List<Integer> beside = new ArrayList<>();
        if (row(r - 1)) {
            beside.add(now.line[r - 1]);
        }
        if (row(r + 1)) {
            beside.add(now.line[r + 1]);
        }
        int sum = 0;
        for (int v : beside) {
            sum += v;
        }
        if (!beside.isEmpty()) {
            now.line[r] = sum / beside.size();
        }
        return before != now.line[r];
    }

    int sweep(int r) {
        if (!row(r)) {
            return no(1);
        }
        doSweep(r);
        return yes(now.line[r]);
    }

    private boolean doMove(Thing t, int c, int r) {
        if (thingAt(c, r) != null) {
            return false;
        }
        t.c = c;
        t.r = r;
        return true;
    }

    boolean move(int t, int c, int r) {
        if (!isThing(t) || !board(c, r)) {
            return deny(1);
        }
        return doMove(now.things.get(t), c, r) ? grant() : deny(7);
    }

    boolean leg(int t, int land) {
        if (!isThing(t) || !isLand(land) && land != NONE) {
            return deny(1);
        }
        now.things.get(t).leg = land;
        return grant();
    }

    boolean bends(int n) {
        if (n < 0 || n > 9) {
            return deny(1);
        }
        now.bends = n;
        return grant();
    }

    boolean draw(int t) {
        if (t < 0 || t > 3) {
            return deny(1);
        }
        if (trays[t] == null) {
            return deny(2);
        }
        if (trays[t].length < now.deep) {
            return deny(3);
        }
        int[] line = new int[now.deep];
        for (int r = 0; r < now.deep; r++) {
            if (trays[t][r] < 0 || trays[t][r] > now.wide) {
                return deny(5);
            }
            line[r] = (int) trays[t][r];
        }
        now.line = line;
        return grant();
    }

    int copy(int t) {
        if (t < 0 || t > 3) {
            return no(1);
        }
        if (trays[t] == null) {
            return no(2);
        }
        if (trays[t].length < now.deep) {
            return no(3);
        }
        for (int r = 0; r < now.deep; r++) {
            trays[t][r] = now.line[r];
        }
        return yes(now.deep);
    }

    // ---- islands and ways

    private int[][] keepers() {
        int[][] k = new int[now.deep][now.wide];
        for (int[] b : allBoards()) {
            k[b[1]][b[0]] = held(b[0], b[1]);
        }
        return k;
    }

    /** The ISLANDS of a LAND, each as its boards (row times 10 and column). */
    private List<Set<Integer>> isles(int[][] k, int land) {
        List<Set<Integer>> all = new ArrayList<>();
        Set<Integer> seen = new HashSet<>();
        for (int[] b : allBoards()) {
            if (k[b[1]][b[0]] != land || seen.contains(b[1] * 10 + b[0])) {
                continue;
            }
            Set<Integer> isle = new HashSet<>();
            ArrayDeque<int[]> open = new ArrayDeque<>();
            open.add(b);
            while (!open.isEmpty()) {
                int[] x = open.poll();
                if (!board(x[0], x[1]) || k[x[1]][x[0]] != land || !isle.add(x[1] * 10 + x[0])) {
                    continue;
                }
                open.add(new int[] {x[0] + 1, x[1]});
                open.add(new int[] {x[0] - 1, x[1]});
                open.add(new int[] {x[0], x[1] + 1});
                open.add(new int[] {x[0], x[1] - 1});
            }
            seen.addAll(isle);
            all.add(isle);
        }
        return all;
    }

    private Set<Integer> isleOf(int c, int r) {
        for (Set<Integer> isle : isles(keepers(), held(c, r))) {
            if (isle.contains(r * 10 + c)) {
                return isle;
            }
        }
        throw new IllegalStateException();
    }

    int islands(int land) {
        return isLand(land) ? yes(isles(keepers(), land).size()) : no(1);
    }

    int island(int c, int r) {
        return board(c, r) ? yes(isleOf(c, r).size()) : no(1);
    }

    int mainland(int land) {
        if (!isLand(land)) {
            return no(1);
        }
        int most = 0;
        for (Set<Integer> isle : isles(keepers(), land)) {
            most = Math.max(most, isle.size());
        }
        return yes(most);
    }

    int joined(int c, int r, int c2, int r2) {
        if (!board(c, r) || !board(c2, r2)) {
            return no(1);
        }
        return yes(isleOf(c, r).contains(r2 * 10 + c2) ? 1 : 0);
    }

    /** By relaxing all boards as often as there are boards: {passes, steps}, or null. */
    private int[] way(int land, Thing from, Thing to) {
        int[][][] far = new int[now.deep][now.wide][];
        far[from.r][from.c] = new int[] {held(from.c, from.r) == land ? 0 : 1, 0};
        for (int turn = 0; turn < now.wide * now.deep; turn++) {
            for (int[] b : allBoards()) {
                Thing t = thingAt(b[0], b[1]);
                if (t != null && t.big && t != from && t != to) {
                    continue;
                }
                for (int[] o : around(b)) {
                    int[] f = far[o[1]][o[0]];
                    if (f == null) {
                        continue;
                    }
                    int[] g = {f[0] + (held(b[0], b[1]) == land ? 0 : 1), f[1] + 1};
                    int[] h = far[b[1]][b[0]];
                    if (h == null || g[0] < h[0] || g[0] == h[0] && g[1] < h[1]) {
                        far[b[1]][b[0]] = g;
                    }
                }
            }
        }
        return far[to.r][to.c];
    }

    private int wayPart(int land, int from, int to, int which) {
        if (!isLand(land) || !isThing(from) || !isThing(to) || from == to) {
            return no(1);
        }
        int[] w = way(land, now.things.get(from), now.things.get(to));
        return w == null ? no(6) : yes(w[which]);
    }

    int passes(int land, int from, int to) {
        return wayPart(land, from, to, 0);
    }

    int steps(int land, int from, int to) {
        return wayPart(land, from, to, 1);
    }

    int reach(int t) {
        if (!isThing(t)) {
            return no(1);
        }
        Set<Integer> isle = isleOf(now.things.get(t).c, now.things.get(t).r);
        int set = 0;
        for (int i = 0; i < now.things.size(); i++) {
            set |= isle.contains(now.things.get(i).r * 10 + now.things.get(i).c) ? 1 << i : 0;
        }
        return yes(set);
    }

    /** For each couple of ISLANDS the fewest boards of the other LAND on any path, by levels. */
    int strait(int land) {
        if (!isLand(land)) {
            return no(1);
        }
        int[][] k = keepers();
        List<Set<Integer>> all = isles(k, land);
        int best = Integer.MAX_VALUE;
        for (Set<Integer> a : all) {
            for (Set<Integer> b : all) {
                if (a != b) {
                    best = Math.min(best, between(k, land, a, b));
                }
            }
        }
        return all.size() < 2 ? no(6) : yes(best);
    }

    private int between(int[][] k, int land, Set<Integer> a, Set<Integer> b) {
        int[][] far = new int[now.deep][now.wide];
        for (int[] x : allBoards()) {
            far[x[1]][x[0]] = a.contains(x[1] * 10 + x[0]) ? 0 : 1000;
        }
        boolean changed = true;
        while (changed) {
            changed = false;
            for (int[] x : allBoards()) {
                for (int[] o : around(x)) {
                    int via = far[o[1]][o[0]] + (k[x[1]][x[0]] == land ? 0 : 1);
                    if (via < far[x[1]][x[0]]) {
                        far[x[1]][x[0]] = via;
                        changed = true;
                    }
                }
            }
        }
        int any = b.iterator().next();
        return far[any / 10][any % 10];
    }

    private int[] bestBridge(int land) {
        int[][] k = keepers();
        int[] best = null;
        for (int[] b : allBoards()) {
            if (k[b[1]][b[0]] != land) {
                k[b[1]][b[0]] = land;
                int many = isles(k, land).size();
                k[b[1]][b[0]] = 1 - land;
                if (best == null || many < best[1]) {
                    best = new int[] {b[1] * 10 + b[0], many};
                }
            }
        }
        return best;
    }

    int bridge(int land) {
        if (!isLand(land)) {
            return no(1);
        }
        int[] b = bestBridge(land);
        return b == null ? no(6) : yes(b[0]);
    }

    int bridged(int land) {
        if (!isLand(land)) {
            return no(1);
        }
        int[] b = bestBridge(land);
        return b == null ? no(6) : yes(b[1]);
    }

    // ---- plans

    /** Whether trying all LINES is little enough. */
    boolean small() {
        long many = 1;
        for (int r = 0; r < now.deep; r++) {
            many *= now.wide + 1;
        }
        return many <= 20000;
    }

    /** The first best of all ways to give n boards, with the VALUE behind it as its last number; null without one. */
    private int[] deal(int land, int giver, int n) {
        List<int[]> ways = new ArrayList<>();
        give(giver, n, new int[now.deep], 0, ways);
        int[] best = null;
        int[] before = now.line.clone();
        for (int[] w : ways) {
            for (int r = 0; r < now.deep; r++) {
                now.line[r] += giver == 0 ? -w[r] : w[r];
            }
            int v = worthAt(land, land);
            now.line = before.clone();
            if (best == null || v > best[now.deep]) {
                best = Arrays.copyOf(w, now.deep + 1);
                best[now.deep] = v;
            }
        }
        return best;
    }

    private void give(int giver, int left, int[] given, int r, List<int[]> ways) {
        if (r == now.deep) {
            if (left == 0) {
                ways.add(given.clone());
            }
            return;
        }
        for (int g = 0; g <= left && g <= has(giver, r); g++) {
            given[r] = g;
            give(giver, left - g, given, r + 1, ways);
        }
        given[r] = 0;
    }

    private int dealt(int land, int giver, int n, int r) {
        if (n < 0 || n > 20 || r != now.deep && !row(r)) {
            return no(1);
        }
        int[] d = deal(land, giver, n);
        return d == null ? no(6) : yes(d[r]);
    }

    int give(int land, int n) {
        return isLand(land) ? dealt(land, land, n, now.deep) : no(1);
    }

    int giveIn(int land, int n, int r) {
        return isLand(land) && row(r) ? dealt(land, land, n, r) : no(1);
    }

    int ask(int land, int n) {
        return isLand(land) ? dealt(land, 1 - land, n, now.deep) : no(1);
    }

    int askIn(int land, int n, int r) {
        return isLand(land) && row(r) ? dealt(land, 1 - land, n, r) : no(1);
    }

    int price(int land, int v) {
        if (!isLand(land) || v < 0 || v > 990) {
            return no(1);
        }
        for (int n = 0; n <= 63; n++) {
            int[] d = deal(land, 1 - land, n);
            if (d != null && d[now.deep] >= v) {
                return yes(n);
            }
        }
        return no(6);
    }

    /** All LINES by BENDS, the first by their NUMBERS first. */
    private List<int[]> allLines() {
        List<int[]> all = new ArrayList<>();
        all.add(new int[0]);
        for (int r = 0; r < now.deep; r++) {
            List<int[]> longer = new ArrayList<>();
            for (int[] l : all) {
                for (int x = 0; x <= now.wide; x++) {
                    if (r == 0 || Math.abs(x - l[r - 1]) <= now.bends) {
                        int[] m = Arrays.copyOf(l, r + 1);
                        m[r] = x;
                        longer.add(m);
                    }
                }
            }
            all = longer;
        }
        return all;
    }

    private int[] peaceLine(int first, int second) {
        int[] best = null;
        for (int[] l : allLines()) {
            boolean fits = now.deep > 0;
            for (int i = 0; i < now.things.size(); i++) {
                Thing t = now.things.get(i);
                boolean zero = t.c < l[t.r];
                fits &= !((first & 1 << i) != 0 && !zero) && !((second & 1 << i) != 0 && zero);
            }
            if (fits && (best == null || chalkOf(l) < chalkOf(best))) {
                best = l;
            }
        }
        return best;
    }

    private boolean isSet(int set) {
        return set >= 0 && set < 1 << now.things.size();
    }

    int peace(int first, int second) {
        if (!isSet(first) || !isSet(second)) {
            return no(1);
        }
        int[] l = peaceLine(first, second);
        return l == null ? no(6) : yes(chalkOf(l));
    }

    int peaceIn(int first, int second, int r) {
        if (!isSet(first) || !isSet(second) || !row(r)) {
            return no(1);
        }
        int[] l = peaceLine(first, second);
        return l == null ? no(6) : yes(l[r]);
    }

    private List<int[]> linesWith(int b) {
        List<int[]> some = new ArrayList<>();
        for (int[] l : allLines()) {
            if (Arrays.stream(l).sum() == b) {
                some.add(l);
            }
        }
        return some;
    }

    long lines(int b) {
        if (b < 0 || b > 63) {
            return no(1);
        }
        status = 0;
        return linesWith(b).size();
    }

    int sure(int b) {
        if (b < 0 || b > 63) {
            return no(1);
        }
        List<int[]> some = linesWith(b);
        if (some.isEmpty()) {
            return no(6);
        }
        int sum = 0;
        for (int[] x : allBoards()) {
            boolean all = true;
            for (int[] l : some) {
                all &= x[0] < l[x[1]];
            }
            sum += all ? 1 : 0;
        }
        return yes(sum);
    }

    /** Plain best play: {outcome, first row}. */
    private int[] best(int moves, int whose) {
        if (moves == 0) {
            return new int[] {worthAt(0, 0) - worthAt(1, 1), now.deep};
        }
        int[] found = null;
        for (int r = 0; r < now.deep; r++) {
            if (has(1 - whose, r) > 0) {
                now.line[r] += whose == 0 ? 1 : -1;
                int end = best(moves - 1, 1 - whose)[0];
                now.line[r] -= whose == 0 ? 1 : -1;
                if (found == null || (whose == 0 ? end > found[0] : end < found[0])) {
                    found = new int[] {end, r};
                }
            }
        }
        return found != null ? found : new int[] {best(moves - 1, 1 - whose)[0], now.deep};
    }

    /** Whether plain best play is little enough. */
    boolean smallGame(int rounds) {
        return Math.pow(now.deep, 2 * rounds) <= 5000;
    }

    int game(int rounds) {
        if (rounds < 1 || rounds > 3) {
            return no(1);
        }
        return now.deep == 0 ? no(6) : yes(best(2 * rounds, 0)[0]);
    }

    int first(int rounds) {
        if (rounds < 1 || rounds > 3) {
            return no(1);
        }
        return now.deep == 0 ? no(6) : yes(best(2 * rounds, 0)[1]);
    }

    // ---- talks

    private int done;
    private int drawn;
    private int[] tale;

    private int[] liveOn(int seed) {
        done = 0;
        drawn = seed;
        tale = new int[5];
        try {
            perform(now.talks);
        } catch (Halt h) {
            tale[4] = h.left ? 1 : 0;
        }
        return tale;
    }

    private void perform(List<Step> steps) throws Halt {
        for (Step s : steps) {
            if (done == 300) {
                throw new Halt(true);
            }
            done++;
            if (s.word.equals("stop")) {
                throw new Halt(false);
            }
            if (s.word.equals("when")) {
                if (passes(s)) {
                    perform(s.body);
                }
            } else if (s.word.equals("loop")) {
                for (int i = 0; i < s.n[0]; i++) {
                    perform(s.body);
                }
            } else if (!hit(s)) {
                tale[0]++;
            }
        }
    }

    private Thing named(String name) {
        for (Thing t : now.things) {
            if (t.name.equals(name)) {
                return t;
            }
        }
        throw new IllegalStateException();
    }

    private boolean passes(Step s) {
        if (s.test.equals("holds")) {
            Thing t = named(s.name);
            return held(t.c, t.r) == s.n[0];
        }
        int v = s.test.equals("boards") ? countBoards(s.n[0]) : worthAt(s.n[0], s.n[0]);
        return s.compare == '<' ? v < s.n[1] : s.compare == '>' ? v > s.n[1] : v == s.n[1];
    }

    private boolean hit(Step s) {
        switch (s.word) {
            case "yield":
                return counted(s.n[0], s.n[1], s.n[2]);
            case "night":
                doNight();
                tale[3]++;
                return true;
            case "sweep":
                return doSweep(s.n[0]);
            case "move":
                return doMove(named(s.name), s.n[0], s.n[1]);
            default:
                if (now.deep == 0) {
                    return false;
                }
                drawn = (drawn * 2957 + 11159) % 65536;
                return counted(s.n[0], drawn / 8 % now.deep, 1);
        }
    }

    private boolean counted(int land, int r, int n) {
        int moved = doYield(land, r, n);
        tale[1 + land] += moved;
        return moved > 0;
    }

    int live(int seed) {
        if (seed < 0 || seed > 9999) {
            return no(1);
        }
        if (now.talks == null) {
            return no(6);
        }
        lived = liveOn(seed);
        return yes(done);
    }

    int lived(int what) {
        if (what < 0 || what > 4) {
            return no(1);
        }
        return lived == null ? no(6) : yes(lived[what]);
    }

    boolean mean(int land, int seed, int many) {
        if (!isLand(land) || seed < 0 || seed > 9999 || many < 1 || many > 20 || seed + many - 1 > 9999) {
            return deny(1);
        }
        if (now.talks == null) {
            return deny(6);
        }
        State kept = now;
        long sum = 0;
        for (int i = 0; i < many; i++) {
            now = kept.twin();
            liveOn(seed + i);
            sum += worthAt(land, land);
        }
        now = kept;
        fraction(sum, many);
        return grant();
    }

    int mark() {
        if (marks.size() == 3) {
            return no(4);
        }
        marks.add(now.twin());
        return yes(marks.size());
    }

    int undo() {
        if (marks.isEmpty()) {
            return no(6);
        }
        now = marks.remove(marks.size() - 1);
        return yes(marks.size());
    }
}
