import java.util.ArrayList;
import java.util.Arrays;
import java.util.List;

/**
 * All arguments from just below to just above what can be, one after the other, in rooms at the bounds, and texts with
 * every TOKEN cut, left out, doubled or put in another one's place: ChalkRoom and Model must answer alike.
 */
public final class SweepTest {
    /** An object serves 512 calls; the last ones are left for status() and the like. */
    private static final int MOST_CALLS = 60;
    private static final int[] FAR = {Integer.MIN_VALUE, Integer.MAX_VALUE};
    private static final String TALKS = "any 0;yield 1 0 2;night;sweep 0;when boards 0>1;any 1;end;";
    private static final String[] ROOMS = {
        "",
        "room 1 by 1;",
        "room 1 by 1;line 1;bends 0;thing a at 0 0 worth 99 99 big;",
        "room 1 by 1;line 1;thing a at 0 0 worth 0 0 leg 1;",
        "room 2 by 1;line 0;thing a at 0 0 worth 1 0;thing b at 1 0 worth 0 1;",
        "room 1 by 3;bends 0;line 0 1 0;thing a at 0 0 worth 3 2;thing b at 0 1 worth 2 3 big;thing c at 0 2 worth 1 1;",
        "room 3 by 2;line 3 0;bends 2;thing a at 2 0 worth 5 5 leg 1;thing b at 0 1 worth 4 6 leg 0;thing c at 1 1 worth 7 7;",
        "room 3 by 2;line 0 0;bends 1;thing a at 0 0 worth 9 1;thing b at 2 1 worth 8 1 big;",
        "room 3 by 2;line 3 3;bends 3;thing a at 0 0 worth 9 1 big;thing b at 2 1 worth 8 1;thing c at 1 0 worth 0 0 big;"
            + "thing d at 1 1 worth 1 1 big;",
        "room 4 by 3;bends 1;thing a at 1 0 worth 10 3;thing b at 2 0 worth 2 10;thing c at 1 2 worth 4 4;thing d at 3 1 worth 9 8 leg 0;"};
    private static final String ROOM_TEXT = "room 3 by 2;line 1 3;bends 2;thing ab at 2 1 worth 10 99 leg 1 big;thing c at 0 0 worth 0 7;";
    private static final String TALKS_TEXT = "yield 0 1 9;when value 1>99;move ab to 0 1;end;loop 3;any 1;sweep 0;end;when holds 0 c;stop;end;night;";
    private static final String[] TOKENS = {"room", "by", "line", "bends", "thing", "at", "worth", "leg", "big", "yield", "night", "sweep",
        "move", "to", "any", "when", "boards", "value", "holds", "loop", "end", "stop", "ab", "c", "zz", "abcdefghi", "0", "1", "2", "3", "4",
        "9", "10", "99", "100", "999", "1000", "0001", "00001", ";", "<", ">", "=", "?", "A"};

    private interface Twin {
        void call(Pair p);
    }

    /** A ChalkRoom and a Model that were brought up alike. */
    private static final class Pair {
        final ChalkRoom room = new ChalkRoom();
        final Model model = new Model();
        int calls = 0;

        void same(String call, long got, long due) {
            calls++;
            compared++;
            if (got != due || room.status() != model.status || room.top() != model.top || room.bottom() != model.bottom) {
                wrong++;
                System.out.println(now + ": " + call + " answered " + got + " with status " + room.status() + ", due is " + due
                    + " with " + model.status);
            }
        }

        void same(String call, boolean got, boolean due) {
            same(call, got ? 1 : 0, due ? 1 : 0);
        }

        void feed(String text) {
            for (int from = 0; from < text.length(); from += 20) {
                int[] v = Texts.twenty(text, from);
                room.feed(v[0], v[1], v[2], v[3], v[4]);
                model.feed(v[0], v[1], v[2], v[3], v[4]);
            }
        }

        void lay(String text) {
            feed(text);
            same("room(" + text + ")", room.room(text.length()), model.room(text.length()));
        }

        void talk(String text) {
            feed(text);
            same("talks(" + text + ")", room.talks(text.length()), model.talks(text.length()));
        }

        void sameState() {
            for (int what = 0; what < 7; what++) {
                same("told(" + what + ")", room.told(what), model.told(what));
            }
            for (int row = 0; row < model.now.deep; row++) {
                same("line(" + row + ")", room.line(row), model.line(row));
            }
            for (int i = 0; i < model.now.things.size(); i++) {
                for (int what = 0; what < 6; what++) {
                    same("thing(" + i + ", " + what + ")", room.thing(i, what), model.thing(i, what));
                }
            }
        }
    }

    private static String now = "";
    private static int compared = 0;
    private static int wrong = 0;
    private static Pair pair;
    private static boolean fresh;

    private SweepTest() {
    }

    public static void main(String[] args) {
        for (String room : ROOMS) {
            now = room;
            boardsAndThings(room);
            lands(room);
            deeds(room);
            plans(room);
            talksAndMarks(room);
        }
        trays();
        texts(ROOM_TEXT, true);
        texts(TALKS_TEXT, false);
        System.out.println("SweepTest: " + (compared - wrong) + " passed, " + wrong + " failed");
        if (wrong > 0) {
            System.exit(1);
        }
    }

    /** From two below 0 to two above what can be, and the ints farthest away. */
    private static int[] around(int most) {
        int[] all = new int[most + 5 + FAR.length];
        for (int i = 0; i < most + 5; i++) {
            all[i] = i - 2;
        }
        System.arraycopy(FAR, 0, all, most + 5, FAR.length);
        return all;
    }

    /** The pair for the next call: a new one now and then, or always where calls change it. */
    private static Pair next(String room) {
        if (pair == null || fresh || pair.calls > MOST_CALLS) {
            pair = new Pair();
            pair.lay(room);
            pair.talk(TALKS);
            if (pair.model.status != 0) {
                pair.talk("any 0;night;any 1;");
            }
        }
        return pair;
    }

    private static void begin(boolean always) {
        pair = null;
        fresh = always;
    }

    private static int[] rows(String room) {
        return around(room.isEmpty() ? 0 : room.charAt(10) - '0');
    }

    private static int[] columns(String room) {
        return around(room.isEmpty() ? 0 : room.charAt(5) - '0');
    }

    private static void boardsAndThings(String room) {
        begin(false);
        for (int what : around(7)) {
            Pair p = next(room);
            p.same("told(" + what + ")", p.room.told(what), p.model.told(what));
            p.same("line(" + what + ")", p.room.line(what), p.model.line(what));
            p.same("reach(" + what + ")", p.room.reach(what), p.model.reach(what));
            p.same("fault(" + what + ")", p.room.fault(what), p.model.fault(what));
            p.same("lived(" + what + ")", p.room.lived(what), p.model.lived(what));
            for (int thing : around(5)) {
                Pair q = next(room);
                q.same("thing(" + thing + ", " + what + ")", q.room.thing(thing, what), q.model.thing(thing, what));
            }
        }
        for (int c : columns(room)) {
            for (int r : rows(room)) {
                Pair p = next(room);
                p.same("on(" + c + ", " + r + ")", p.room.on(c, r), p.model.on(c, r));
                p.same("land(" + c + ", " + r + ")", p.room.land(c, r), p.model.land(c, r));
                p.same("island(" + c + ", " + r + ")", p.room.island(c, r), p.model.island(c, r));
                for (int d : columns(room)) {
                    for (int s : rows(room)) {
                        Pair q = next(room);
                        q.same("joined(" + c + ", " + r + ", " + d + ", " + s + ")", q.room.joined(c, r, d, s), q.model.joined(c, r, d, s));
                    }
                }
            }
        }
    }

    private static void lands(String room) {
        begin(false);
        for (int l : around(1)) {
            Pair p = next(room);
            p.same("boards(" + l + ")", p.room.boards(l), p.model.boards(l));
            p.same("value(" + l + ")", p.room.value(l), p.model.value(l));
            p.same("things(" + l + ")", p.room.things(l), p.model.things(l));
            p.same("share(" + l + ")", p.room.share(l), p.model.share(l));
            p.same("envy(" + l + ")", p.room.envy(l), p.model.envy(l));
            p.same("border(" + l + ")", p.room.border(l), p.model.border(l));
            p.same("strongest(" + l + ")", p.room.strongest(l), p.model.strongest(l));
            p.same("least(" + l + ")", p.room.least(l), p.model.least(l));
            p.same("wanted(" + l + ")", p.room.wanted(l), p.model.wanted(l));
            p.same("islands(" + l + ")", p.room.islands(l), p.model.islands(l));
            p.same("mainland(" + l + ")", p.room.mainland(l), p.model.mainland(l));
            p.same("strait(" + l + ")", p.room.strait(l), p.model.strait(l));
            p.same("bridge(" + l + ")", p.room.bridge(l), p.model.bridge(l));
            p.same("bridged(" + l + ")", p.room.bridged(l), p.model.bridged(l));
            for (int from : around(4)) {
                for (int to : around(4)) {
                    Pair q = next(room);
                    q.same("passes(" + l + ", " + from + ", " + to + ")", q.room.passes(l, from, to), q.model.passes(l, from, to));
                    q.same("steps(" + l + ", " + from + ", " + to + ")", q.room.steps(l, from, to), q.model.steps(l, from, to));
                }
            }
        }
        Pair p = next(room);
        p.same("fair()", p.room.fair(), p.model.fair());
        p.same("chalk()", p.room.chalk(), p.model.chalk());
        p.same("bulges()", p.room.bulges(), p.model.bulges());
    }

    private static void deed(String room, Twin twin) {
        Pair p = next(room);
        twin.call(p);
        p.sameState();
    }

    private static void deeds(String room) {
        begin(true);
        for (int r : rows(room)) {
            for (int l : around(1)) {
                for (int n : around(9)) {
                    deed(room, p -> p.same("cede(" + l + ", " + r + ", " + n + ")", p.room.cede(l, r, n), p.model.cede(l, r, n)));
                }
            }
            deed(room, p -> p.same("sweep(" + r + ")", p.room.sweep(r), p.model.sweep(r)));
            for (int c : columns(room)) {
                for (int t : around(4)) {
                    deed(room, p -> p.same("move(" + t + ", " + c + ", " + r + ")", p.room.move(t, c, r), p.model.move(t, c, r)));
                }
            }
        }
        for (int n : around(9)) {
            deed(room, p -> {
                p.same("bends(" + n + ")", p.room.bends(n), p.model.bends(n));
                p.same("bulges()", p.room.bulges(), p.model.bulges());
                p.same("night()", p.room.night(), p.model.night());
            });
            for (int l : around(1)) {
                deed(room, p -> {
                    p.same("leg(" + n + ", " + l + ")", p.room.leg(n, l), p.model.leg(n, l));
                    p.same("things(0)", p.room.things(0), p.model.things(0));
                });
            }
        }
    }

    private static void plans(String room) {
        begin(false);
        for (int n : around(20)) {
            for (int l : around(1)) {
                Pair p = next(room);
                p.same("give(" + l + ", " + n + ")", p.room.give(l, n), p.model.give(l, n));
                p.same("ask(" + l + ", " + n + ")", p.room.ask(l, n), p.model.ask(l, n));
                p.same("price(" + l + ", " + n + ")", p.room.price(l, n), p.model.price(l, n));
                for (int r : rows(room)) {
                    Pair q = next(room);
                    q.same("giveIn(" + l + ", " + n + ", " + r + ")", q.room.giveIn(l, n, r), q.model.giveIn(l, n, r));
                    q.same("askIn(" + l + ", " + n + ", " + r + ")", q.room.askIn(l, n, r), q.model.askIn(l, n, r));
                }
            }
        }
        for (int v = 985; v < 995; v++) {
            Pair p = next(room);
            p.same("price(0, " + v + ")", p.room.price(0, v), p.model.price(0, v));
        }
        for (int bends : new int[] {0, 1, 2, 9}) {
            for (int first : around(16)) {
                for (int second : around(16)) {
                    Pair p = next(room);
                    p.same("bends(" + bends + ")", p.room.bends(bends), p.model.bends(bends));
                    p.same("peace(" + first + ", " + second + ")", p.room.peace(first, second), p.model.peace(first, second));
                    for (int r : new int[] {-1, 0, 1, 2, 3}) {
                        p.same("peaceIn(" + first + ", " + second + ", " + r + ")", p.room.peaceIn(first, second, r),
                            p.model.peaceIn(first, second, r));
                    }
                }
            }
            for (int b : around(64)) {
                Pair p = next(room);
                p.same("bends(" + bends + ")", p.room.bends(bends), p.model.bends(bends));
                p.same("lines(" + b + ")", p.room.lines(b), p.model.lines(b));
                p.same("sure(" + b + ")", p.room.sure(b), p.model.sure(b));
            }
        }
        for (int rounds : around(3)) {
            Pair p = next(room);
            p.same("game(" + rounds + ")", p.room.game(rounds), p.model.game(rounds));
            p.same("first(" + rounds + ")", p.room.first(rounds), p.model.first(rounds));
        }
    }

    private static void talksAndMarks(String room) {
        begin(true);
        List<Integer> seeds = new ArrayList<>(Arrays.asList(-2, -1, 0, 1, 9979, 9980, 9981, 9998, 9999, 10000, 10001));
        seeds.add(FAR[0]);
        seeds.add(FAR[1]);
        for (int seed : seeds) {
            deed(room, p -> {
                p.same("live(" + seed + ")", p.room.live(seed), p.model.live(seed));
                for (int what = -1; what <= 5; what++) {
                    p.same("lived(" + what + ")", p.room.lived(what), p.model.lived(what));
                }
            });
            for (int l : around(1)) {
                for (int many : new int[] {-1, 0, 1, 2, 19, 20, 21, Integer.MAX_VALUE}) {
                    deed(room, p -> p.same("mean(" + l + ", " + seed + ", " + many + ")", p.room.mean(l, seed, many),
                        p.model.mean(l, seed, many)));
                }
            }
        }
        // All runs of six calls of mark(), undo() and one that changes something.
        for (int run = 0; run < 729; run++) {
            Pair p = next(room);
            for (int i = 0, left = run; i < 6; i++, left /= 3) {
                if (left % 3 == 0) {
                    p.same("mark()", p.room.mark(), p.model.mark());
                } else if (left % 3 == 1) {
                    p.same("undo()", p.room.undo(), p.model.undo());
                } else {
                    p.same("live(" + i + ")", p.room.live(i), p.model.live(i));
                }
            }
            p.sameState();
        }
    }

    // ---- TRAYS

    private static Pair trayPair() {
        Pair p = new Pair();
        int[][] made = {{0, 1, 3}, {1, 1, 2}, {2, 2, 4}};
        for (int[] m : made) {
            p.same("tray", p.room.tray(m[0], m[1], m[2]), p.model.tray(m[0], m[1], m[2]));
            for (int i = 0; i < m[2]; i++) {
                long v = 40000L * m[0] + 11 * i + 1;
                p.same("write", p.room.write(m[0], i, v), p.model.write(m[0], i, v));
            }
        }
        return p;
    }

    private static void sameTrays(Pair p) {
        for (int t = 0; t < 4; t++) {
            for (int i = 0; i < 5; i++) {
                p.same("read(" + t + ", " + i + ")", p.room.read(t, i), p.model.read(t, i));
            }
        }
    }

    private static void trays() {
        now = "TRAYS";
        for (int t : around(4)) {
            for (int a : around(4)) {
                for (int b : new int[] {-1, 0, 1, 59, 60, 61, FAR[0], FAR[1]}) {
                    Pair p = trayPair();
                    p.same("tray(" + t + ", " + a + ", " + b + ")", p.room.tray(t, a, b), p.model.tray(t, a, b));
                    p.same("write(" + t + ", " + a + ", -129)", p.room.write(t, a, -129), p.model.write(t, a, -129));
                    p.same("read(" + t + ", " + b + ")", p.room.read(t, b), p.model.read(t, b));
                    sameTrays(p);
                }
            }
        }
        for (int from = -1; from <= 4; from++) {
            for (int to = -1; to <= 4; to++) {
                for (int place : new int[] {-1, 0, 1, 3, 4, FAR[1]}) {
                    for (int at : new int[] {-1, 0, 1, 2, 3, FAR[1]}) {
                        pours(from, place, to, at);
                    }
                }
            }
        }
    }

    private static void pours(int from, int place, int to, int at) {
        for (int many : new int[] {-1, 0, 1, 2, 3, FAR[1]}) {
            if (many == 0 && (place >= 3 || at >= 2)) {
                // Of 0 numbers behind the last place the document tells nothing.
                continue;
            }
            Pair p = trayPair();
            p.same("pour(" + from + ", " + place + ", " + to + ", " + at + ", " + many + ")", p.room.pour(from, place, to, at, many),
                p.model.pour(from, place, to, at, many));
            sameTrays(p);
        }
    }

    // ---- texts

    /** The TOKENS of a text in which blanks stand where they must. */
    private static List<String> tokensOf(String text) {
        return new ArrayList<>(Arrays.asList(text.replaceAll("([;<>=])", " $1 ").trim().split(" +")));
    }

    private static void sameText(String text, boolean isRoom) {
        now = text;
        Pair p = new Pair();
        if (!isRoom) {
            p.lay(ROOM_TEXT);
        }
        p.feed(text);
        if (isRoom) {
            p.same("room", p.room.room(text.length()), p.model.room(text.length()));
        } else {
            p.same("talks", p.room.talks(text.length()), p.model.talks(text.length()));
            p.same("live", p.room.live(3), p.model.live(3));
        }
        p.same("fault(0)", p.room.fault(0), p.model.fault(0));
        p.same("fault(1)", p.room.fault(1), p.model.fault(1));
        p.sameState();
    }

    private static void texts(String text, boolean isRoom) {
        for (int n = 0; n <= text.length(); n++) {
            sameText(text.substring(0, n), isRoom);
            sameText(text.substring(n), isRoom);
            for (int b : new int[] {0, 9, 10, 13, 32, 47, 48, 57, 58, 59, 60, 61, 62, 63, 96, 97, 122, 123, 127, 128, 255}) {
                sameText(text.substring(0, n) + (char) b + text.substring(n), isRoom);
                sameText(text.substring(0, n) + (char) b + text.substring(Math.min(n + 1, text.length())), isRoom);
            }
        }
        List<String> tokens = tokensOf(text);
        for (int i = 0; i < tokens.size(); i++) {
            for (String other : TOKENS) {
                List<String> changed = new ArrayList<>(tokens);
                changed.set(i, other);
                sameText(String.join(" ", changed), isRoom);
                changed.set(i, tokens.get(i));
                changed.add(i, other);
                sameText(String.join("\n", changed), isRoom);
            }
            List<String> fewer = new ArrayList<>(tokens);
            fewer.remove(i);
            sameText(String.join(" ", fewer), isRoom);
        }
    }
}
