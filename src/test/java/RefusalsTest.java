import java.util.List;
import java.util.function.Supplier;

/**
 * "With another STATUS than 0 a call gives NONE, or false, and changes nothing else": each refused call is made on one
 * of two objects that were brought up alike, and then all that can be asked of the two must be the same.
 * Calls that only tell something are held to the same: they change nothing at all.
 */
public final class RefusalsTest {
    private static final int NONE = ChalkRoom.NONE;
    private static final int[] NO_LANDS = {-1, 2, Integer.MIN_VALUE, Integer.MAX_VALUE};
    private static final int[] NO_ROWS = {-1, 3, Integer.MIN_VALUE, Integer.MAX_VALUE};
    private static final int[] NO_COLUMNS = {-1, 5, Integer.MIN_VALUE, Integer.MAX_VALUE};
    private static final int[] NO_THINGS = {-1, 4, Integer.MIN_VALUE, Integer.MAX_VALUE};
    private static final int[] NO_TRAYS = {-1, 4, Integer.MIN_VALUE, Integer.MAX_VALUE};
    private static final Dues DUES = new Dues("RefusalsTest");

    private interface Call {
        long of(ChalkRoom x);
    }

    private interface Deed {
        boolean of(ChalkRoom x);
    }

    private RefusalsTest() {
    }

    public static void main(String[] args) {
        wrongTrays();
        wrongPours();
        wrongTexts();
        faultyTexts();
        wrongTellings();
        wrongLands();
        wrongDeeds();
        wrongWays();
        wrongPlans();
        wrongTalks();
        wrongMarks();
        noRows();
        nothingInTheWay();
        withoutStatus();
        tellingsChangeNothing();
        plansChangeNothing();
        fractionsAlone();
        firstStatusThatHolds();
        DUES.end();
    }

    // ---- objects to be looked at

    /**
     * WIDE 5, DEEP 3, four THINGS, BENDS 2; two MARKS; TALKS of three STEPS that were lived; TRAYS 0 (three numbers of
     * 8 bits), 1 (seven of 16 bits), 2 (none of 16 bits), 3 MISSING; a FRACTION, a FAULT; twenty bytes on the tape.
     */
    private static ChalkRoom rich() {
        ChalkRoom x = new ChalkRoom();
        x.tray(0, 0, 3);
        x.write(0, 0, 4);
        x.write(0, 1, 9);
        x.write(0, 2, -1);
        x.tray(1, 1, 7);
        for (int i = 0; i < 7; i++) {
            x.write(1, i, 1000 + i);
        }
        x.tray(2, 1, 0);
        Texts.room(x, "room 5 by 3;line 2 4 1;bends 2;thing a at 0 0 worth 3 4;thing b at 4 1 worth 6 5 leg 0;"
            + "thing c at 2 2 worth 1 9 big;thing d at 1 0 worth 0 2;");
        Texts.talks(x, "any 0;night;yield 1 2 1;");
        x.mark();
        x.cede(0, 0, 1);
        x.live(7);
        x.share(1);
        x.mark();
        x.night();
        x.move(0, 3, 2);
        Texts.talks(x, "night;loop");
        Texts.feed(x, "room 2 by 2;bends 4;");
        x.chalk();
        return x;
    }

    /** Three MARKS, a full tape, a LINE by which LAND 0 has all of row 0 and none of row 2, and no TALKS. */
    private static ChalkRoom full() {
        ChalkRoom x = new ChalkRoom();
        Texts.room(x, "room 5 by 3;line 5 1 0;bends 1;thing a at 0 0 worth 0 4;thing b at 4 0 worth 0 5;");
        x.tray(0, 0, 2);
        x.mark();
        x.bends(3);
        x.mark();
        x.leg(0, 0);
        x.mark();
        x.leg(0, NONE);
        for (int i = 0; i < 45; i++) {
            x.feed(0x20202020, 0x20202020, 0x20202020, 0x20202020, i < 44 ? 0x20202020 : 0x20206c3b);
        }
        x.chalk();
        return x;
    }

    private static ChalkRoom bare() {
        return new ChalkRoom();
    }

    /** Two THINGS that LAND 0 HOLDS, parted by a wall of BIG ones; nothing is of WORTH to LAND 1. */
    private static ChalkRoom walled() {
        ChalkRoom x = new ChalkRoom();
        Texts.room(x, "room 3 by 2;line 3 3;thing a at 0 0 worth 1 0;thing b at 2 1 worth 1 0;thing c at 1 0 worth 1 0 big;"
            + "thing d at 1 1 worth 1 0 big;");
        return x;
    }

    /** All that an object tells without being changed by it. */
    private static void tell(ChalkRoom x, StringBuilder to) {
        to.append(x.top()).append('/').append(x.bottom()).append(" told");
        for (int what = 0; what < 7; what++) {
            to.append(' ').append(x.told(what));
        }
        int deep = x.told(1);
        int things = x.told(2);
        to.append(" line");
        for (int row = 0; row < deep; row++) {
            to.append(' ').append(x.line(row));
        }
        to.append(" things");
        for (int i = 0; i < things; i++) {
            for (int what = 0; what < 6; what++) {
                to.append(' ').append(x.thing(i, what));
            }
        }
        to.append(" lived");
        for (int what = 0; what < 5; what++) {
            to.append(' ').append(x.lived(what)).append(':').append(x.status());
        }
    }

    private static void tellTrays(ChalkRoom x, StringBuilder to) {
        for (int tray = 0; tray < 4; tray++) {
            to.append(" tray");
            for (int place = 0; place < 8; place++) {
                to.append(' ').append(x.read(tray, place)).append(':').append(x.status());
            }
        }
    }

    /** All of an object, which is used up by it: at last the TALKS, the MARKS and the tape. */
    private static String all(ChalkRoom x, boolean withTape) {
        StringBuilder to = new StringBuilder();
        if (withTape) {
            to.append("fault ").append(x.fault(0)).append(' ').append(x.fault(1)).append(' ');
        }
        tell(x, to);
        tellTrays(x, to);
        to.append(" mean ").append(x.mean(0, 3, 7)).append(' ').append(x.top()).append('/').append(x.bottom());
        to.append(" live ").append(x.live(5)).append(' ');
        tell(x, to);
        int left = 9;
        for (int i = 0; i < 4 && left > NONE; i++) {
            left = x.undo();
            to.append(" undo ").append(left).append(':').append(x.status()).append(' ');
            if (left > NONE) {
                tell(x, to);
            }
        }
        if (withTape) {
            int fed = x.feed(0x62656e64, 0x7320343b, 0, 0, 0);
            to.append(" fed ").append(fed).append(" room ");
            to.append(x.room(fed < 0 ? 900 : fed - 12)).append(':').append(x.status());
            to.append(" fault ").append(x.fault(0)).append(' ').append(x.fault(1)).append(" told");
            for (int what = 0; what < 7; what++) {
                to.append(' ').append(x.told(what));
            }
        }
        return to.toString();
    }

    private static void refused(int promise, String call, Supplier<ChalkRoom> maker, Call made, int status) {
        ChalkRoom x = maker.get();
        DUES.due(promise, x, call, made.of(x), NONE, status);
        DUES.due(promise, "what is behind " + call, all(x, true), all(maker.get(), true));
    }

    private static void denied(int promise, String call, Supplier<ChalkRoom> maker, Deed made, int status) {
        ChalkRoom x = maker.get();
        DUES.due(promise, x, call, made.of(x), false, status);
        DUES.due(promise, "what is behind " + call, all(x, true), all(maker.get(), true));
    }

    private static void refused(int promise, String call, Call made, int status) {
        refused(promise, call, RefusalsTest::rich, made, status);
    }

    private static void denied(int promise, String call, Deed made, int status) {
        denied(promise, call, RefusalsTest::rich, made, status);
    }

    // ---- TRAYS

    private static void wrongTrays() {
        for (int t : NO_TRAYS) {
            denied(5, "tray(" + t + ", 0, 1)", x -> x.tray(t, 0, 1), 1);
            denied(6, "write(" + t + ", 0, 1)", x -> x.write(t, 0, 1), 1);
            refused(7, "read(" + t + ", 0)", x -> x.read(t, 0), 1);
            denied(36, "draw(" + t + ")", x -> x.draw(t), 1);
            refused(37, "copy(" + t + ")", x -> x.copy(t), 1);
        }
        for (int sort : new int[] {-1, 4, Integer.MIN_VALUE, Integer.MAX_VALUE}) {
            denied(5, "tray(0, " + sort + ", 1)", x -> x.tray(0, sort, 1), 1);
        }
        for (int many : new int[] {-1, 61, Integer.MIN_VALUE, Integer.MAX_VALUE}) {
            denied(5, "tray(0, 0, " + many + ")", x -> x.tray(0, 0, many), 1);
        }
        denied(6, "write to a MISSING one", x -> x.write(3, 0, 1), 2);
        refused(7, "read of a MISSING one", x -> x.read(3, 0), 2);
        for (int place : new int[] {-1, 3, 60, Integer.MIN_VALUE, Integer.MAX_VALUE}) {
            denied(6, "write(0, " + place + ", 1)", x -> x.write(0, place, 1), 3);
            refused(7, "read(0, " + place + ")", x -> x.read(0, place), 3);
        }
        denied(6, "write to an empty one", x -> x.write(2, 0, 1), 3);
        refused(7, "read of an empty one", x -> x.read(2, 0), 3);
        denied(36, "draw of a MISSING one", x -> x.draw(3), 2);
        refused(37, "copy to a MISSING one", x -> x.copy(3), 2);
        denied(36, "draw of too few", x -> x.draw(2), 3);
        refused(37, "copy to too few", x -> x.copy(2), 3);
        denied(36, "draw of one too few", RefusalsTest::full, x -> x.draw(0), 3);
        refused(37, "copy to one too few", RefusalsTest::full, x -> x.copy(0), 3);
        denied(36, "draw of what is above WIDE, behind one that could be", x -> x.draw(0), 5);
        denied(36, "draw of what is above WIDE at once", x -> x.draw(1), 5);
    }

    private static void wrongPours() {
        for (int t : NO_TRAYS) {
            denied(8, "pour from " + t, x -> x.pour(t, 0, 1, 0, 1), 1);
            denied(8, "pour to " + t, x -> x.pour(1, 0, t, 0, 1), 1);
        }
        for (int low : new int[] {-1, Integer.MIN_VALUE}) {
            denied(8, "pour of place " + low, x -> x.pour(1, low, 1, 0, 1), 1);
            denied(8, "pour at " + low, x -> x.pour(1, 0, 1, low, 1), 1);
            denied(8, "pour of many " + low, x -> x.pour(1, 0, 1, 0, low), 1);
        }
        denied(8, "pour from a MISSING one", x -> x.pour(3, 0, 1, 0, 1), 2);
        denied(8, "pour to a MISSING one", x -> x.pour(1, 0, 3, 0, 1), 2);
        denied(8, "pour of unlike sorts", x -> x.pour(0, 0, 1, 0, 1), 8);
        denied(8, "pour of none of unlike sorts", x -> x.pour(0, 0, 1, 0, 0), 8);
        denied(8, "pour of one too many", x -> x.pour(1, 0, 1, 0, 8), 3);
        denied(8, "pour from one place too far", x -> x.pour(1, 5, 1, 0, 3), 3);
        denied(8, "pour to one place too far", x -> x.pour(1, 0, 1, 5, 3), 3);
        denied(8, "pour to an empty one", x -> x.pour(1, 0, 2, 0, 1), 3);
        denied(8, "pour from an empty one", x -> x.pour(2, 0, 1, 0, 1), 3);
        denied(8, "pour of very many", x -> x.pour(1, 1, 1, 0, Integer.MAX_VALUE), 3);
        denied(8, "pour to a very far place", x -> x.pour(1, 0, 1, Integer.MAX_VALUE, 1), 3);
        denied(8, "pour from a very far place", x -> x.pour(1, Integer.MAX_VALUE, 1, 0, 1), 3);
    }

    // ---- texts

    private static void wrongTexts() {
        for (int n : new int[] {-1, 21, 900, 901, Integer.MIN_VALUE, Integer.MAX_VALUE}) {
            refused(10, "room(" + n + ") of a tape of 20", x -> x.room(n), 1);
            refused(11, "talks(" + n + ") of a tape of 20", x -> x.talks(n), 1);
        }
        for (int n : new int[] {-1, 901, Integer.MIN_VALUE, Integer.MAX_VALUE}) {
            refused(10, "room(" + n + ") of a full tape", RefusalsTest::full, x -> x.room(n), 1);
        }
        for (int n : new int[] {-1, 301, 900, 901}) {
            refused(11, "talks(" + n + ") of a full tape", RefusalsTest::full, x -> x.talks(n), 1);
        }
        refused(10, "room(1) of an empty tape", RefusalsTest::bare, x -> x.room(1), 1);
        refused(11, "talks(1) of an empty tape", RefusalsTest::bare, x -> x.talks(1), 1);
    }

    /** "But room(), talks() with 9 the tape, and what fault() tells": these change, and nothing else. */
    private static void faultyTexts() {
        for (Supplier<ChalkRoom> maker : List.<Supplier<ChalkRoom>>of(RefusalsTest::rich, RefusalsTest::walled)) {
            for (String text : new String[] {"room 9 by 7;line 9 9 9 9 9 9 9;bends 0;thing z at 8 6 worth 9 9 leg 1 big;thing",
                "bends 1;", "night", "room 1 by 1;thing z at 0 0 worth 0 0;thing z", "?"}) {
                ChalkRoom x = maker.get();
                DUES.due(10, x, "room() of the wrong bytes", x.room(x.feed(0, 0, 0, 0, 0)), NONE, 9);
                DUES.due(10, x, text, Texts.room(x, text), NONE, 9);
                DUES.due(10, "fault(1) of " + text, x.fault(1) >= 0 ? 1 : 0, 1);
                DUES.due(10, x, "the tape behind " + text, x.room(1), NONE, 1);
                DUES.due(10, "what is behind " + text, all(x, false), all(maker.get(), false));
            }
            for (String text : new String[] {"stop;night;loop 3;sweep 1;end;move a to 0 0;end;", "loop 3;", "room 1 by 1;", "?"}) {
                ChalkRoom x = maker.get();
                DUES.due(11, x, "talks() of the wrong bytes", x.talks(x.feed(0, 0, 0, 0, 0)), NONE, 9);
                DUES.due(11, x, text, Texts.talks(x, text), NONE, 9);
                DUES.due(11, "fault(1) of " + text, x.fault(1) >= 0 ? 1 : 0, 1);
                DUES.due(11, x, "the tape behind " + text, x.talks(1), NONE, 1);
                DUES.due(11, "what is behind " + text, all(x, false), all(maker.get(), false));
            }
        }
    }

    // ---- who is where

    private static void wrongTellings() {
        for (int what : new int[] {-1, 7, Integer.MIN_VALUE, Integer.MAX_VALUE}) {
            refused(13, "told(" + what + ")", x -> x.told(what), 1);
        }
        for (int what : new int[] {-1, 6, Integer.MIN_VALUE, Integer.MAX_VALUE}) {
            refused(15, "thing(0, " + what + ")", x -> x.thing(0, what), 1);
        }
        for (int what : new int[] {-1, 5, Integer.MIN_VALUE, Integer.MAX_VALUE}) {
            refused(60, "lived(" + what + ")", x -> x.lived(what), 1);
        }
        for (int t : NO_THINGS) {
            refused(15, "thing(" + t + ", 0)", x -> x.thing(t, 0), 1);
            refused(44, "reach(" + t + ")", x -> x.reach(t), 1);
        }
        for (int r : NO_ROWS) {
            refused(14, "line(" + r + ")", x -> x.line(r), 1);
            refused(16, "on(0, " + r + ")", x -> x.on(0, r), 1);
            refused(17, "land(0, " + r + ")", x -> x.land(0, r), 1);
            refused(39, "island(0, " + r + ")", x -> x.island(0, r), 1);
            refused(41, "joined(0, " + r + ", 0, 0)", x -> x.joined(0, r, 0, 0), 1);
            refused(41, "joined(0, 0, 0, " + r + ")", x -> x.joined(0, 0, 0, r), 1);
        }
        for (int c : NO_COLUMNS) {
            refused(16, "on(" + c + ", 0)", x -> x.on(c, 0), 1);
            refused(17, "land(" + c + ", 0)", x -> x.land(c, 0), 1);
            refused(39, "island(" + c + ", 0)", x -> x.island(c, 0), 1);
            refused(41, "joined(" + c + ", 0, 0, 0)", x -> x.joined(c, 0, 0, 0), 1);
            refused(41, "joined(0, 0, " + c + ", 0)", x -> x.joined(0, 0, c, 0), 1);
        }
        refused(15, "thing(0, 4) without a LEG", x -> x.thing(0, 4), 6);
        refused(16, "on a board without a THING", x -> x.on(4, 2), 6);
    }

    private static void wrongLands() {
        for (int l : NO_LANDS) {
            refused(18, "boards(" + l + ")", x -> x.boards(l), 1);
            refused(19, "value(" + l + ")", x -> x.value(l), 1);
            refused(20, "things(" + l + ")", x -> x.things(l), 1);
            denied(21, "share(" + l + ")", x -> x.share(l), 1);
            refused(22, "envy(" + l + ")", x -> x.envy(l), 1);
            refused(26, "border(" + l + ")", x -> x.border(l), 1);
            refused(27, "strongest(" + l + ")", x -> x.strongest(l), 1);
            refused(28, "least(" + l + ")", x -> x.least(l), 1);
            refused(29, "wanted(" + l + ")", x -> x.wanted(l), 1);
            refused(30, "cede(" + l + ", 0, 1)", x -> x.cede(l, 0, 1), 1);
            refused(38, "islands(" + l + ")", x -> x.islands(l), 1);
            refused(40, "mainland(" + l + ")", x -> x.mainland(l), 1);
            refused(42, "passes(" + l + ", 0, 1)", x -> x.passes(l, 0, 1), 1);
            refused(43, "steps(" + l + ", 0, 1)", x -> x.steps(l, 0, 1), 1);
            refused(45, "strait(" + l + ")", x -> x.strait(l), 1);
            refused(46, "bridge(" + l + ")", x -> x.bridge(l), 1);
            refused(47, "bridged(" + l + ")", x -> x.bridged(l), 1);
            refused(48, "give(" + l + ", 1)", x -> x.give(l, 1), 1);
            refused(49, "giveIn(" + l + ", 1, 0)", x -> x.giveIn(l, 1, 0), 1);
            refused(50, "ask(" + l + ", 1)", x -> x.ask(l, 1), 1);
            refused(51, "askIn(" + l + ", 1, 0)", x -> x.askIn(l, 1, 0), 1);
            refused(52, "price(" + l + ", 1)", x -> x.price(l, 1), 1);
            denied(61, "mean(" + l + ", 0, 1)", x -> x.mean(l, 0, 1), 1);
        }
        for (int l : new int[] {-2, 2, Integer.MIN_VALUE, Integer.MAX_VALUE}) {
            denied(34, "leg(0, " + l + ")", x -> x.leg(0, l), 1);
        }
        denied(21, "share(1), to which nothing is of WORTH", RefusalsTest::walled, x -> x.share(1), 6);
        refused(28, "least(1), which HOLDS none", RefusalsTest::walled, x -> x.least(1), 6);
        refused(29, "wanted(0), where the other HOLDS none", RefusalsTest::walled, x -> x.wanted(0), 6);
    }

    // ---- what is done

    private static void wrongDeeds() {
        for (int r : NO_ROWS) {
            refused(30, "cede(0, " + r + ", 1)", x -> x.cede(0, r, 1), 1);
            refused(32, "sweep(" + r + ")", x -> x.sweep(r), 1);
            denied(33, "move(0, 0, " + r + ")", x -> x.move(0, 0, r), 1);
        }
        for (int c : NO_COLUMNS) {
            denied(33, "move(0, " + c + ", 0)", x -> x.move(0, c, 0), 1);
        }
        for (int t : NO_THINGS) {
            denied(33, "move(" + t + ", 0, 0)", x -> x.move(t, 0, 0), 1);
            denied(34, "leg(" + t + ", 0)", x -> x.leg(t, 0), 1);
        }
        for (int n : new int[] {-1, 0, 10, Integer.MIN_VALUE, Integer.MAX_VALUE}) {
            refused(30, "cede(1, 0, " + n + ")", x -> x.cede(1, 0, n), 1);
        }
        for (int n : new int[] {-1, 10, Integer.MIN_VALUE, Integer.MAX_VALUE}) {
            denied(35, "bends(" + n + ")", x -> x.bends(n), 1);
        }
        refused(30, "cede of what LAND 1 has not", RefusalsTest::full, x -> x.cede(1, 0, 9), 7);
        refused(30, "cede of what LAND 0 has not", RefusalsTest::full, x -> x.cede(0, 2, 1), 7);
        denied(33, "move to where it is", x -> x.move(1, 4, 1), 7);
        denied(33, "move to where another is", x -> x.move(1, 2, 2), 7);
    }

    private static void wrongWays() {
        for (int t : NO_THINGS) {
            refused(42, "passes(0, " + t + ", 1)", x -> x.passes(0, t, 1), 1);
            refused(42, "passes(0, 1, " + t + ")", x -> x.passes(0, 1, t), 1);
            refused(43, "steps(1, " + t + ", 1)", x -> x.steps(1, t, 1), 1);
            refused(43, "steps(1, 1, " + t + ")", x -> x.steps(1, 1, t), 1);
        }
        refused(42, "passes to itself", x -> x.passes(0, 2, 2), 1);
        refused(43, "steps to itself", x -> x.steps(1, 2, 2), 1);
        refused(42, "passes without a WAY", RefusalsTest::walled, x -> x.passes(1, 0, 1), 6);
        refused(43, "steps without a WAY", RefusalsTest::walled, x -> x.steps(0, 1, 0), 6);
        refused(45, "strait of one ISLAND", RefusalsTest::walled, x -> x.strait(0), 6);
        refused(45, "strait of no ISLAND", RefusalsTest::walled, x -> x.strait(1), 6);
        refused(46, "bridge where the other HOLDS none", RefusalsTest::walled, x -> x.bridge(0), 6);
        refused(47, "bridged where the other HOLDS none", RefusalsTest::walled, x -> x.bridged(0), 6);
    }

    // ---- plans

    private static void wrongPlans() {
        for (int n : new int[] {-1, 21, Integer.MIN_VALUE, Integer.MAX_VALUE}) {
            refused(48, "give(0, " + n + ")", x -> x.give(0, n), 1);
            refused(49, "giveIn(0, " + n + ", 0)", x -> x.giveIn(0, n, 0), 1);
            refused(50, "ask(0, " + n + ")", x -> x.ask(0, n), 1);
            refused(51, "askIn(0, " + n + ", 0)", x -> x.askIn(0, n, 0), 1);
        }
        for (int r : NO_ROWS) {
            refused(49, "giveIn(0, 1, " + r + ")", x -> x.giveIn(0, 1, r), 1);
            refused(51, "askIn(0, 1, " + r + ")", x -> x.askIn(0, 1, r), 1);
            refused(54, "peaceIn(0, 0, " + r + ")", x -> x.peaceIn(0, 0, r), 1);
        }
        for (int v : new int[] {-1, 991, Integer.MIN_VALUE, Integer.MAX_VALUE}) {
            refused(52, "price(0, " + v + ")", x -> x.price(0, v), 1);
        }
        for (int set : new int[] {-1, 16, Integer.MIN_VALUE, Integer.MAX_VALUE}) {
            refused(53, "peace(" + set + ", 0)", x -> x.peace(set, 0), 1);
            refused(53, "peace(0, " + set + ")", x -> x.peace(0, set), 1);
            refused(54, "peaceIn(" + set + ", 0, 0)", x -> x.peaceIn(set, 0, 0), 1);
            refused(54, "peaceIn(0, " + set + ", 0)", x -> x.peaceIn(0, set, 0), 1);
        }
        for (int b : new int[] {-1, 64, Integer.MIN_VALUE, Integer.MAX_VALUE}) {
            refused(55, "lines(" + b + ")", x -> x.lines(b), 1);
            refused(56, "sure(" + b + ")", x -> x.sure(b), 1);
        }
        for (int rounds : new int[] {-1, 0, 4, Integer.MIN_VALUE, Integer.MAX_VALUE}) {
            refused(57, "game(" + rounds + ")", x -> x.game(rounds), 1);
            refused(58, "first(" + rounds + ")", x -> x.first(rounds), 1);
        }
        // In full() LAND 0 has 6 boards by the LINE, LAND 1 has 9.
        refused(48, "give of one more than LAND 0 has", RefusalsTest::full, x -> x.give(0, 7), 6);
        refused(48, "give of one more than LAND 1 has", RefusalsTest::full, x -> x.give(1, 10), 6);
        refused(49, "giveIn of one more than LAND 0 has", RefusalsTest::full, x -> x.giveIn(0, 7, 0), 6);
        refused(50, "ask for one more than LAND 1 has", RefusalsTest::full, x -> x.ask(0, 10), 6);
        refused(50, "ask for one more than LAND 0 has", RefusalsTest::full, x -> x.ask(1, 7), 6);
        refused(51, "askIn for one more than LAND 0 has", RefusalsTest::full, x -> x.askIn(1, 7, 2), 6);
        refused(52, "price of more than all", RefusalsTest::full, x -> x.price(1, 10), 6);
        refused(53, "peace where there is no LINE", x -> x.peace(4, 4), 6);
        refused(54, "peaceIn where there is no LINE", x -> x.peaceIn(4, 4, 0), 6);
        refused(56, "sure of one board more than there are", x -> x.sure(16), 6);
    }

    // ---- TALKS, MARKS

    private static void wrongTalks() {
        for (int seed : new int[] {-1, 10000, Integer.MIN_VALUE, Integer.MAX_VALUE}) {
            refused(59, "live(" + seed + ")", x -> x.live(seed), 1);
            denied(61, "mean(0, " + seed + ", 1)", x -> x.mean(0, seed, 1), 1);
        }
        for (int many : new int[] {-1, 0, 21, Integer.MIN_VALUE, Integer.MAX_VALUE}) {
            denied(61, "mean(0, 0, " + many + ")", x -> x.mean(0, 0, many), 1);
        }
        denied(61, "mean by a last seed of 10,000", x -> x.mean(0, 9999, 2), 1);
        denied(61, "mean by a last seed of 10,000", x -> x.mean(1, 9981, 20), 1);
        refused(59, "live without TALKS", RefusalsTest::full, x -> x.live(0), 6);
        refused(59, "live of a new object", RefusalsTest::bare, x -> x.live(0), 6);
        denied(61, "mean without TALKS", RefusalsTest::full, x -> x.mean(0, 0, 1), 6);
        refused(60, "lived without live()", RefusalsTest::full, x -> x.lived(4), 6);
    }

    private static void wrongMarks() {
        refused(62, "a fourth mark()", RefusalsTest::full, ChalkRoom::mark, 4);
        refused(63, "undo() without a MARK", RefusalsTest::bare, ChalkRoom::undo, 6);
        refused(63, "undo() without a MARK", RefusalsTest::walled, ChalkRoom::undo, 6);
    }

    /** A ROOM of no boards: what can be told of it, and what there is none of. */
    private static void noRows() {
        refused(14, "line(0)", RefusalsTest::bare, x -> x.line(0), 1);
        refused(15, "thing(0, 0)", RefusalsTest::bare, x -> x.thing(0, 0), 1);
        refused(16, "on(0, 0)", RefusalsTest::bare, x -> x.on(0, 0), 1);
        refused(17, "land(0, 0)", RefusalsTest::bare, x -> x.land(0, 0), 1);
        denied(21, "share(0)", RefusalsTest::bare, x -> x.share(0), 6);
        refused(27, "strongest(0)", RefusalsTest::bare, x -> x.strongest(0), 6);
        refused(27, "strongest(1)", RefusalsTest::bare, x -> x.strongest(1), 6);
        refused(28, "least(0)", RefusalsTest::bare, x -> x.least(0), 6);
        refused(29, "wanted(0)", RefusalsTest::bare, x -> x.wanted(0), 6);
        refused(30, "cede(0, 0, 1)", RefusalsTest::bare, x -> x.cede(0, 0, 1), 1);
        refused(32, "sweep(0)", RefusalsTest::bare, x -> x.sweep(0), 1);
        denied(33, "move(0, 0, 0)", RefusalsTest::bare, x -> x.move(0, 0, 0), 1);
        denied(34, "leg(0, 0)", RefusalsTest::bare, x -> x.leg(0, 0), 1);
        refused(39, "island(0, 0)", RefusalsTest::bare, x -> x.island(0, 0), 1);
        refused(41, "joined(0, 0, 0, 0)", RefusalsTest::bare, x -> x.joined(0, 0, 0, 0), 1);
        refused(42, "passes(0, 0, 1)", RefusalsTest::bare, x -> x.passes(0, 0, 1), 1);
        refused(43, "steps(0, 0, 1)", RefusalsTest::bare, x -> x.steps(0, 0, 1), 1);
        refused(44, "reach(0)", RefusalsTest::bare, x -> x.reach(0), 1);
        refused(45, "strait(0)", RefusalsTest::bare, x -> x.strait(0), 6);
        refused(46, "bridge(0)", RefusalsTest::bare, x -> x.bridge(0), 6);
        refused(47, "bridged(1)", RefusalsTest::bare, x -> x.bridged(1), 6);
        refused(48, "give(0, 1)", RefusalsTest::bare, x -> x.give(0, 1), 6);
        refused(49, "giveIn(0, 0, 0)", RefusalsTest::bare, x -> x.giveIn(0, 0, 0), 1);
        refused(50, "ask(1, 1)", RefusalsTest::bare, x -> x.ask(1, 1), 6);
        refused(51, "askIn(0, 0, 0)", RefusalsTest::bare, x -> x.askIn(0, 0, 0), 1);
        refused(52, "price(0, 1)", RefusalsTest::bare, x -> x.price(0, 1), 6);
        refused(53, "peace(0, 0)", RefusalsTest::bare, x -> x.peace(0, 0), 6);
        refused(53, "peace(1, 0)", RefusalsTest::bare, x -> x.peace(1, 0), 1);
        refused(54, "peaceIn(0, 0, 0)", RefusalsTest::bare, x -> x.peaceIn(0, 0, 0), 1);
        refused(56, "sure(1)", RefusalsTest::bare, x -> x.sure(1), 6);
        refused(57, "game(1)", RefusalsTest::bare, x -> x.game(1), 6);
        refused(58, "first(3)", RefusalsTest::bare, x -> x.first(3), 6);
        refused(60, "lived(0)", RefusalsTest::bare, x -> x.lived(0), 6);
        denied(61, "mean(0, 0, 1)", RefusalsTest::bare, x -> x.mean(0, 0, 1), 6);
    }

    /** The calls next to those that were refused above are taken, so that it is not the object that refuses all. */
    private static void nothingInTheWay() {
        ChalkRoom x = rich();
        ChalkRoom y = full();
        DUES.due(48, y, "give of all that LAND 0 has", y.give(0, 6), 0, 0);
        DUES.due(50, y, "ask for all that LAND 1 has", y.ask(0, 9), 0, 0);
        DUES.due(52, y, "price of all", y.price(1, 9), 5, 0);
        DUES.due(30, x, "cede(1, 0, 9)", x.cede(1, 0, 9), 4, 0);
        DUES.due(33, x, "move(3, 4, 2)", x.move(3, 4, 2), true, 0);
        DUES.due(34, x, "leg(3, NONE)", x.leg(3, NONE), true, 0);
        DUES.due(13, x, "told(6)", x.told(6), 2, 0);
        DUES.due(15, x, "thing(3, 5)", x.thing(3, 5), 0, 0);
        DUES.due(60, x, "lived(4)", x.lived(4), 0, 0);
        DUES.due(53, x, "peace(15, 0)", x.peace(15, 0) > 0, true, 0);
        DUES.due(59, x, "live(9999)", x.live(9999), 3, 0);
        DUES.due(61, x, "mean(1, 9980, 20)", x.mean(1, 9980, 20), true, 0);
        DUES.due(62, x, "a third mark()", x.mark(), 3, 0);
        DUES.due(10, x, "room(20)", x.room(20), 0, 0);
        DUES.due(10, "told(3)", x.told(3), 4);
    }

    /** "status(), top(), bottom(), feed(), fault() have none": they leave the STATUS as it was, 0 or another. */
    private static void withoutStatus() {
        for (int round = 0; round < 2; round++) {
            ChalkRoom x = full();
            long want = round == 0 ? 0 : 1;
            long got = round == 0 ? x.chalk() : x.line(9);
            DUES.due(2, "status() of the call", x.status(), want);
            DUES.due(9, "feed() of more than 900", x.feed(1, 2, 3, 4, 5), NONE);
            DUES.due(2, "status() behind feed()", x.status(), want);
            DUES.due(12, "fault(2)", x.fault(2), NONE);
            DUES.due(12, "fault(-1)", x.fault(-1), NONE);
            DUES.due(2, "status() behind fault()", x.status(), want);
            DUES.due(3, "top()", x.top(), 0);
            DUES.due(4, "bottom()", x.bottom(), 1);
            DUES.due(2, "status() behind top(), bottom()", x.status(), want);
            DUES.due(2, "what the call answered", got, round == 0 ? 8 : NONE);
            DUES.due(9, "what is behind calls without a STATUS", all(x, true), all(full(), true));
        }
    }

    // ---- what only tells

    private static void tells(int promise, String call, Call made) {
        ChalkRoom x = rich();
        made.of(x);
        DUES.due(promise, "status() behind " + call, x.status(), 0);
        DUES.due(promise, "what is behind " + call, all(x, true), all(rich(), true));
    }

    private static void tellingsChangeNothing() {
        tells(7, "read", x -> x.read(1, 6));
        tells(8, "pour of none", x -> x.pour(1, 7, 2, 0, 0) ? 1 : 0);
        tells(8, "pour to where they were", x -> x.pour(1, 0, 1, 0, 7) ? 1 : 0);
        tells(13, "told", x -> x.told(0));
        tells(14, "line", x -> x.line(2));
        tells(15, "thing", x -> x.thing(3, 5));
        tells(16, "on", x -> x.on(2, 2));
        tells(17, "land", x -> x.land(4, 2));
        for (int land = 0; land < 2; land++) {
            int l = land;
            tells(18, "boards", x -> x.boards(l));
            tells(19, "value", x -> x.value(l));
            tells(20, "things", x -> x.things(l));
            tells(22, "envy", x -> x.envy(l));
            tells(26, "border", x -> x.border(l));
            tells(27, "strongest", x -> x.strongest(l));
            tells(28, "least", x -> x.least(l));
            tells(29, "wanted", x -> x.wanted(l));
            tells(38, "islands", x -> x.islands(l));
            tells(40, "mainland", x -> x.mainland(l));
            tells(42, "passes", x -> x.passes(l, 0, 1));
            tells(43, "steps", x -> x.steps(l, 1, 3));
            tells(46, "bridge", x -> x.bridge(l));
            tells(47, "bridged", x -> x.bridged(l));
        }
        tells(23, "fair", ChalkRoom::fair);
        tells(24, "chalk", ChalkRoom::chalk);
        tells(25, "bulges", ChalkRoom::bulges);
        tells(39, "island", x -> x.island(1, 1));
        tells(41, "joined", x -> x.joined(0, 0, 4, 2));
        tells(44, "reach", x -> x.reach(2));
        tells(45, "strait", x -> x.strait(0));
        tells(60, "lived", x -> x.lived(4));
        tells(62, "mark() and undo()", x -> x.mark() + x.undo());
    }

    private static void plansChangeNothing() {
        for (int land = 0; land < 2; land++) {
            int l = land;
            tells(48, "give", x -> x.give(l, 5));
            tells(49, "giveIn", x -> x.giveIn(l, 5, 2));
            tells(50, "ask", x -> x.ask(l, 5));
            tells(51, "askIn", x -> x.askIn(l, 5, 2));
            tells(52, "price", x -> x.price(l, 7));
        }
        tells(53, "peace", x -> x.peace(8, 2));
        tells(54, "peaceIn", x -> x.peaceIn(8, 2, 2));
        tells(55, "lines", x -> x.lines(7));
        tells(56, "sure", x -> x.sure(7));
        for (int rounds = 1; rounds <= 3; rounds++) {
            int r = rounds;
            tells(57, "game", x -> x.game(r));
            tells(58, "first", x -> x.first(r));
        }
    }

    /** share() and mean() tell a FRACTION and change nothing else; with another FRACTION told again, all is as it was. */
    private static void fractionsAlone() {
        ChalkRoom x = rich();
        x.mark();
        DUES.due(61, x, "mean(1, 100, 20)", x.mean(1, 100, 20), true, 0);
        DUES.due(63, x, "undo()", x.undo(), 2, 0);
        ChalkRoom y = rich();
        y.share(0);
        ChalkRoom z = rich();
        z.mean(0, 9980, 20);
        z.share(0);
        x.share(0);
        DUES.due(61, "what is behind mean()", all(x, true), all(y, true));
        y = rich();
        y.share(0);
        DUES.due(61, "what is behind mean() and share()", all(z, true), all(y, true));
    }

    /** "STATUS of a call is the first of these that holds": where two hold, the lesser number is told. */
    private static void firstStatusThatHolds() {
        denied(6, "1 ahead of 3", x -> x.write(4, -1, 0), 1);
        denied(6, "2 ahead of 3", x -> x.write(3, -1, 0), 2);
        refused(7, "1 ahead of 3", x -> x.read(-1, 99), 1);
        refused(7, "2 ahead of 3", x -> x.read(3, 99), 2);
        denied(8, "1 ahead of 2", x -> x.pour(3, 0, 4, 0, 1), 1);
        denied(8, "1 ahead of 8", x -> x.pour(0, 0, 1, 0, -1), 1);
        denied(8, "2 ahead of 8", x -> x.pour(0, 0, 3, 0, 1), 2);
        denied(8, "2 ahead of 3", x -> x.pour(3, 99, 0, 99, 99), 2);
        denied(8, "8 ahead of 3", x -> x.pour(0, 99, 1, 99, 99), 8);
        refused(10, "1 ahead of 9", x -> x.room(21), 1);
        refused(11, "1 ahead of 9", RefusalsTest::full, x -> x.talks(301), 1);
        refused(15, "1 ahead of 6", x -> x.thing(4, 4), 1);
        refused(16, "1 ahead of 6", x -> x.on(4, 3), 1);
        denied(21, "1 ahead of 6", RefusalsTest::bare, x -> x.share(2), 1);
        refused(27, "1 ahead of 6", RefusalsTest::bare, x -> x.strongest(-1), 1);
        refused(28, "1 ahead of 6", RefusalsTest::bare, x -> x.least(2), 1);
        refused(29, "1 ahead of 6", RefusalsTest::bare, x -> x.wanted(2), 1);
        refused(30, "1 ahead of 7", RefusalsTest::full, x -> x.cede(0, 2, 10), 1);
        denied(33, "1 ahead of 7", x -> x.move(4, 4, 1), 1);
        denied(36, "3 ahead of 5", RefusalsTest::faraway, x -> x.draw(0), 3);
        refused(42, "1 ahead of 6", RefusalsTest::walled, x -> x.passes(2, 0, 1), 1);
        refused(43, "1 ahead of 6", RefusalsTest::walled, x -> x.steps(-1, 0, 1), 1);
        refused(45, "1 ahead of 6", RefusalsTest::bare, x -> x.strait(2), 1);
        refused(46, "1 ahead of 6", RefusalsTest::bare, x -> x.bridge(2), 1);
        refused(47, "1 ahead of 6", RefusalsTest::bare, x -> x.bridged(2), 1);
        refused(48, "1 ahead of 6", RefusalsTest::bare, x -> x.give(0, 21), 1);
        refused(49, "1 ahead of 6", RefusalsTest::full, x -> x.giveIn(0, 20, 3), 1);
        refused(50, "1 ahead of 6", RefusalsTest::bare, x -> x.ask(0, 21), 1);
        refused(51, "1 ahead of 6", RefusalsTest::full, x -> x.askIn(1, 20, -1), 1);
        refused(52, "1 ahead of 6", x -> x.price(0, 991), 1);
        refused(53, "1 ahead of 6", RefusalsTest::bare, x -> x.peace(0, 1), 1);
        refused(54, "1 ahead of 6", x -> x.peaceIn(4, 4, 3), 1);
        refused(56, "1 ahead of 6", x -> x.sure(64), 1);
        refused(57, "1 ahead of 6", RefusalsTest::bare, x -> x.game(4), 1);
        refused(58, "1 ahead of 6", RefusalsTest::bare, x -> x.first(0), 1);
        refused(59, "1 ahead of 6", RefusalsTest::bare, x -> x.live(10000), 1);
        refused(60, "1 ahead of 6", RefusalsTest::bare, x -> x.lived(5), 1);
        denied(61, "1 ahead of 6", RefusalsTest::bare, x -> x.mean(0, 0, 21), 1);
    }

    /** A TRAY of two numbers, both of which can't be, in a ROOM of three rows. */
    private static ChalkRoom faraway() {
        ChalkRoom x = walled();
        Texts.room(x, "room 1 by 3;");
        x.tray(0, 0, 2);
        x.write(0, 0, 2);
        x.write(0, 1, -1);
        return x;
    }
}
