/**
 * The bounds of the calls, promise by promise: the last that is still taken with what comes of it, the first that is
 * refused, the empty, the full and the wrap-around. Answers are told by hand. (What a refused call leaves as it was:
 * RefusalsTest. The texts: TextEdgesTest.)
 */
public final class CallEdgesTest {
    private static final int NONE = ChalkRoom.NONE;
    private static final Dues DUES = new Dues("CallEdgesTest");

    private CallEdgesTest() {
    }

    public static void main(String[] args) {
        newObject();
        trayNumbers();
        trayPlaces();
        cutToSort();
        pourNone();
        pourOverItself();
        pourAll();
        firstAndLastBoards();
        heldByLeg();
        valueOfAll();
        shareEdges();
        envyEdges();
        fairEdges();
        chalkEdges();
        bulgesByBends();
        borderEdges();
        strongestEdges();
        leastAndWantedEdges();
        yieldAsFarAsItHas();
        yieldedInAll();
        nightByBends();
        nightGoesOnFromMoved();
        sweepRounds();
        moveEdges();
        legEdges();
        drawEdges();
        copyEdges();
        islandEdges();
        wayEdges();
        bigInTheWay();
        reachEdges();
        straitEdges();
        bridgeEdges();
        islandsAskedFirst();
        islandsOfTheRoomAsItIs();
        DUES.end();
    }

    private static ChalkRoom laid(String text) {
        ChalkRoom x = new ChalkRoom();
        Texts.room(x, text);
        DUES.due(10, "status() of '" + text + "'", x.status(), 0);
        return x;
    }

    private static ChalkRoom laid(String text, String talks) {
        ChalkRoom x = laid(text);
        Texts.talks(x, talks);
        DUES.due(11, "status() of '" + talks + "'", x.status(), 0);
        return x;
    }

    /** The LINE as one number, row 0 first. */
    private static long lineOf(ChalkRoom x) {
        long all = 0;
        for (int row = 0; row < x.told(1); row++) {
            all = all * 10 + x.line(row);
        }
        return all;
    }

    /** "A ROOM of no boards; BENDS 9; no THINGS, TALKS, MARKS; TRAYS are MISSING; an empty tape; 0 by 1; STATUS 0." */
    private static void newObject() {
        ChalkRoom x = new ChalkRoom();
        DUES.due(1, "status()", x.status(), 0);
        DUES.due(1, "top()", x.top(), 0);
        DUES.due(1, "bottom()", x.bottom(), 1);
        int[] due = {0, 0, 0, 9, 0, 0, 0};
        for (int what = 0; what < 7; what++) {
            DUES.due(1, x, "told(" + what + ")", x.told(what), due[what], 0);
        }
        for (int land = 0; land < 2; land++) {
            DUES.due(1, x, "boards", x.boards(land), 0, 0);
            DUES.due(1, x, "value", x.value(land), 0, 0);
            DUES.due(1, x, "things", x.things(land), 0, 0);
            DUES.due(1, x, "envy", x.envy(land), 0, 0);
            DUES.due(1, x, "border", x.border(land), 0, 0);
            DUES.due(1, x, "islands", x.islands(land), 0, 0);
            DUES.due(1, x, "mainland", x.mainland(land), 0, 0);
            DUES.due(1, x, "give(.., 0)", x.give(land, 0), 0, 0);
            DUES.due(1, x, "ask(.., 0)", x.ask(land, 0), 0, 0);
            DUES.due(1, x, "price(.., 0)", x.price(land, 0), 0, 0);
        }
        DUES.due(1, x, "fair()", x.fair(), 1, 0);
        DUES.due(1, x, "chalk()", x.chalk(), 0, 0);
        DUES.due(1, x, "bulges()", x.bulges(), 0, 0);
        DUES.due(1, x, "night()", x.night(), 0, 0);
        DUES.due(1, x, "told(6)", x.told(6), 1, 0);
        DUES.due(1, x, "bends(0)", x.bends(0), true, 0);
        DUES.due(1, x, "told(3)", x.told(3), 0, 0);
        DUES.due(1, x, "lines(0)", x.lines(0), 1, 0);
        DUES.due(1, x, "lines(1)", x.lines(1), 0, 0);
        DUES.due(1, x, "lines(63)", x.lines(63), 0, 0);
        DUES.due(1, x, "sure(0)", x.sure(0), 0, 0);
        DUES.due(1, x, "sure(63)", x.sure(63), NONE, 6);
        DUES.due(1, x, "mark()", x.mark(), 1, 0);
        DUES.due(1, x, "undo()", x.undo(), 0, 0);
        DUES.due(1, "an empty tape", x.feed(0, 0, 0, 0, 0), 20);
    }

    // ---- TRAYS

    /** "TRAYS 0 to 3", "0 to 60 numbers", sorts 0 to 3: the first and last of each. */
    private static void trayNumbers() {
        for (int tray = 0; tray < 4; tray++) {
            for (int sort = 0; sort < 4; sort++) {
                ChalkRoom x = new ChalkRoom();
                DUES.due(5, x, "tray(.., 60)", x.tray(tray, sort, 60), true, 0);
                DUES.due(5, x, "the last number", x.read(tray, 59), 0, 0);
                DUES.due(5, x, "one behind it", x.read(tray, 60), NONE, 3);
                for (int other = 0; other < 4; other++) {
                    if (other != tray) {
                        DUES.due(5, x, "the others are MISSING", x.read(other, 0), NONE, 2);
                    }
                }
                DUES.due(5, x, "tray(.., 0)", x.tray(tray, sort, 0), true, 0);
                DUES.due(5, x, "none in an empty one", x.read(tray, 0), NONE, 3);
                DUES.due(5, x, "tray(.., 1)", x.tray(tray, sort, 1), true, 0);
                DUES.due(5, x, "the only number", x.read(tray, 0), 0, 0);
                DUES.due(5, x, "one behind it", x.read(tray, 1), NONE, 3);
            }
        }
    }

    /** The first and the last place; a TRAY made again is all 0s, with the new sort. */
    private static void trayPlaces() {
        ChalkRoom x = new ChalkRoom();
        for (int tray = 0; tray < 4; tray++) {
            x.tray(tray, 3, 60);
        }
        for (int tray = 0; tray < 4; tray++) {
            DUES.due(6, x, "write to the first", x.write(tray, 0, 100 + tray), true, 0);
            DUES.due(6, x, "write to the last", x.write(tray, 59, 200 + tray), true, 0);
        }
        for (int tray = 0; tray < 4; tray++) {
            DUES.due(7, x, "the first", x.read(tray, 0), 100 + tray, 0);
            DUES.due(7, x, "the second", x.read(tray, 1), 0, 0);
            DUES.due(7, x, "the last but one", x.read(tray, 58), 0, 0);
            DUES.due(7, x, "the last", x.read(tray, 59), 200 + tray, 0);
        }
        DUES.due(5, x, "made again, smaller", x.tray(1, 0, 1), true, 0);
        DUES.due(5, x, "0", x.read(1, 0), 0, 0);
        DUES.due(5, x, "by its new sort", x.write(1, 0, 300), true, 0);
        DUES.due(5, x, "cut", x.read(1, 0), 44, 0);
        DUES.due(5, x, "made again, greater", x.tray(1, 3, 60), true, 0);
        for (int place = 0; place < 60; place++) {
            DUES.due(5, x, "all 0s", x.read(1, place), 0, 0);
        }
        DUES.due(5, "the others are as they were", x.read(0, 59) + x.read(2, 0), 302);
    }

    private static void cut(int sort, long v, long due) {
        ChalkRoom x = new ChalkRoom();
        x.tray(2, sort, 2);
        DUES.due(6, x, "write(2, 1, " + v + ") by sort " + sort, x.write(2, 1, v), true, 0);
        DUES.due(6, x, "read(2, 1) of " + v + " by sort " + sort, x.read(2, 1), due, 0);
        DUES.due(6, x, "read(2, 0) beside it", x.read(2, 0), 0, 0);
    }

    /** "Cut to its sort": 8, 16, 32, 64 bits, the last that fits and the first that wraps around, at either end. */
    private static void cutToSort() {
        for (int sort = 0; sort < 3; sort++) {
            long half = 1L << (8 << sort) - 1;
            cut(sort, 0, 0);
            cut(sort, -1, -1);
            cut(sort, half - 1, half - 1);
            cut(sort, half, -half);
            cut(sort, 2 * half - 1, -1);
            cut(sort, 2 * half, 0);
            cut(sort, 2 * half + 5, 5);
            cut(sort, -half, -half);
            cut(sort, -half - 1, half - 1);
            cut(sort, Long.MAX_VALUE, -1);
            cut(sort, Long.MIN_VALUE, 0);
        }
        cut(3, Long.MAX_VALUE, Long.MAX_VALUE);
        cut(3, Long.MIN_VALUE, Long.MIN_VALUE);
        cut(3, -1, -1);
    }

    private static ChalkRoom counted(int many) {
        ChalkRoom x = new ChalkRoom();
        x.tray(0, 1, many);
        x.tray(1, 1, many);
        for (int i = 0; i < many; i++) {
            x.write(0, i, i + 1);
        }
        return x;
    }

    /** Of 0 numbers: fine from the first place to the one behind the last, in an empty TRAY too. */
    private static void pourNone() {
        ChalkRoom x = counted(3);
        x.tray(2, 1, 0);
        DUES.due(8, x, "from and to the first", x.pour(0, 0, 1, 0, 0), true, 0);
        DUES.due(8, x, "of an empty one", x.pour(2, 0, 2, 0, 0), true, 0);
        DUES.due(8, x, "from far away", x.pour(0, 4, 1, 0, 0), false, 3);
        DUES.due(8, x, "to far away", x.pour(0, 0, 1, 4, 0), false, 3);
        DUES.due(8, "nothing came", x.read(1, 0), 0);
    }

    /** "Or its own": "as they were", whichever way they go. */
    private static void pourOverItself() {
        ChalkRoom x = counted(5);
        DUES.due(8, x, "one up", x.pour(0, 0, 0, 1, 4), true, 0);
        int[] up = {1, 1, 2, 3, 4};
        for (int i = 0; i < 5; i++) {
            DUES.due(8, x, "read(0, " + i + ")", x.read(0, i), up[i], 0);
        }
        ChalkRoom y = counted(5);
        DUES.due(8, y, "two down", y.pour(0, 2, 0, 0, 3), true, 0);
        int[] down = {3, 4, 5, 4, 5};
        for (int i = 0; i < 5; i++) {
            DUES.due(8, y, "read(0, " + i + ")", y.read(0, i), down[i], 0);
        }
    }

    /** All 60 numbers; the last one alone; one too many of each. */
    private static void pourAll() {
        ChalkRoom x = counted(60);
        DUES.due(8, x, "61 numbers", x.pour(0, 0, 1, 0, 61), false, 3);
        DUES.due(8, x, "all from the second", x.pour(0, 1, 1, 0, 60), false, 3);
        DUES.due(8, x, "all to the second", x.pour(0, 0, 1, 1, 60), false, 3);
        DUES.due(8, x, "nothing came", x.read(1, 0), 0, 0);
        DUES.due(8, x, "the last to the first", x.pour(0, 59, 1, 0, 1), true, 0);
        DUES.due(8, x, "the last", x.read(1, 0), 60, 0);
        DUES.due(8, x, "nothing else", x.read(1, 1), 0, 0);
        DUES.due(8, x, "the first to the last", x.pour(0, 0, 1, 59, 1), true, 0);
        DUES.due(8, x, "the first", x.read(1, 59), 1, 0);
        DUES.due(8, x, "60 numbers", x.pour(0, 0, 1, 0, 60), true, 0);
        for (int i = 0; i < 60; i++) {
            DUES.due(8, "read(1, " + i + ")", x.read(1, i), i + 1);
        }
        ChalkRoom y = new ChalkRoom();
        y.tray(0, 3, 1);
        y.tray(3, 3, 2);
        y.write(0, 0, Long.MIN_VALUE);
        DUES.due(8, y, "from the first TRAY to the last", y.pour(0, 0, 3, 1, 1), true, 0);
        DUES.due(8, y, "64 bits", y.read(3, 1), Long.MIN_VALUE, 0);
    }

    // ---- who HOLDS what

    private static void firstAndLastBoards() {
        ChalkRoom x = laid("room 9 by 7;thing a at 0 0 worth 1 1;thing b at 8 6 worth 1 1;thing c at 8 0 worth 1 1;");
        DUES.due(16, x, "on(0, 0)", x.on(0, 0), 0, 0);
        DUES.due(16, x, "on(8, 6)", x.on(8, 6), 1, 0);
        DUES.due(16, x, "on(8, 0)", x.on(8, 0), 2, 0);
        DUES.due(16, x, "on(0, 6)", x.on(0, 6), NONE, 6);
        DUES.due(16, x, "on(9, 6)", x.on(9, 6), NONE, 1);
        DUES.due(16, x, "on(8, 7)", x.on(8, 7), NONE, 1);
        DUES.due(17, x, "land(3, 0): the last of LAND 0", x.land(3, 0), 0, 0);
        DUES.due(17, x, "land(4, 0): the first of LAND 1", x.land(4, 0), 1, 0);
        DUES.due(17, x, "land(8, 6)", x.land(8, 6), 1, 0);
        DUES.due(17, x, "land(9, 6)", x.land(9, 6), NONE, 1);
        DUES.due(17, x, "land(8, 7)", x.land(8, 7), NONE, 1);
        DUES.due(14, x, "line(6)", x.line(6), 4, 0);
        DUES.due(18, x, "boards(0)", x.boards(0), 28, 0);
        DUES.due(18, x, "boards(1)", x.boards(1), 35, 0);
        ChalkRoom y = laid("room 2 by 1;line 0;");
        DUES.due(17, y, "a LINE of 0: the first board", y.land(0, 0), 1, 0);
        DUES.due(18, y, "boards(0)", y.boards(0), 0, 0);
        ChalkRoom z = laid("room 2 by 1;line 2;");
        DUES.due(17, z, "a LINE of WIDE: the last board", z.land(1, 0), 0, 0);
        DUES.due(18, z, "boards(1)", z.boards(1), 0, 0);
    }

    /** "But a board with a THING with a LEG is HELD by the LAND of that", wherever the LINE runs. */
    private static void heldByLeg() {
        ChalkRoom x = laid("room 2 by 1;line 2;thing a at 0 0 worth 5 7 leg 1;thing b at 1 0 worth 6 8 leg 0;");
        DUES.due(17, x, "land(0, 0)", x.land(0, 0), 1, 0);
        DUES.due(17, x, "land(1, 0)", x.land(1, 0), 0, 0);
        DUES.due(18, x, "boards(0)", x.boards(0), 1, 0);
        DUES.due(18, x, "boards(1)", x.boards(1), 1, 0);
        DUES.due(30, x, "cede(0, 0, 9): by the LINE LAND 0 has both", x.cede(0, 0, 9), 2, 0);
        DUES.due(17, x, "land(1, 0)", x.land(1, 0), 0, 0);
        DUES.due(18, x, "boards(0)", x.boards(0), 1, 0);
        DUES.due(19, x, "value(0)", x.value(0), 6, 0);
        DUES.due(19, x, "value(1)", x.value(1), 7, 0);
        DUES.due(30, x, "cede(0, 0, 1): none by the LINE", x.cede(0, 0, 1), NONE, 7);
        DUES.due(20, x, "things(0)", x.things(0), 2, 0);
        DUES.due(20, x, "things(1)", x.things(1), 1, 0);
    }

    private static String tenThings(String tail) {
        StringBuilder text = new StringBuilder("room 9 by 7;");
        for (int i = 0; i < 10; i++) {
            text.append("thing ").append((char) ('a' + i)).append(" at ").append(i % 9).append(' ').append(i / 9)
                .append(" worth 99 99").append(tail).append(';');
        }
        return text.toString();
    }

    /** Ten THINGS of 99: the greatest VALUE, the fullest set. */
    private static void valueOfAll() {
        ChalkRoom x = laid(tenThings(" leg 0"));
        DUES.due(19, x, "value(0)", x.value(0), 990, 0);
        DUES.due(19, x, "value(1)", x.value(1), 0, 0);
        DUES.due(20, x, "things(0)", x.things(0), 1023, 0);
        DUES.due(20, x, "things(1)", x.things(1), 0, 0);
        DUES.due(22, x, "envy(0)", x.envy(0), -990, 0);
        DUES.due(22, x, "envy(1)", x.envy(1), 990, 0);
        DUES.due(57, x, "game(3)", x.game(3), 990, 0);
        DUES.due(52, x, "price(0, 990)", x.price(0, 990), 0, 0);
        DUES.due(52, x, "price(1, 1)", x.price(1, 1), NONE, 6);
    }

    /** "Without a common divisor, the bottom above 0; 0 is 0 by 1." */
    private static void shareEdges() {
        ChalkRoom x = laid("room 3 by 1;line 1;thing a at 0 0 worth 40 0;thing b at 1 0 worth 60 99;thing c at 2 0 worth 20 1;");
        DUES.due(21, x, "share(0)", x.share(0), true, 0);
        DUES.due(3, "40 by 120", x.top(), 1);
        DUES.due(4, "40 by 120", x.bottom(), 3);
        DUES.due(21, x, "share(1)", x.share(1), true, 0);
        DUES.due(3, "100 by 100", x.top(), 1);
        DUES.due(4, "100 by 100", x.bottom(), 1);
        x.cede(0, 0, 1);
        DUES.due(21, x, "share(0)", x.share(0), true, 0);
        DUES.due(3, "0 by 120", x.top(), 0);
        DUES.due(4, "0 by 120", x.bottom(), 1);
        x.cede(1, 0, 2);
        x.share(0);
        DUES.due(3, "100 by 120", x.top(), 5);
        DUES.due(4, "100 by 120", x.bottom(), 6);
        x.share(1);
        DUES.due(3, "1 by 100", x.top(), 1);
        DUES.due(4, "1 by 100", x.bottom(), 100);
        ChalkRoom y = laid("room 2 by 1;thing a at 0 0 worth 0 1;thing b at 1 0 worth 0 0;");
        DUES.due(21, y, "no THING is of any WORTH to LAND 0", y.share(0), false, 6);
        DUES.due(21, y, "one is of WORTH 1 to LAND 1", y.share(1), true, 0);
        DUES.due(3, "top()", y.top(), 0);
        DUES.due(21, y, "share(0) again", y.share(0), false, 6);
        DUES.due(4, "bottom() as it was", y.bottom(), 1);
        ChalkRoom z = laid("room 2 by 1;");
        DUES.due(21, z, "no THINGS", z.share(0), false, 6);
    }

    /** "The WORTH to it of what the other HOLDS, less its VALUE": 1, 0, -1. */
    private static void envyEdges() {
        int[][] worths = {{5, 6, 1}, {6, 6, 0}, {6, 5, -1}};
        for (int[] w : worths) {
            ChalkRoom x = laid("room 2 by 1;thing a at 0 0 worth " + w[0] + " 0;thing b at 1 0 worth " + w[1] + " 1;");
            DUES.due(22, x, "envy(0)", x.envy(0), w[2], 0);
            DUES.due(22, x, "envy(1)", x.envy(1), -1, 0);
            DUES.due(22, x, "envy(2)", x.envy(2), NONE, 1);
        }
    }

    /** "FAIR: no LAND's ENVY is above 0": 0 is fair, 1 of either LAND is not. */
    private static void fairEdges() {
        String[] worths = {"3 4;3 4", "3 4;4 4", "3 5;3 4", "4 4;3 5", "0 0;0 0"};
        int[] due = {1, 0, 0, 1, 1};
        for (int i = 0; i < worths.length; i++) {
            String[] w = worths[i].split(";");
            ChalkRoom x = laid("room 2 by 1;thing a at 0 0 worth " + w[0] + ";thing b at 1 0 worth " + w[1] + ";");
            DUES.due(23, x, "fair() of " + worths[i], x.fair(), due[i], 0);
        }
    }

    /** "DEEP, and by how much the LINE differs": the least and the most there can be. */
    private static void chalkEdges() {
        DUES.due(24, "of no rows", new ChalkRoom().chalk(), 0);
        DUES.due(24, "of one row", laid("room 9 by 1;line 9;").chalk(), 1);
        DUES.due(24, "straight", laid("room 9 by 7;line 9 9 9 9 9 9 9;").chalk(), 7);
        DUES.due(24, "to and fro", laid("room 9 by 7;line 0 9 0 9 0 9 0;").chalk(), 61);
        DUES.due(24, "the last row counts", laid("room 9 by 7;line 0 0 0 0 0 0 5;").chalk(), 12);
    }

    /** "By more than BENDS": by just that is none. */
    private static void bulgesByBends() {
        ChalkRoom x = laid("room 9 by 7;line 0 9 0 8 0 7 7;");
        // The rows differ by 9, 9, 8, 8, 7, 0.
        int[] due = {5, 5, 5, 5, 5, 5, 5, 4, 2, 0};
        for (int n = 0; n <= 9; n++) {
            x.bends(n);
            DUES.due(25, x, "bulges() by BENDS " + n, x.bulges(), due[n], 0);
        }
        DUES.due(25, "of one row", laid("room 9 by 1;bends 0;line 9;").bulges(), 0);
        DUES.due(25, "of two rows", laid("room 9 by 2;bends 0;line 9 8;").bulges(), 1);
    }

    private static void borderEdges() {
        ChalkRoom x = laid("room 9 by 7;");
        DUES.due(26, x, "border(0)", x.border(0), 7, 0);
        DUES.due(26, x, "border(1)", x.border(1), 7, 0);
        ChalkRoom y = laid("room 9 by 7;line 9 0 9 0 9 0 9;");
        DUES.due(26, y, "rows by turns: all of LAND 0", y.border(0), 36, 0);
        DUES.due(26, y, "rows by turns: all of LAND 1", y.border(1), 27, 0);
        ChalkRoom z = laid("room 1 by 1;line 0;");
        DUES.due(26, z, "one board", z.border(1), 0, 0);
        DUES.due(26, z, "no board", z.border(0), 0, 0);
        ChalkRoom v = laid("room 3 by 3;line 1 0 0;");
        DUES.due(26, v, "the first board alone", v.border(0), 1, 0);
        DUES.due(26, v, "those beside and behind it", v.border(1), 2, 0);
        ChalkRoom u = laid("room 3 by 3;line 3 3 2;");
        DUES.due(26, u, "the last board alone", u.border(1), 1, 0);
        DUES.due(26, u, "those beside and ahead of it", u.border(0), 2, 0);
        ChalkRoom w = laid("room 3 by 3;line 0 0 0;thing a at 1 1 worth 0 0 leg 0;");
        DUES.due(26, w, "one island", w.border(0), 1, 0);
        DUES.due(26, w, "corners do not touch it", w.border(1), 4, 0);
    }

    private static void strongestEdges() {
        ChalkRoom x = laid("room 3 by 4;line 0 3 3 0;");
        DUES.due(27, x, "of several the first", x.strongest(0), 1, 0);
        DUES.due(27, x, "of several the first", x.strongest(1), 0, 0);
        ChalkRoom y = laid("room 3 by 4;line 0 0 0 1;");
        DUES.due(27, y, "the last row", y.strongest(0), 3, 0);
        ChalkRoom z = laid("room 3 by 2;line 0 0;");
        DUES.due(27, z, "none in any row", z.strongest(0), 0, 0);
        ChalkRoom w = laid("room 2 by 2;line 1 0;thing a at 0 1 worth 0 0 leg 0;thing b at 1 1 worth 0 0 leg 0;");
        DUES.due(27, w, "by the LINE, not by LEGS", w.strongest(0), 0, 0);
    }

    private static void leastAndWantedEdges() {
        ChalkRoom x = laid("room 4 by 1;line 2;thing a at 3 0 worth 99 5;thing b at 0 0 worth 7 0;thing c at 1 0 worth 7 0;"
            + "thing d at 2 0 worth 99 5;");
        DUES.due(28, x, "least(0): of several the first", x.least(0), 1, 0);
        DUES.due(28, x, "least(1): of several the first", x.least(1), 0, 0);
        DUES.due(29, x, "wanted(0): of several the first", x.wanted(0), 0, 0);
        DUES.due(29, x, "wanted(1), by 0: of several the first", x.wanted(1), 1, 0);
        x.cede(0, 0, 2);
        DUES.due(28, x, "least(0) of none", x.least(0), NONE, 6);
        DUES.due(29, x, "wanted(1) of none", x.wanted(1), NONE, 6);
        DUES.due(28, x, "least(1), by 0", x.least(1), 1, 0);
        x.leg(3, 0);
        DUES.due(28, x, "least(0) by a LEG", x.least(0), 3, 0);
        DUES.due(29, x, "wanted(1) by a LEG", x.wanted(1), 3, 0);
    }

    // ---- what is done

    /** "Gives n boards (1 to 9) of a row: the LINE there moves by n, as far as it has such." */
    private static void yieldAsFarAsItHas() {
        for (int has = 0; has <= 9; has++) {
            for (int n = 1; n <= 9; n++) {
                ChalkRoom x = laid("room 9 by 2;line " + has + " 5;");
                int moved = Math.min(has, n);
                DUES.due(30, x, "cede(0, 0, " + n + ") of " + has, x.cede(0, 0, n), moved == 0 ? NONE : moved, moved == 0 ? 7 : 0);
                DUES.due(30, "the LINE", lineOf(x), (has - moved) * 10 + 5);
                ChalkRoom y = laid("room 9 by 2;line 5 " + (9 - has) + ";");
                DUES.due(30, y, "cede(1, 1, " + n + ") of " + has, y.cede(1, 1, n), moved == 0 ? NONE : moved, moved == 0 ? 7 : 0);
                DUES.due(30, "the LINE", lineOf(y), 50 + 9 - has + moved);
            }
        }
    }

    /** told(4), told(5): what moved counts, not what was asked for; live() counts too, NIGHT, SWEEP, draw do not. */
    private static void yieldedInAll() {
        ChalkRoom x = laid("room 9 by 3;line 4 4 4;bends 0;", "yield 0 1 9;yield 0 1 9;yield 1 2 3;");
        x.cede(0, 0, 9);
        x.cede(0, 0, 9);
        x.cede(1, 0, 1);
        DUES.due(13, "told(4)", x.told(4), 4);
        DUES.due(13, "told(5)", x.told(5), 1);
        x.night();
        x.sweep(1);
        x.tray(0, 0, 3);
        x.draw(0);
        DUES.due(13, "told(4) behind others", x.told(4), 4);
        DUES.due(13, "told(5) behind others", x.told(5), 1);
        x.live(0);
        DUES.due(13, "told(4) behind live()", x.told(4), 4);
        DUES.due(13, "told(5) behind live()", x.told(5), 4);
        DUES.due(60, "lived(1): by LAND 0 in it alone", x.lived(1), 0);
        DUES.due(60, "lived(2): by LAND 1 in it alone", x.lived(2), 3);
        DUES.due(60, "lived(0)", x.lived(0), 2);
    }

    /** "If the LINE differs by more than BENDS, it moves till it differs by just that", up or down. */
    private static void nightByBends() {
        for (int bends = 0; bends <= 9; bends++) {
            for (int there = 0; there <= 9; there++) {
                ChalkRoom x = laid("room 9 by 2;line 4 " + there + ";bends " + bends + ";");
                int due = Math.max(4 - bends, Math.min(4 + bends, there));
                DUES.due(31, x, "night() by BENDS " + bends, x.night(), due == there ? 0 : 1, 0);
                DUES.due(31, "the LINE", lineOf(x), 40 + due);
                DUES.due(31, "told(6)", x.told(6), 1);
            }
        }
    }

    /** "Row by row, from row 1 on": a row that moved is the row ahead of the next; row 0 never moves. */
    private static void nightGoesOnFromMoved() {
        ChalkRoom x = laid("room 9 by 7;line 0 9 9 9 9 9 9;bends 1;");
        DUES.due(31, x, "night()", x.night(), 6, 0);
        DUES.due(31, "the LINE", lineOf(x), 123456);
        ChalkRoom y = laid("room 9 by 3;line 9 0 0;bends 0;");
        DUES.due(31, y, "night()", y.night(), 2, 0);
        DUES.due(31, "the LINE", lineOf(y), 999);
        ChalkRoom z = laid("room 9 by 3;line 9 0 7;bends 2;");
        DUES.due(31, z, "night(): the last row is near enough then", z.night(), 1, 0);
        DUES.due(31, "the LINE", lineOf(z), 977);
        ChalkRoom w = laid("room 9 by 1;line 9;bends 0;");
        DUES.due(31, w, "night() of one row", w.night(), 0, 0);
        DUES.due(31, "told(6)", w.told(6), 1);
    }

    /** "The middle of those of the rows ahead and behind, rounded down (of one, where there is but one)". */
    private static void sweepRounds() {
        for (int ahead = 0; ahead <= 9; ahead++) {
            for (int behind = 0; behind <= 9; behind++) {
                ChalkRoom x = laid("room 9 by 3;line " + ahead + " 0 " + behind + ";");
                DUES.due(32, x, "sweep(1)", x.sweep(1), (ahead + behind) / 2, 0);
                DUES.due(32, "the LINE", lineOf(x), ahead * 100 + (ahead + behind) / 2 * 10 + behind);
            }
        }
        ChalkRoom y = laid("room 9 by 3;line 9 4 1;");
        DUES.due(32, y, "sweep(0): there is but the row behind", y.sweep(0), 4, 0);
        DUES.due(32, y, "sweep(2): there is but the row ahead", y.sweep(2), 4, 0);
        ChalkRoom z = laid("room 9 by 1;line 9;");
        DUES.due(32, z, "sweep(0): there is none", z.sweep(0), 9, 0);
    }

    private static void moveEdges() {
        ChalkRoom x = laid("room 9 by 7;thing a at 0 0 worth 1 2;thing b at 8 6 worth 3 4 leg 0 big;");
        DUES.due(33, x, "to its own board", x.move(0, 0, 0), false, 7);
        DUES.due(33, x, "to that of another one", x.move(0, 8, 6), false, 7);
        DUES.due(33, x, "to the last column", x.move(0, 8, 0), true, 0);
        DUES.due(33, x, "to the last row", x.move(0, 0, 6), true, 0);
        DUES.due(33, x, "to the board it left", x.move(1, 0, 0), true, 0);
        DUES.due(33, x, "to the board the other left", x.move(0, 8, 6), true, 0);
        DUES.due(33, x, "on(0, 0)", x.on(0, 0), 1, 0);
        DUES.due(33, x, "on(8, 6)", x.on(8, 6), 0, 0);
        DUES.due(33, x, "on(0, 6)", x.on(0, 6), NONE, 6);
        DUES.due(33, "the LEG goes with it", x.land(0, 0) * 10 + x.land(8, 6), 1);
        DUES.due(33, "it stays BIG", x.thing(1, 5), 1);
        ChalkRoom y = laid("room 1 by 1;thing a at 0 0 worth 1 1;");
        DUES.due(33, y, "no other board", y.move(0, 0, 0), false, 7);
    }

    private static void legEdges() {
        ChalkRoom x = laid("room 2 by 1;thing a at 0 0 worth 1 1;");
        DUES.due(34, x, "none to be taken away", x.leg(0, NONE), true, 0);
        DUES.due(34, x, "thing(0, 4)", x.thing(0, 4), NONE, 6);
        DUES.due(34, x, "leg(0, 1)", x.leg(0, 1), true, 0);
        DUES.due(34, x, "thing(0, 4)", x.thing(0, 4), 1, 0);
        DUES.due(34, x, "land(0, 0)", x.land(0, 0), 1, 0);
        DUES.due(34, x, "leg(0, 0)", x.leg(0, 0), true, 0);
        DUES.due(34, x, "thing(0, 4)", x.thing(0, 4), 0, 0);
        x.cede(0, 0, 1);
        DUES.due(34, x, "land(0, 0)", x.land(0, 0), 0, 0);
        DUES.due(34, x, "leg(0, NONE)", x.leg(0, NONE), true, 0);
        DUES.due(34, x, "land(0, 0)", x.land(0, 0), 1, 0);
        DUES.due(34, x, "leg(0, -2)", x.leg(0, -2), false, 1);
        DUES.due(34, x, "leg(0, 2)", x.leg(0, 2), false, 1);
    }

    /** "The first DEEP numbers"; "below 0, above WIDE". */
    private static void drawEdges() {
        for (int sort = 0; sort < 4; sort++) {
            ChalkRoom x = laid("room 5 by 3;line 1 2 3;");
            x.tray(3, sort, 3);
            x.write(3, 0, 5);
            x.write(3, 2, 5);
            DUES.due(36, x, "just DEEP numbers, 0 and WIDE", x.draw(3), true, 0);
            DUES.due(36, "the LINE", lineOf(x), 505);
            x.write(3, 0, 1);
            for (int place = 0; place < 3; place++) {
                for (int v : new int[] {-1, 6}) {
                    long was = x.read(3, place);
                    x.write(3, place, v);
                    DUES.due(36, x, v + " in place " + place, x.draw(3), false, 5);
                    DUES.due(36, "the LINE as it was", lineOf(x), 505);
                    x.write(3, place, was);
                }
            }
            DUES.due(36, x, "without them", x.draw(3), true, 0);
            DUES.due(36, "the LINE", lineOf(x), 105);
            x.tray(3, sort, 2);
            DUES.due(36, x, "one too few", x.draw(3), false, 3);
            x.tray(3, sort, 60);
            x.write(3, 3, 99);
            DUES.due(36, x, "what is behind the first DEEP is not minded", x.draw(3), true, 0);
            DUES.due(36, "the LINE", lineOf(x), 0);
        }
        ChalkRoom y = laid("room 5 by 1;");
        y.tray(0, 3, 1);
        for (long v : new long[] {1L << 32, 1L << 63, (1L << 32) + 3, Long.MAX_VALUE}) {
            y.write(0, 0, v);
            DUES.due(36, y, "draw of " + v, y.draw(0), false, 5);
        }
        ChalkRoom w = laid("room 9 by 7;");
        for (int many : new int[] {7, 60}) {
            w.tray(2, 0, many);
            for (int row = 0; row < 7; row++) {
                w.write(2, row, 9 - row);
            }
            DUES.due(36, w, "seven rows of a TRAY of " + many, w.draw(2), true, 0);
            DUES.due(36, "the LINE", lineOf(w), 9876543);
        }
        ChalkRoom z = laid("room 5 by 2;bends 0;");
        z.tray(0, 0, 2);
        z.write(0, 1, 5);
        DUES.due(36, z, "BENDS are not minded", z.draw(0), true, 0);
        DUES.due(36, "the LINE", lineOf(z), 5);
    }

    private static void copyEdges() {
        ChalkRoom x = laid("room 9 by 7;line 9 0 1 8 2 7 3;");
        for (int sort = 0; sort < 4; sort++) {
            x.tray(sort, sort, 7);
            DUES.due(37, x, "just DEEP places", x.copy(sort), 7, 0);
            int[] due = {9, 0, 1, 8, 2, 7, 3};
            for (int row = 0; row < 7; row++) {
                DUES.due(37, "read(.., " + row + ")", x.read(sort, row), due[row]);
            }
        }
        x.tray(0, 0, 6);
        DUES.due(37, x, "one too few", x.copy(0), NONE, 3);
        DUES.due(37, "nothing came", x.read(0, 0), 0);
        x.tray(0, 0, 8);
        x.write(0, 7, 55);
        DUES.due(37, x, "one more", x.copy(0), 7, 0);
        DUES.due(37, "it is as it was", x.read(0, 7), 55);
        ChalkRoom y = new ChalkRoom();
        DUES.due(37, y, "without rows, MISSING", y.copy(0), NONE, 2);
        y.tray(0, 0, 0);
        DUES.due(37, y, "without rows, to an empty one", y.copy(0), 0, 0);
        DUES.due(36, y, "without rows, from an empty one", y.draw(0), true, 0);
    }

    // ---- ISLANDS, WAYS

    private static void islandEdges() {
        ChalkRoom x = laid("room 9 by 7;line 9 9 9 9 9 9 9;");
        DUES.due(38, x, "islands(0): one of all", x.islands(0), 1, 0);
        DUES.due(39, x, "island(8, 6)", x.island(8, 6), 63, 0);
        DUES.due(40, x, "mainland(0)", x.mainland(0), 63, 0);
        DUES.due(38, x, "islands(1): none", x.islands(1), 0, 0);
        DUES.due(40, x, "mainland(1): none", x.mainland(1), 0, 0);
        DUES.due(41, x, "joined(0, 0, 8, 6)", x.joined(0, 0, 8, 6), 1, 0);
        ChalkRoom y = laid("room 1 by 1;");
        DUES.due(38, y, "islands(1)", y.islands(1), 1, 0);
        DUES.due(39, y, "island(0, 0)", y.island(0, 0), 1, 0);
        DUES.due(41, y, "joined with itself", y.joined(0, 0, 0, 0), 1, 0);
        ChalkRoom z = laid("room 9 by 7;line 9 0 9 0 9 0 9;");
        DUES.due(38, z, "rows by turns", z.islands(0), 4, 0);
        DUES.due(38, z, "rows by turns", z.islands(1), 3, 0);
        DUES.due(39, z, "island(4, 3)", z.island(4, 3), 9, 0);
        DUES.due(41, z, "a row apart", z.joined(4, 0, 4, 2), 0, 0);
        DUES.due(41, z, "of two LANDS", z.joined(4, 0, 4, 1), 0, 0);
        // Ten LEGS corner to corner: as many ISLANDS.
        StringBuilder text = new StringBuilder("room 9 by 7;line 0 0 0 0 0 0 0;");
        for (int i = 0; i < 10; i++) {
            text.append("thing ").append((char) ('a' + i)).append(" at ").append(2 * i % 9).append(' ').append(2 * i / 9)
                .append(" worth 0 0 leg 0;");
        }
        ChalkRoom w = laid(text.toString());
        DUES.due(38, w, "corner to corner", w.islands(0), 10, 0);
        DUES.due(40, w, "each of one board", w.mainland(0), 1, 0);
        // The last row end to the next row's beginning is not side by side.
        ChalkRoom v = laid("room 3 by 2;line 0 0;thing a at 2 0 worth 0 0 leg 0;thing b at 0 1 worth 0 0 leg 0;");
        DUES.due(41, v, "the end of a row and the beginning of the next", v.joined(2, 0, 0, 1), 0, 0);
        ChalkRoom u = laid("room 9 by 2;line 0 0;thing a at 8 0 worth 0 0 leg 0;thing b at 0 1 worth 0 0 leg 0;");
        DUES.due(41, u, "the end of a row and the beginning of the next", u.joined(8, 0, 0, 1), 0, 0);
        DUES.due(26, u, "border(0)", u.border(0), 2, 0);
        DUES.due(26, u, "border(1)", u.border(1), 4, 0);
    }

    /** "The first, the last count, too"; of those with the fewest PASSES the fewest STEPS. */
    private static void wayEdges() {
        ChalkRoom x = laid("room 9 by 7;line 0 0 0 0 0 0 0;thing a at 0 0 worth 0 0;thing b at 8 6 worth 0 0;thing c at 1 0 worth 0 0;");
        DUES.due(42, x, "side by side through the other LAND", x.passes(0, 0, 2), 2, 0);
        DUES.due(43, x, "side by side", x.steps(0, 0, 2), 1, 0);
        DUES.due(42, x, "side by side at home", x.passes(1, 0, 2), 0, 0);
        DUES.due(43, x, "side by side at home", x.steps(1, 2, 0), 1, 0);
        DUES.due(42, x, "from corner to corner", x.passes(0, 0, 1), 15, 0);
        DUES.due(43, x, "from corner to corner", x.steps(0, 0, 1), 14, 0);
        x.leg(0, 0);
        DUES.due(42, x, "the first is at home", x.passes(0, 0, 1), 14, 0);
        x.leg(1, 0);
        DUES.due(42, x, "the last too", x.passes(0, 0, 1), 13, 0);
        DUES.due(42, x, "the first and the last count for the other", x.passes(1, 0, 1), 2, 0);
        // The longest WAY at home: rows by turns, joined at their ends by LEGS.
        ChalkRoom y = laid("room 9 by 7;line 9 0 9 0 9 0 9;thing p at 8 1 worth 0 0 leg 0;thing q at 0 3 worth 0 0 leg 0;"
            + "thing r at 8 5 worth 0 0 leg 0;thing a at 0 0 worth 0 0;thing b at 0 6 worth 0 0;");
        DUES.due(42, y, "home all along", y.passes(0, 3, 4), 0, 0);
        DUES.due(43, y, "38 STEPS", y.steps(0, 3, 4), 38, 0);
        DUES.due(42, y, "passes(1, ..)", y.passes(1, 3, 4), 4, 0);
        DUES.due(43, y, "steps(1, ..)", y.steps(1, 3, 4), 8, 0);
    }

    /** "None with a BIG THING (but the first, the last)". */
    private static void bigInTheWay() {
        ChalkRoom x = laid("room 3 by 1;line 3;thing a at 0 0 worth 0 0 big;thing b at 2 0 worth 0 0 big;thing c at 1 0 worth 0 0;");
        DUES.due(43, x, "from BIG to BIG past a little one", x.steps(0, 0, 1), 2, 0);
        ChalkRoom y = laid("room 3 by 1;line 3;thing a at 0 0 worth 0 0;thing b at 2 0 worth 0 0;thing c at 1 0 worth 0 0 big;");
        DUES.due(42, y, "a BIG one between", y.passes(0, 0, 1), NONE, 6);
        DUES.due(43, y, "a BIG one between", y.steps(0, 0, 1), NONE, 6);
        DUES.due(43, y, "to the BIG one", y.steps(0, 0, 2), 1, 0);
        DUES.due(43, y, "from the BIG one", y.steps(0, 2, 1), 1, 0);
        DUES.due(44, y, "BIG ones not minded", y.reach(0), 7, 0);
        ChalkRoom w = laid("room 3 by 1;line 3;thing c at 1 0 worth 0 0 big;thing a at 0 0 worth 0 0;thing b at 2 0 worth 0 0;");
        DUES.due(42, w, "the first THING is the BIG one between", w.passes(0, 1, 2), NONE, 6);
        ChalkRoom z = laid("room 3 by 2;line 3 0;thing a at 0 0 worth 0 0;thing b at 2 0 worth 0 0;thing c at 1 0 worth 0 0 big;");
        DUES.due(42, z, "around it through the other LAND", z.passes(0, 0, 1), 3, 0);
        DUES.due(43, z, "around it", z.steps(0, 0, 1), 4, 0);
        DUES.due(45, z, "strait(0) of one ISLAND", z.strait(0), NONE, 6);
    }

    private static void reachEdges() {
        ChalkRoom x = laid(tenThings(""));
        DUES.due(44, x, "reach(0) of LAND 0", x.reach(0), 0x20f, 0);
        DUES.due(44, x, "reach(8) of LAND 1", x.reach(8), 0x1f0, 0);
        x.cede(0, 0, 9);
        x.cede(0, 1, 9);
        DUES.due(44, x, "reach(9): all", x.reach(9), 1023, 0);
        x.leg(4, 0);
        DUES.due(44, x, "reach(4): itself alone", x.reach(4), 16, 0);
        DUES.due(44, x, "reach(9): around it", x.reach(9), 1023 - 16, 0);
    }

    private static void straitEdges() {
        ChalkRoom x = laid("room 9 by 7;line 0 0 0 0 0 0 0;thing a at 0 0 worth 0 0 leg 0;thing b at 8 6 worth 0 0 leg 0;");
        DUES.due(45, x, "from corner to corner", x.strait(0), 13, 0);
        DUES.due(45, x, "one ISLAND", x.strait(1), NONE, 6);
        x.move(1, 2, 0);
        DUES.due(45, x, "one board between", x.strait(0), 1, 0);
        x.move(1, 1, 1);
        DUES.due(45, x, "corner to corner", x.strait(0), 1, 0);
        x.move(1, 1, 0);
        DUES.due(45, x, "side by side they are one", x.strait(0), NONE, 6);
        x.move(1, 0, 6);
        DUES.due(45, x, "down a column", x.strait(0), 5, 0);
        ChalkRoom y = laid("room 3 by 3;line 3 0 3;thing a at 0 1 worth 0 0 big;thing b at 1 1 worth 0 0 big;thing c at 2 1 worth 0 0 big;");
        DUES.due(45, y, "BIG ones not minded", y.strait(0), 1, 0);
        // Of all couples the nearest, not the first.
        ChalkRoom z = laid("room 9 by 1;line 1;thing a at 5 0 worth 0 0 leg 0;thing b at 8 0 worth 0 0 leg 0;");
        DUES.due(45, z, "the nearest couple", z.strait(0), 2, 0);
        DUES.due(45, z, "one board of the other between", z.strait(1), 1, 0);
    }

    /** "The board as its row times 10 and its column"; "of several the first by row, then column". */
    private static void bridgeEdges() {
        ChalkRoom x = laid("room 9 by 7;line 9 9 9 9 9 9 8;");
        DUES.due(46, x, "the last board", x.bridge(0), 68, 0);
        DUES.due(47, x, "no fewer ISLANDS", x.bridged(0), 1, 0);
        DUES.due(46, x, "of one ISLAND: the first beside it", x.bridge(1), 58, 0);
        DUES.due(47, x, "one ISLAND", x.bridged(1), 1, 0);
        x.cede(1, 6, 1);
        DUES.due(46, x, "the other HOLDS none", x.bridge(0), NONE, 6);
        DUES.due(47, x, "the other HOLDS none", x.bridged(0), NONE, 6);
        DUES.due(46, x, "it has none itself", x.bridge(1), 0, 0);
        DUES.due(47, x, "one ISLAND then", x.bridged(1), 1, 0);
        ChalkRoom y = laid("room 3 by 3;line 0 0 0;thing a at 1 0 worth 0 0 leg 0;thing b at 0 1 worth 0 0 leg 0;"
            + "thing c at 2 1 worth 0 0 leg 0;thing d at 1 2 worth 0 0 leg 0;");
        DUES.due(46, y, "amid four", y.bridge(0), 11, 0);
        DUES.due(47, y, "one of four", y.bridged(0), 1, 0);
        DUES.due(46, y, "amid five: the first between two", y.bridge(1), 1, 0);
        DUES.due(47, y, "three of five", y.bridged(1), 3, 0);
        ChalkRoom z = laid("room 5 by 1;line 1;thing a at 4 0 worth 0 0 leg 0;");
        DUES.due(46, z, "too far: the first that is beside one", z.bridge(0), 1, 0);
        DUES.due(47, z, "two as before", z.bridged(0), 2, 0);
        // A bridge beside no ISLAND would make one more.
        ChalkRoom w = laid("room 5 by 1;line 0;thing a at 4 0 worth 0 0 leg 0;");
        DUES.due(46, w, "beside it", w.bridge(0), 3, 0);
        DUES.due(47, w, "one", w.bridged(0), 1, 0);
    }

    /** Each of these calls looks at the ROOM itself, whichever is asked first, and behind whatever was done. */
    private static void islandsAskedFirst() {
        String room = "room 3 by 2;line 1 1;thing a at 2 0 worth 0 0 leg 0;thing b at 0 0 worth 0 0;";
        DUES.due(26, "border(0)", laid(room).border(0), 3);
        DUES.due(38, "islands(0)", laid(room).islands(0), 2);
        DUES.due(39, "island(1, 1)", laid(room).island(1, 1), 3);
        DUES.due(40, "mainland(1)", laid(room).mainland(1), 3);
        DUES.due(41, "joined(1, 0, 2, 1)", laid(room).joined(1, 0, 2, 1), 1);
        DUES.due(42, "passes(0, 0, 1)", laid(room).passes(0, 0, 1), 1);
        DUES.due(43, "steps(0, 0, 1)", laid(room).steps(0, 0, 1), 2);
        DUES.due(44, "reach(0)", laid(room).reach(0), 1);
        DUES.due(45, "strait(0)", laid(room).strait(0), 1);
        DUES.due(46, "bridge(0)", laid(room).bridge(0), 1);
        DUES.due(47, "bridged(0)", laid(room).bridged(0), 1);
    }

    private static void islandsOfTheRoomAsItIs() {
        String many = "room 9 by 7;line 9 0 9 0 9 0 9;thing a at 0 0 worth 0 0;thing b at 0 2 worth 0 0;";
        String few = "room 3 by 2;line 1 1;thing a at 2 0 worth 0 0 leg 0;thing b at 0 0 worth 0 0;";
        for (int call = 0; call < 11; call++) {
            ChalkRoom x = laid(many);
            x.islands(0);
            x.strait(0);
            x.bridge(0);
            x.passes(0, 0, 1);
            DUES.due(10, x, "another ROOM", Texts.room(x, few), 2, 0);
            switch (call) {
                case 0: DUES.due(26, x, "border(0)", x.border(0), 3, 0); break;
                case 1: DUES.due(38, x, "islands(0)", x.islands(0), 2, 0); break;
                case 2: DUES.due(39, x, "island(1, 1)", x.island(1, 1), 3, 0); break;
                case 3: DUES.due(40, x, "mainland(1)", x.mainland(1), 3, 0); break;
                case 4: DUES.due(41, x, "joined(1, 0, 2, 1)", x.joined(1, 0, 2, 1), 1, 0); break;
                case 5: DUES.due(42, x, "passes(0, 0, 1)", x.passes(0, 0, 1), 1, 0); break;
                case 6: DUES.due(43, x, "steps(0, 0, 1)", x.steps(0, 0, 1), 2, 0); break;
                case 7: DUES.due(44, x, "reach(0)", x.reach(0), 1, 0); break;
                case 8: DUES.due(45, x, "strait(0)", x.strait(0), 1, 0); break;
                case 9: DUES.due(46, x, "bridge(0)", x.bridge(0), 1, 0); break;
                default: DUES.due(47, x, "bridged(0)", x.bridged(0), 1, 0); break;
            }
            DUES.due(38, x, "islands(1)", x.islands(1), 1, 0);
            DUES.due(40, x, "mainland(0)", x.mainland(0), 2, 0);
            x.room(0);
            DUES.due(38, x, "islands(1) of no boards", x.islands(1), 0, 0);
            DUES.due(40, x, "mainland(0) of no boards", x.mainland(0), 0, 0);
        }
    }
}
