import java.util.Arrays;

/**
 * The bounds of plans, games, TALKS and MARKS (promises 48 to 63): the last that is still taken with what comes of it,
 * the first that is refused, the empty and the full. Answers are told by hand.
 */
public final class PlanEdgesTest {
    private static final int NONE = ChalkRoom.NONE;
    private static final Dues DUES = new Dues("PlanEdgesTest");

    private PlanEdgesTest() {
    }

    public static void main(String[] args) {
        giveTwenty();
        giveAllOrMore();
        giveOfSeveralTheFirst();
        giveKeepsLegs();
        askTwenty();
        askOfSeveralTheFirst();
        priceEdges();
        peaceByBends();
        peaceSets();
        peaceOfSeveralTheFirst();
        linesEdges();
        sureEdges();
        linesByBends();
        gameRounds();
        gamePasses();
        gameWithLegs();
        firstOfSeveral();
        seeds();
        threeHundredSteps();
        loopsAsOften();
        testsAtTheirBounds();
        missedSteps();
        stops();
        drawsWrapAround();
        livedOfLatest();
        livedAnew();
        meanEdges();
        meanFractions();
        threeMarks();
        marksKeepAll();
        marksAreGone();
        DUES.end();
    }

    private static ChalkRoom laid(String text) {
        ChalkRoom x = new ChalkRoom();
        Texts.room(x, text);
        DUES.due(10, "status() of '" + text + "'", x.status(), 0);
        return x;
    }

    private static ChalkRoom laid(String text, String talks) {
        ChalkRoom x = laid(text);
        Texts.talks(x, talks);
        DUES.due(11, "status() of '" + talks + "'", x.status(), 0);
        return x;
    }

    private static long lineOf(ChalkRoom x) {
        long all = 0;
        for (int row = 0; row < x.told(1); row++) {
            all = all * 10 + x.line(row);
        }
        return all;
    }

    private static long giveIn(ChalkRoom x, int land, int n) {
        long all = 0;
        for (int row = 0; row < x.told(1); row++) {
            all = all * 10 + x.giveIn(land, n, row);
        }
        return all;
    }

    private static long askIn(ChalkRoom x, int land, int n) {
        long all = 0;
        for (int row = 0; row < x.told(1); row++) {
            all = all * 10 + x.askIn(land, n, row);
        }
        return all;
    }

    private static long peaceIn(ChalkRoom x, int first, int second) {
        long all = 0;
        for (int row = 0; row < x.told(1); row++) {
            all = all * 10 + x.peaceIn(first, second, row);
        }
        return all;
    }

    // ---- GIVE, ASK, price

    /** "GIVE n (0 to 20)". */
    private static void giveTwenty() {
        ChalkRoom x = laid("room 9 by 7;thing a at 3 6 worth 5 0;thing b at 8 0 worth 0 6;");
        DUES.due(48, x, "give(0, -1)", x.give(0, -1), NONE, 1);
        DUES.due(48, x, "give(0, 0)", x.give(0, 0), 5, 0);
        DUES.due(49, x, "giveIn of 0", giveIn(x, 0, 0), 0, 0);
        DUES.due(48, x, "give(0, 20)", x.give(0, 20), 5, 0);
        DUES.due(49, x, "giveIn of 20: row 6 is spared, then the last rows give first", giveIn(x, 0, 20), 444440, 0);
        DUES.due(48, x, "give(0, 21)", x.give(0, 21), NONE, 1);
        DUES.due(49, x, "giveIn(0, 20, 6)", x.giveIn(0, 20, 6), 0, 0);
        DUES.due(49, x, "giveIn(0, 21, 6)", x.giveIn(0, 21, 6), NONE, 1);
        DUES.due(49, x, "giveIn(0, -1, 6)", x.giveIn(0, -1, 6), NONE, 1);
        DUES.due(48, x, "give(1, 20)", x.give(1, 20), 6, 0);
        DUES.due(49, x, "giveIn of 20", giveIn(x, 1, 20), 5555, 0);
    }

    /** "6: it has fewer boards by the LINE": all can be given, one more can't. */
    private static void giveAllOrMore() {
        ChalkRoom x = laid("room 9 by 3;line 9 9 2;thing a at 0 0 worth 7 1;thing b at 0 2 worth 9 2 leg 0;");
        DUES.due(48, x, "give(0, 20): all", x.give(0, 20), 9, 0);
        DUES.due(49, x, "giveIn: all", giveIn(x, 0, 20), 992, 0);
        x.cede(0, 2, 1);
        DUES.due(48, x, "give(0, 20): one more than all", x.give(0, 20), NONE, 6);
        DUES.due(49, x, "giveIn(0, 20, 0)", x.giveIn(0, 20, 0), NONE, 6);
        DUES.due(48, x, "give(0, 19): all", x.give(0, 19), 9, 0);
        ChalkRoom y = laid("room 1 by 1;line 0;thing a at 0 0 worth 3 4;");
        DUES.due(48, y, "give(0, 0) of none", y.give(0, 0), 0, 0);
        DUES.due(48, y, "give(0, 1) of none", y.give(0, 1), NONE, 6);
        DUES.due(48, y, "give(1, 1) of one", y.give(1, 1), 0, 0);
        DUES.due(48, y, "give(1, 2) of one", y.give(1, 2), NONE, 6);
        DUES.due(50, y, "ask(0, 1) of one", y.ask(0, 1), 3, 0);
        DUES.due(50, y, "ask(0, 2) of one", y.ask(0, 2), NONE, 6);
        DUES.due(50, y, "ask(1, 0) of none", y.ask(1, 0), 4, 0);
        DUES.due(50, y, "ask(1, 1) of none", y.ask(1, 1), NONE, 6);
        DUES.due(51, y, "askIn(1, 1, 0) of none", y.askIn(1, 1, 0), NONE, 6);
        ChalkRoom z = laid("room 2 by 1;line 0;thing a at 0 0 worth 1 1 leg 0;");
        DUES.due(48, z, "by the LINE, not by LEGS", z.give(0, 1), NONE, 6);
    }

    /** "Of several the first by what it gives in row 0, 1 ..": the least in row 0, then in row 1. */
    private static void giveOfSeveralTheFirst() {
        ChalkRoom x = laid("room 4 by 3;line 2 2 2;");
        DUES.due(49, x, "1 of 2 2 2", giveIn(x, 0, 1), 1, 0);
        DUES.due(49, x, "2 of 2 2 2", giveIn(x, 0, 2), 2, 0);
        DUES.due(49, x, "3 of 2 2 2", giveIn(x, 0, 3), 12, 0);
        DUES.due(49, x, "5 of 2 2 2", giveIn(x, 0, 5), 122, 0);
        DUES.due(49, x, "6 of 2 2 2", giveIn(x, 0, 6), 222, 0);
        DUES.due(49, x, "4 of LAND 1", giveIn(x, 1, 4), 22, 0);
        ChalkRoom y = laid("room 4 by 3;line 2 2 2;thing a at 1 2 worth 1 0;thing b at 1 1 worth 1 0;");
        DUES.due(49, y, "spared where there is WORTH", giveIn(y, 0, 1), 100, 0);
        DUES.due(49, y, "2", giveIn(y, 0, 2), 200, 0);
        DUES.due(48, y, "3 cost 1", y.give(0, 3), 1, 0);
        DUES.due(49, y, "3: of those that cost 1 the first", giveIn(y, 0, 3), 102, 0);
        DUES.due(49, y, "4: of those that cost 1 the first", giveIn(y, 0, 4), 202, 0);
        DUES.due(48, y, "4 cost 1", y.give(0, 4), 1, 0);
        DUES.due(48, y, "5 cost 2", y.give(0, 5), 0, 0);
        DUES.due(49, y, "5", giveIn(y, 0, 5), 122, 0);
    }

    /** What a LEG holds is kept, on either side of the LINE; BENDS are not minded. */
    private static void giveKeepsLegs() {
        ChalkRoom x = laid("room 3 by 2;line 3 3;bends 0;thing a at 2 0 worth 50 0 leg 0;thing b at 2 1 worth 1 0;thing c at 1 1 worth 9 0 leg 1;");
        DUES.due(48, x, "give(0, 0)", x.give(0, 0), 51, 0);
        DUES.due(48, x, "give(0, 3)", x.give(0, 3), 51, 0);
        DUES.due(49, x, "giveIn", giveIn(x, 0, 3), 30, 0);
        DUES.due(48, x, "give(0, 4)", x.give(0, 4), 50, 0);
        DUES.due(49, x, "giveIn", giveIn(x, 0, 4), 13, 0);
        DUES.due(48, x, "give(0, 6)", x.give(0, 6), 50, 0);
    }

    private static void askTwenty() {
        ChalkRoom x = laid("room 9 by 7;thing a at 8 6 worth 5 0;thing b at 8 0 worth 4 6;");
        DUES.due(50, x, "ask(0, -1)", x.ask(0, -1), NONE, 1);
        DUES.due(50, x, "ask(0, 0)", x.ask(0, 0), 0, 0);
        DUES.due(51, x, "askIn of 0", askIn(x, 0, 0), 0, 0);
        DUES.due(50, x, "ask(0, 4)", x.ask(0, 4), 0, 0);
        DUES.due(50, x, "ask(0, 5)", x.ask(0, 5), 5, 0);
        DUES.due(51, x, "askIn of 5", askIn(x, 0, 5), 5, 0);
        DUES.due(50, x, "ask(0, 9)", x.ask(0, 9), 5, 0);
        DUES.due(51, x, "askIn of 9", askIn(x, 0, 9), 45, 0);
        DUES.due(50, x, "ask(0, 10)", x.ask(0, 10), 9, 0);
        DUES.due(51, x, "askIn of 10", askIn(x, 0, 10), 5000005, 0);
        DUES.due(50, x, "ask(0, 20)", x.ask(0, 20), 9, 0);
        DUES.due(51, x, "askIn of 20", askIn(x, 0, 20), 5000555, 0);
        DUES.due(50, x, "ask(0, 21)", x.ask(0, 21), NONE, 1);
        DUES.due(51, x, "askIn(0, 21, 0)", x.askIn(0, 21, 0), NONE, 1);
        DUES.due(51, x, "askIn(0, -1, 0)", x.askIn(0, -1, 0), NONE, 1);
        DUES.due(51, x, "askIn(0, 20, 7)", x.askIn(0, 20, 7), NONE, 1);
        DUES.due(50, x, "ask(1, 20)", x.ask(1, 20), 6, 0);
    }

    private static void askOfSeveralTheFirst() {
        ChalkRoom x = laid("room 4 by 3;line 2 2 2;thing a at 2 0 worth 3 0;thing b at 2 1 worth 3 0;thing c at 2 2 worth 3 0;");
        DUES.due(51, x, "1: any of three", askIn(x, 0, 1), 1, 0);
        DUES.due(51, x, "2: any two of three", askIn(x, 0, 2), 11, 0);
        DUES.due(51, x, "3: all three", askIn(x, 0, 3), 111, 0);
        DUES.due(51, x, "4: one more", askIn(x, 0, 4), 112, 0);
        DUES.due(50, x, "ask(0, 4)", x.ask(0, 4), 9, 0);
        DUES.due(51, x, "LAND 1: any", askIn(x, 1, 1), 1, 0);
        DUES.due(50, x, "ask(1, 6)", x.ask(1, 6), 0, 0);
    }

    /** "v (0 to 990)"; "6: all would not do"; by just v. */
    private static void priceEdges() {
        StringBuilder text = new StringBuilder("room 9 by 7;line 0 0 0 0 0 0 0;");
        for (int i = 0; i < 10; i++) {
            text.append("thing ").append((char) ('a' + i)).append(" at ").append(8 - i / 7).append(' ').append(i % 7).append(" worth 99 0;");
        }
        ChalkRoom x = laid(text.toString());
        DUES.due(52, x, "price(0, -1)", x.price(0, -1), NONE, 1);
        DUES.due(52, x, "price(0, 0)", x.price(0, 0), 0, 0);
        DUES.due(52, x, "price(0, 1)", x.price(0, 1), 8, 0);
        DUES.due(52, x, "price(0, 99)", x.price(0, 99), 8, 0);
        DUES.due(52, x, "price(0, 100)", x.price(0, 100), 9, 0);
        DUES.due(52, x, "price(0, 198)", x.price(0, 198), 9, 0);
        DUES.due(52, x, "price(0, 199)", x.price(0, 199), 17, 0);
        DUES.due(52, x, "price(0, 990): all 63", x.price(0, 990), 63, 0);
        DUES.due(52, x, "price(0, 991)", x.price(0, 991), NONE, 1);
        x.leg(0, 1);
        DUES.due(52, x, "price(0, 891): a LEG is not for sale", x.price(0, 891), 62, 0);
        DUES.due(52, x, "price(0, 892)", x.price(0, 892), NONE, 6);
        DUES.due(52, x, "price(0, 990)", x.price(0, 990), NONE, 6);
        DUES.due(52, x, "price(1, 0)", x.price(1, 0), 0, 0);
        DUES.due(52, x, "price(1, 1)", x.price(1, 1), NONE, 6);
        ChalkRoom y = laid("room 2 by 1;line 1;thing a at 0 0 worth 5 6;thing b at 1 0 worth 7 8;");
        DUES.due(52, y, "price(1, 8): what it has", y.price(1, 8), 0, 0);
        DUES.due(52, y, "price(1, 9)", y.price(1, 9), 1, 0);
        DUES.due(52, y, "price(1, 14): just all", y.price(1, 14), 1, 0);
        DUES.due(52, y, "price(1, 15)", y.price(1, 15), NONE, 6);
        ChalkRoom z = laid("room 9 by 1;line 9;thing a at 0 0 worth 0 5;");
        DUES.due(52, z, "price(1, 5): all nine", z.price(1, 5), 9, 0);
        DUES.due(52, z, "price(1, 6)", z.price(1, 6), NONE, 6);
        DUES.due(52, z, "price(0, 1): there is none to give", z.price(0, 1), NONE, 6);
        z.cede(0, 0, 9);
        DUES.due(52, z, "price(1, 5): what it has", z.price(1, 5), 0, 0);
    }

    // ---- PEACE, LINES, SURE

    /** "That nowhere differs by more than BENDS from row to row": just enough, and one too little. */
    private static void peaceByBends() {
        // LAND 0 must have column 8 of row 0, LAND 1 column 0 of row 3: from 9 to 0 in three rows.
        ChalkRoom x = laid("room 9 by 4;thing a at 8 0 worth 0 0;thing b at 0 3 worth 0 0;");
        for (int bends = 0; bends <= 9; bends++) {
            x.bends(bends);
            DUES.due(53, x, "peace by BENDS " + bends, x.peace(1, 2), bends < 3 ? NONE : 13, bends < 3 ? 6 : 0);
            DUES.due(54, x, "peaceIn by BENDS " + bends, x.peaceIn(1, 2, 0), bends < 3 ? NONE : 9, bends < 3 ? 6 : 0);
        }
        x.bends(3);
        DUES.due(54, x, "just three in each", peaceIn(x, 1, 2), 9630, 0);
        x.bends(4);
        DUES.due(54, x, "of several the first", peaceIn(x, 1, 2), 9510, 0);
        x.bends(9);
        DUES.due(54, x, "at once", peaceIn(x, 1, 2), 9000, 0);
        DUES.due(54, x, "the other way round nothing binds", peaceIn(x, 2, 1), 1111, 0);
        DUES.due(53, x, "straight", x.peace(2, 1), 4, 0);
        ChalkRoom y = laid("room 9 by 1;bends 0;thing a at 8 0 worth 0 0;");
        DUES.due(53, y, "one row", y.peace(1, 0), 1, 0);
        DUES.due(54, y, "WIDE itself", y.peaceIn(1, 0, 0), 9, 0);
        DUES.due(54, y, "0 itself", y.peaceIn(0, 1, 0), 0, 0);
    }

    /** "1: no such sets, too": as many as there are THINGS. */
    private static void peaceSets() {
        StringBuilder text = new StringBuilder("room 9 by 7;");
        for (int i = 0; i < 10; i++) {
            text.append("thing ").append((char) ('a' + i)).append(" at ").append(i % 9).append(' ').append(i / 9).append(" worth 0 0;");
        }
        ChalkRoom x = laid(text.toString());
        DUES.due(53, x, "peace(1023, 0)", x.peace(1023, 0), 7, 0);
        DUES.due(54, x, "peaceIn(1023, 0)", peaceIn(x, 1023, 0), 9999999, 0);
        DUES.due(53, x, "peace(1024, 0)", x.peace(1024, 0), NONE, 1);
        DUES.due(53, x, "peace(0, 1023)", x.peace(0, 1023), 7, 0);
        DUES.due(54, x, "peaceIn(0, 1023)", peaceIn(x, 0, 1023), 0, 0);
        DUES.due(53, x, "peace(0, 1024)", x.peace(0, 1024), NONE, 1);
        DUES.due(53, x, "peace(-1, 0)", x.peace(-1, 0), NONE, 1);
        DUES.due(53, x, "peace(512, 0): the last THING", x.peace(512, 0), 7, 0);
        DUES.due(54, x, "peaceIn(512, 0)", x.peaceIn(512, 0, 1), 1, 0);
        DUES.due(53, x, "peace(512, 512): in both", x.peace(512, 512), NONE, 6);
        DUES.due(53, x, "peace(2, 1): the wrong way round in a row", x.peace(2, 1), NONE, 6);
        DUES.due(53, x, "peace(1, 2)", x.peace(1, 2), 7, 0);
        DUES.due(54, x, "peaceIn(1, 2, 7)", x.peaceIn(1, 2, 7), NONE, 1);
        DUES.due(54, x, "peaceIn(1, 2, 6)", x.peaceIn(1, 2, 6), 1, 0);
        ChalkRoom y = laid("room 2 by 1;");
        DUES.due(53, y, "no THINGS: peace(0, 0)", y.peace(0, 0), 1, 0);
        DUES.due(53, y, "no THINGS: peace(1, 0)", y.peace(1, 0), NONE, 1);
        // "LEGS not minded".
        ChalkRoom z = laid("room 2 by 1;thing a at 0 0 worth 0 0 leg 1;");
        DUES.due(54, z, "peaceIn(1, 0, 0)", z.peaceIn(1, 0, 0), 1, 0);
        DUES.due(54, z, "peaceIn(0, 1, 0)", z.peaceIn(0, 1, 0), 0, 0);
    }

    /** "With the least CHALK: of several the first by its NUMBERS". */
    private static void peaceOfSeveralTheFirst() {
        ChalkRoom x = laid("room 5 by 5;thing a at 2 1 worth 0 0;thing b at 1 3 worth 0 0;");
        DUES.due(53, x, "peace(0, 0)", x.peace(0, 0), 5, 0);
        DUES.due(54, x, "peaceIn(0, 0)", peaceIn(x, 0, 0), 0, 0);
        DUES.due(54, x, "peaceIn(1, 0)", peaceIn(x, 1, 0), 33333, 0);
        DUES.due(54, x, "peaceIn(0, 1)", peaceIn(x, 0, 1), 0, 0);
        DUES.due(53, x, "peace(1, 2)", x.peace(1, 2), 7, 0);
        DUES.due(54, x, "peaceIn(1, 2): down as soon as can be", peaceIn(x, 1, 2), 33111, 0);
        DUES.due(53, x, "peace(2, 1)", x.peace(2, 1), 5, 0);
        DUES.due(54, x, "peaceIn(2, 1)", peaceIn(x, 2, 1), 22222, 0);
    }

    /** "Just b boards of LAND 0 (0 to 63)". */
    private static void linesEdges() {
        ChalkRoom x = laid("room 9 by 7;");
        DUES.due(55, x, "lines(-1)", x.lines(-1), NONE, 1);
        DUES.due(55, x, "lines(0)", x.lines(0), 1, 0);
        DUES.due(55, x, "lines(1)", x.lines(1), 7, 0);
        DUES.due(55, x, "lines(2)", x.lines(2), 28, 0);
        DUES.due(55, x, "lines(62)", x.lines(62), 7, 0);
        DUES.due(55, x, "lines(63)", x.lines(63), 1, 0);
        DUES.due(55, x, "lines(64)", x.lines(64), NONE, 1);
        // As many as numbers of seven digits with such a sum of digits.
        DUES.due(55, x, "lines(31)", x.lines(31), 512365, 0);
        DUES.due(55, x, "lines(32)", x.lines(32), 512365, 0);
        ChalkRoom y = laid("room 1 by 1;");
        DUES.due(55, y, "lines(0)", y.lines(0), 1, 0);
        DUES.due(55, y, "lines(1)", y.lines(1), 1, 0);
        DUES.due(55, y, "lines(2)", y.lines(2), 0, 0);
        DUES.due(55, y, "lines(63)", y.lines(63), 0, 0);
        ChalkRoom z = laid("room 9 by 1;bends 0;");
        for (int b = 0; b <= 9; b++) {
            DUES.due(55, z, "lines(" + b + ") of one row", z.lines(b), 1, 0);
            DUES.due(56, z, "sure(" + b + ") of one row", z.sure(b), b, 0);
        }
        DUES.due(56, z, "sure(10) of one row", z.sure(10), NONE, 6);
        DUES.due(55, z, "lines(10) of one row", z.lines(10), 0, 0);
    }

    /** "6: there is none"; the boards in all of them. */
    private static void sureEdges() {
        ChalkRoom x = laid("room 9 by 7;");
        DUES.due(56, x, "sure(-1)", x.sure(-1), NONE, 1);
        DUES.due(56, x, "sure(0)", x.sure(0), 0, 0);
        DUES.due(56, x, "sure(1)", x.sure(1), 0, 0);
        DUES.due(56, x, "sure(54): all in six rows", x.sure(54), 0, 0);
        DUES.due(56, x, "sure(55)", x.sure(55), 7, 0);
        DUES.due(56, x, "sure(62)", x.sure(62), 56, 0);
        DUES.due(56, x, "sure(63)", x.sure(63), 63, 0);
        DUES.due(56, x, "sure(64)", x.sure(64), NONE, 1);
        ChalkRoom y = laid("room 2 by 2;bends 0;");
        DUES.due(56, y, "sure(2)", y.sure(2), 2, 0);
        DUES.due(56, y, "sure(3): there is none", y.sure(3), NONE, 6);
        DUES.due(56, y, "sure(4)", y.sure(4), 4, 0);
        DUES.due(56, y, "sure(5): there is none", y.sure(5), NONE, 6);
        DUES.due(56, y, "sure(63): there is none", y.sure(63), NONE, 6);
        y.bends(1);
        DUES.due(56, y, "sure(3)", y.sure(3), 2, 0);
        DUES.due(56, y, "sure(1)", y.sure(1), 0, 0);
        // Rows in the middle are the surer ones: 3 boards by 1 2 .. can't be without one in row 1.
        ChalkRoom z = laid("room 2 by 3;bends 1;");
        DUES.due(56, z, "sure(3): 111, 012, 210", z.sure(3), 1, 0);
        DUES.due(56, z, "sure(2): 011, 101, 110", z.sure(2), 0, 0);
        DUES.due(56, z, "sure(4): 112, 121, 211", z.sure(4), 3, 0);
    }

    /** "By BENDS": differing by just BENDS counts, by one more it does not. */
    private static void linesByBends() {
        ChalkRoom x = laid("room 9 by 2;");
        for (int bends = 0; bends <= 9; bends++) {
            x.bends(bends);
            // The two NUMBERS have the sum 9, and differ by 9, 7, 5, 3 or 1, each twice.
            DUES.due(55, x, "lines(9) by BENDS " + bends, x.lines(9), (bends + 1) / 2 * 2, 0);
            DUES.due(56, x, "sure(9) by BENDS " + bends, x.sure(9), bends == 0 ? NONE : 2 * (4 - (bends - 1) / 2), bends == 0 ? 6 : 0);
            // With the sum 8 they differ by 8, 6, 4 or 2, each twice, or not at all.
            DUES.due(55, x, "lines(8) by BENDS " + bends, x.lines(8), 1 + bends / 2 * 2, 0);
        }
        // More BENDS than there are columns: each NUMBER may follow on each.
        for (int bends = 2; bends <= 9; bends++) {
            ChalkRoom y = laid("room 2 by 3;bends " + bends + ";");
            int[] due = {1, 3, 6, 7, 6, 3, 1, 0};
            for (int b = 0; b < due.length; b++) {
                DUES.due(55, y, "lines(" + b + ") by BENDS " + bends, y.lines(b), due[b], 0);
            }
        }
    }

    // ---- GAMES

    /** "r rounds (1 to 3; a move of each in a round)". */
    private static void gameRounds() {
        ChalkRoom x = laid("room 2 by 1;line 1;thing a at 0 0 worth 5 1;thing b at 1 0 worth 2 9;");
        DUES.due(57, x, "game(0)", x.game(0), NONE, 1);
        for (int rounds = 1; rounds <= 3; rounds++) {
            // LAND 0 takes b and LAND 1 takes it back, as often.
            DUES.due(57, x, "game(" + rounds + ")", x.game(rounds), 5 - 9, 0);
            DUES.due(58, x, "first(" + rounds + ")", x.first(rounds), 0, 0);
        }
        DUES.due(57, x, "game(4)", x.game(4), NONE, 1);
        DUES.due(58, x, "first(0)", x.first(0), NONE, 1);
        DUES.due(58, x, "first(4)", x.first(4), NONE, 1);
        ChalkRoom y = laid("room 1 by 1;line 0;thing a at 0 0 worth 9 1;");
        DUES.due(57, y, "-1 is no NONE", y.game(2), -1, 0);
    }

    /** "If nowhere it passes"; "DEEP: it passes". */
    private static void gamePasses() {
        ChalkRoom x = laid("room 3 by 2;line 3 3;thing a at 2 1 worth 4 3;thing b at 0 0 worth 1 1;");
        for (int rounds = 1; rounds <= 3; rounds++) {
            DUES.due(58, x, "first: LAND 1 has nothing", x.first(rounds), 2, 0);
            DUES.due(57, x, "game: LAND 1 takes a", x.game(rounds), 1 - 3, 0);
        }
        ChalkRoom y = laid("room 3 by 2;line 0 0;thing a at 0 0 worth 4 3;");
        for (int rounds = 1; rounds <= 3; rounds++) {
            DUES.due(58, y, "first: all is LAND 1's", y.first(rounds), 0, 0);
            DUES.due(57, y, "game: it is taken back", y.game(rounds), -3, 0);
        }
        ChalkRoom z = laid("room 3 by 2;line 3 2;");
        DUES.due(58, z, "first: where LAND 1 has a board", z.first(1), 1, 0);
    }

    /** A board that a LEG holds is won by nobody, on either side, though the LINE moves over it. */
    private static void gameWithLegs() {
        for (int land = 0; land < 2; land++) {
            ChalkRoom x = laid("room 2 by 2;line 1 1;thing a at 1 0 worth 9 9 leg " + land + ";thing b at 0 1 worth 1 1;");
            DUES.due(58, x, "b is shielded, a can't be won", x.first(1), 1, 0);
            DUES.due(57, x, "game(1)", x.game(1), land == 0 ? 10 : -8, 0);
            x.leg(0, NONE);
            DUES.due(58, x, "without the LEG a is taken", x.first(1), 0, 0);
            DUES.due(57, x, "and taken back: b stays", x.game(1), 1 - 9, 0);
            x.leg(0, land);
            DUES.due(57, x, "with it again", x.game(2), land == 0 ? 10 : -8, 0);
            x.move(0, 0, 0);
            DUES.due(57, x, "a elsewhere", x.game(3), land == 0 ? 10 : -8, 0);
            x.leg(0, NONE);
            DUES.due(58, x, "a is shielded, not b", x.first(3), 0, 0);
            DUES.due(57, x, "b is lost", x.game(3), 9 - 1, 0);
        }
    }

    /** "Of several as good the first". */
    private static void firstOfSeveral() {
        ChalkRoom x = laid("room 3 by 3;line 3 1 1;thing a at 1 1 worth 2 2;thing b at 1 2 worth 2 2;");
        DUES.due(58, x, "two as good", x.first(1), 1, 0);
        DUES.due(57, x, "game(1): LAND 1 takes it back", x.game(1), -4, 0);
        ChalkRoom y = laid("room 3 by 3;line 1 1 1;thing a at 0 0 worth 1 1;thing b at 0 2 worth 3 3;");
        DUES.due(58, y, "the dearest is shielded", y.first(1), 2, 0);
        DUES.due(57, y, "game(1)", y.game(1), 3 - 1, 0);
    }

    // ---- TALKS

    /** "LIVED by a seed (0 to 9,999)". */
    private static void seeds() {
        ChalkRoom x = laid("room 9 by 7;", "any 0;");
        DUES.due(59, x, "live(-1)", x.live(-1), NONE, 1);
        // 11,159 by 8 is 1,394, of which 1 is left by 7.
        DUES.due(59, x, "live(0)", x.live(0), 1, 0);
        DUES.due(59, "the LINE", lineOf(x), 4344444);
        // 9,999 times 2,957 and 11,159 is 29,578,202, of which 21,466 is left by 65,536; by 8 it is 2,683, by 7 2 is left.
        DUES.due(59, x, "live(9999)", x.live(9999), 1, 0);
        DUES.due(59, "the LINE", lineOf(x), 4334444);
        DUES.due(59, x, "live(10000)", x.live(10000), NONE, 1);
        DUES.due(59, "the LINE as it was", lineOf(x), 4334444);
    }

    private static void life(String talks, int done, int left, int nights) {
        ChalkRoom x = laid("room 2 by 1;", talks);
        DUES.due(59, x, "live of " + talks, x.live(0), done, 0);
        DUES.due(60, x, "lived(4) of " + talks, x.lived(4), left, 0);
        DUES.due(60, x, "lived(3) of " + talks, x.lived(3), nights, 0);
        DUES.due(60, "told(6) of " + talks, x.told(6), nights);
    }

    /** "At most 300 STEPS (when, loop count as one each time they are come to from ahead; end does not)". */
    private static void threeHundredSteps() {
        life("loop 99;night;night;night;end;night;", 299, 0, 298);
        life("loop 99;night;night;night;end;night;night;", 300, 0, 299);
        life("loop 99;night;night;night;end;night;night;night;", 300, 1, 299);
        life("loop 99;night;night;night;end;night;night;stop;", 300, 1, 299);
        life("loop 99;night;night;night;end;night;stop;", 300, 0, 298);
        life("loop 99;night;night;night;end;loop 1;end;loop 9;end;", 300, 0, 297);
        life("loop 99;night;night;night;end;loop 1;end;loop 9;end;loop 9;end;", 300, 1, 297);
        life("loop 99;night;night;night;end;loop 1;when boards 0=0;night;end;end;", 300, 0, 297);
        life("loop 99;night;night;night;end;loop 1;when boards 0=1;night;end;end;", 300, 1, 297);
        life("loop 99;when value 0=0;when value 1=0;night;end;end;end;", 298, 0, 99);
        life("loop 99;when value 0=0;when value 1=0;night;end;end;end;night;night;night;", 300, 1, 101);
        life("loop 98;loop 1;loop 1;night;end;end;end;", 295, 0, 98);
        life("loop 2;loop 99;night;end;end;loop 99;night;end;", 300, 1, 198 + 98);
        life("loop 2;loop 99;night;end;end;loop 96;night;end;", 298, 0, 198 + 96);
        life("loop 2;loop 99;night;end;end;loop 98;night;end;", 300, 0, 198 + 98);
        life("loop 99;loop 99;loop 99;end;end;end;", 300, 1, 0);
    }

    /** "loop n (1 to 99): as often"; around nothing it is but one STEP. */
    private static void loopsAsOften() {
        life("loop 1;night;end;", 2, 0, 1);
        life("loop 2;night;end;", 3, 0, 2);
        life("loop 99;night;end;", 100, 0, 99);
        life("loop 99;end;", 1, 0, 0);
        life("loop 99;loop 2;end;end;", 100, 0, 0);
        life("loop 99;loop 99;end;end;night;", 101, 0, 1);
        life("loop 3;loop 4;loop 5;night;end;end;end;", 1 + 3 + 12 + 60, 0, 60);
        life("loop 2;when boards 0=9;loop 9;night;end;end;night;end;", 1 + 2 + 2, 0, 2);
        life("", 0, 0, 0);
        life("night;", 1, 0, 1);
    }

    private static void test(String test, int due) {
        ChalkRoom x = laid("room 9 by 7;line 9 9 9 9 9 9 9;thing a at 0 0 worth 99 1;thing b at 1 0 worth 99 1 leg 1;", "when " + test + ";night;end;");
        DUES.due(59, x, "live of when " + test, x.live(0), 1 + due, 0);
        DUES.due(60, x, "lived(3) of when " + test, x.lived(3), due, 0);
    }

    /** LAND 0 HOLDS 62 boards of a VALUE of 99, LAND 1 one of 1. */
    private static void testsAtTheirBounds() {
        test("boards 0<62", 0);
        test("boards 0<63", 1);
        test("boards 0>62", 0);
        test("boards 0>61", 1);
        test("boards 0=62", 1);
        test("boards 0=61", 0);
        test("boards 0=63", 0);
        test("boards 0<99", 1);
        test("boards 0>0", 1);
        test("boards 1=1", 1);
        test("boards 1<1", 0);
        test("boards 1>1", 0);
        test("boards 1>0", 1);
        test("value 0<99", 0);
        test("value 0<100", 1);
        test("value 0>98", 1);
        test("value 0>99", 0);
        test("value 0=99", 1);
        test("value 0=98", 0);
        test("value 0<999", 1);
        test("value 1=1", 1);
        test("value 1=0", 0);
        test("holds 0 a", 1);
        test("holds 1 a", 0);
        test("holds 0 b", 0);
        test("holds 1 b", 1);
    }

    private static void missed(String room, String talks, int done, int due) {
        ChalkRoom x = laid(room, talks);
        DUES.due(59, x, "live of " + talks, x.live(0), done, 0);
        DUES.due(60, x, "lived(0) of " + talks, x.lived(0), due, 0);
    }

    /** "MISSED: a YIELD by which the LINE does not move; a SWEEP likewise; a MOVE to a board with a THING" .. */
    private static void missedSteps() {
        String room = "room 3 by 2;line 0 2;thing a at 0 0 worth 1 1;thing b at 2 1 worth 1 1;";
        missed(room, "yield 0 0 9;", 1, 1);
        missed(room, "yield 1 0 9;", 1, 0);
        missed(room, "yield 1 0 3;yield 1 0 1;", 2, 1);
        missed(room, "yield 0 1 2;yield 0 1 1;", 2, 1);
        missed(room, "sweep 0;", 1, 0);
        missed(room, "sweep 0;sweep 0;sweep 1;", 3, 2);
        missed("room 3 by 1;line 1;", "sweep 0;", 1, 1);
        missed(room, "move a to 0 0;", 1, 1);
        missed(room, "move a to 2 1;", 1, 1);
        missed(room, "move a to 1 0;move b to 0 0;move b to 1 0;", 3, 1);
        missed(room, "night;night;night;", 3, 0);
        missed(room, "when boards 0=9;yield 0 0 1;end;loop 1;end;stop;", 3, 0);
        missed("room 1 by 1;line 0;", "any 0;any 1;any 1;", 3, 2);
        ChalkRoom x = new ChalkRoom();
        Texts.talks(x, "any 0;night;any 1;");
        DUES.due(59, x, "live without rows", x.live(0), 3, 0);
        DUES.due(60, x, "each any is MISSED", x.lived(0), 2, 0);
        DUES.due(60, x, "nobody YIELDED", x.lived(1) + x.lived(2), 0, 0);
        DUES.due(60, x, "a NIGHT", x.lived(3), 1, 0);
    }

    /** stop: no STEP behind it is done, in however many loops it stands. */
    private static void stops() {
        life("stop;", 1, 0, 0);
        life("night;stop;night;", 2, 0, 1);
        life("loop 9;loop 9;night;stop;night;end;end;night;", 4, 0, 1);
        life("when boards 0=1;stop;end;night;", 2, 0, 0);
        life("when boards 0=0;stop;end;night;", 2, 0, 1);
    }

    /** "s becomes what is left of s times 2,957 and 11,159 by 65,536; the draw by n is the rest of s by 8, rounded down, by n." */
    private static void drawsWrapAround() {
        for (int deep = 1; deep <= 7; deep++) {
            for (int seed : new int[] {0, 1, 18, 4095, 9998, 9999}) {
                ChalkRoom x = laid("room 9 by " + deep + ";line" + " 9".repeat(deep) + ";", "loop 9;any 0;end;");
                x.live(seed);
                int[] line = new int[deep];
                Arrays.fill(line, 9);
                long s = seed;
                for (int i = 0; i < 9; i++) {
                    s = (s * 2957 + 11159) % 65536;
                    line[(int) (s / 8 % deep)]--;
                }
                for (int row = 0; row < deep; row++) {
                    DUES.due(59, "line(" + row + ") of " + deep + " by seed " + seed, x.line(row), line[row]);
                }
            }
        }
    }

    /** lived(): "of live() latest with STATUS 0". */
    private static void livedOfLatest() {
        ChalkRoom x = laid("room 9 by 1;line 4;", "yield 0 0 3;night;yield 1 0 2;sweep 0;");
        for (int what = 0; what < 5; what++) {
            DUES.due(60, x, "lived(" + what + ") ahead of any", x.lived(what), NONE, 6);
        }
        DUES.due(59, x, "live(0)", x.live(0), 4, 0);
        int[] due = {1, 3, 2, 1, 0};
        for (int what = 0; what < 5; what++) {
            DUES.due(60, x, "lived(" + what + ")", x.lived(what), due[what], 0);
        }
        x.live(-1);
        x.live(10000);
        x.mean(0, 0, 5);
        for (int what = 0; what < 5; what++) {
            DUES.due(60, x, "lived(" + what + ") behind others", x.lived(what), due[what], 0);
        }
        Texts.talks(x, "night;night;");
        DUES.due(60, x, "lived(3) behind talks()", x.lived(3), 1, 0);
        x.live(0);
        DUES.due(60, x, "lived(3)", x.lived(3), 2, 0);
        DUES.due(60, x, "lived(1)", x.lived(1), 0, 0);
        DUES.due(60, x, "lived(-1)", x.lived(-1), NONE, 1);
        DUES.due(60, x, "lived(5)", x.lived(5), NONE, 1);
    }

    /** Each live() counts anew, whatever the one ahead left: loops half done, other TALKS. */
    private static void livedAnew() {
        ChalkRoom x = laid("room 9 by 2;line 9 9;", "yield 1 0 1;night;yield 0 0 1;any 0;");
        for (int i = 0; i < 3; i++) {
            DUES.due(59, x, "live(1)", x.live(1), 4, 0);
            DUES.due(60, x, "lived(0)", x.lived(0), i == 0 ? 1 : 0, 0);
            DUES.due(60, x, "lived(1)", x.lived(1), 2, 0);
            DUES.due(60, x, "lived(2)", x.lived(2), i == 0 ? 0 : 1, 0);
            DUES.due(60, x, "lived(3)", x.lived(3), 1, 0);
        }
        Texts.talks(x, "loop 9;night;stop;end;");
        DUES.due(59, x, "live: stopped in a loop", x.live(0), 3, 0);
        Texts.talks(x, "when boards 0>0;night;end;night;");
        DUES.due(59, x, "live: a when where the loop was", x.live(0), 3, 0);
        DUES.due(60, x, "lived(3)", x.lived(3), 2, 0);
        Texts.talks(x, "loop 99;loop 99;night;end;end;");
        DUES.due(59, x, "live: three hundred", x.live(0), 300, 0);
        DUES.due(60, x, "lived(4)", x.lived(4), 1, 0);
        Texts.talks(x, "loop 2;loop 2;night;end;end;");
        DUES.due(59, x, "live: a few", x.live(0), 7, 0);
        DUES.due(60, x, "lived(4)", x.lived(4), 0, 0);
        DUES.due(60, x, "lived(3)", x.lived(3), 4, 0);
    }

    /** "By so many seeds (1 to 20) from one on (1: the last above 9,999, too)". */
    private static void meanEdges() {
        ChalkRoom x = laid("room 2 by 1;thing a at 0 0 worth 3 4;", "night;");
        for (int many = -1; many <= 22; many++) {
            boolean fine = many >= 1 && many <= 20;
            DUES.due(61, x, "mean(0, 0, " + many + ")", x.mean(0, 0, many), fine, fine ? 0 : 1);
            for (int seed : new int[] {9999 - many, 10000 - many, 10001 - many}) {
                boolean last = fine && seed + many - 1 <= 9999;
                DUES.due(61, x, "mean(1, " + seed + ", " + many + ")", x.mean(1, seed, many), last, last ? 0 : 1);
            }
        }
        DUES.due(61, x, "mean(0, 9999, 1)", x.mean(0, 9999, 1), true, 0);
        DUES.due(61, x, "mean(0, 10000, 1)", x.mean(0, 10000, 1), false, 1);
        DUES.due(61, x, "mean(0, -1, 1)", x.mean(0, -1, 1), false, 1);
        DUES.due(61, x, "mean(0, -1, 2)", x.mean(0, -1, 2), false, 1);
        DUES.due(61, x, "mean(0, MAX, 1)", x.mean(0, Integer.MAX_VALUE, 1), false, 1);
        DUES.due(61, x, "mean(0, MAX, MAX)", x.mean(0, Integer.MAX_VALUE, Integer.MAX_VALUE), false, 1);
        DUES.due(61, x, "mean(0, MIN, MIN)", x.mean(0, Integer.MIN_VALUE, Integer.MIN_VALUE), false, 1);
    }

    /** Each seed is LIVED from the same ROOM; the FRACTION is as short as can be. */
    private static void meanFractions() {
        ChalkRoom x = laid("room 3 by 2;line 3 3;thing a at 2 0 worth 6 0;thing b at 2 1 worth 9 0;", "any 0;");
        // The first draws by 2 of the seeds 0 to 3: s by 8 is 1,394, 1,764, 2,134, 2,503.
        int[][] due = {{9, 1}, {9, 1}, {9, 1}, {33, 4}};
        for (int many = 1; many <= 4; many++) {
            DUES.due(61, x, "mean(0, 0, " + many + ")", x.mean(0, 0, many), true, 0);
            DUES.due(61, "top()", x.top(), due[many - 1][0]);
            DUES.due(61, "bottom()", x.bottom(), due[many - 1][1]);
        }
        DUES.due(61, x, "mean(1, 0, 20)", x.mean(1, 0, 20), true, 0);
        DUES.due(61, "top() of 0", x.top(), 0);
        DUES.due(61, "bottom() of 0", x.bottom(), 1);
        DUES.due(61, "the LINE stays", lineOf(x), 33);
        DUES.due(61, "nobody YIELDED", x.told(4), 0);
        ChalkRoom y = laid("room 2 by 1;line 2;thing a at 0 0 worth 99 0;thing b at 1 0 worth 99 0;", "night;");
        DUES.due(61, y, "mean(0, 9980, 20)", y.mean(0, 9980, 20), true, 0);
        DUES.due(61, "top()", y.top(), 198);
        DUES.due(61, "bottom()", y.bottom(), 1);
        DUES.due(61, "no NIGHT was", y.told(6), 0);
    }

    // ---- MARKS

    /** "MARKS, at most 3". */
    private static void threeMarks() {
        ChalkRoom x = laid("room 9 by 1;line 9;");
        DUES.due(63, x, "undo() of none", x.undo(), NONE, 6);
        for (int i = 1; i <= 3; i++) {
            DUES.due(62, x, "mark()", x.mark(), i, 0);
            x.cede(0, 0, i);
        }
        DUES.due(62, x, "a fourth", x.mark(), NONE, 4);
        DUES.due(62, x, "a fourth again", x.mark(), NONE, 4);
        DUES.due(62, "the LINE stays", x.line(0), 3);
        int[] due = {9, 8, 6};
        for (int i = 2; i >= 0; i--) {
            DUES.due(63, x, "undo()", x.undo(), i, 0);
            DUES.due(63, "the LINE", x.line(0), due[i]);
        }
        DUES.due(63, x, "undo() of none", x.undo(), NONE, 6);
        DUES.due(63, "the LINE stays", x.line(0), 9);
    }

    /** "The ROOM with all that became of it, the TALKS are kept as they are": each of them comes back. */
    private static void marksKeepAll() {
        ChalkRoom x = laid("room 5 by 2;line 1 5;bends 3;thing a at 0 0 worth 1 2 leg 1;thing b at 4 1 worth 3 4 big;", "night;night;stop;");
        x.cede(0, 0, 1);
        x.cede(1, 0, 4);
        x.night();
        DUES.due(62, x, "mark()", x.mark(), 1, 0);
        x.cede(0, 1, 2);
        x.cede(1, 1, 1);
        x.night();
        x.bends(0);
        x.move(0, 2, 1);
        x.leg(0, NONE);
        x.leg(1, 0);
        x.live(0);
        Texts.talks(x, "stop;");
        Texts.room(x, "room 9 by 7;line 9 8 7 6 5 4 3;thing z at 8 6 worth 9 9;thing y at 7 6 worth 9 9;thing x at 6 6 worth 9 9;");
        Texts.talks(x, "move z to 0 0;");
        x.share(0);
        DUES.due(63, x, "undo()", x.undo(), 0, 0);
        int[] told = {5, 2, 2, 3, 1, 4, 1};
        for (int what = 0; what < 7; what++) {
            DUES.due(63, "told(" + what + ")", x.told(what), told[what]);
        }
        DUES.due(63, "the LINE", lineOf(x), 45);
        int[][] things = {{0, 0, 1, 2, 1, 0}, {4, 1, 3, 4, NONE, 1}};
        for (int i = 0; i < 2; i++) {
            for (int what = 0; what < 6; what++) {
                DUES.due(63, "thing(" + i + ", " + what + ")", x.thing(i, what), things[i][what]);
            }
        }
        DUES.due(63, x, "the TALKS", x.live(0), 3, 0);
        DUES.due(63, x, "the NAMES", Texts.talks(x, "move b to 0 1;"), 1, 0);
        DUES.due(63, x, "no others", Texts.talks(x, "move z to 0 1;"), NONE, 9);
    }

    /** "The latest MARK, which is gone then"; a MARK of no boards and no TALKS; TRAYS, tape, FRACTION are not of it. */
    private static void marksAreGone() {
        ChalkRoom x = new ChalkRoom();
        DUES.due(62, x, "mark()", x.mark(), 1, 0);
        Texts.room(x, "room 2 by 1;thing a at 0 0 worth 1 1;");
        Texts.talks(x, "night;");
        x.tray(0, 0, 1);
        x.share(0);
        x.feed(0x20202020, 0x20202020, 0x20202020, 0x20202020, 0x20202020);
        DUES.due(63, x, "undo()", x.undo(), 0, 0);
        DUES.due(63, "told(0)", x.told(0), 0);
        DUES.due(63, "told(2)", x.told(2), 0);
        DUES.due(63, x, "no TALKS", x.live(0), NONE, 6);
        DUES.due(63, x, "the TRAY stays", x.read(0, 0), 0, 0);
        DUES.due(63, "the FRACTION stays", x.top() * 10 + x.bottom(), 11);
        DUES.due(63, "the tape stays", x.feed(0, 0, 0, 0, 0), 40);
        DUES.due(63, x, "it is gone", x.undo(), NONE, 6);
        DUES.due(62, x, "mark()", x.mark(), 1, 0);
        DUES.due(62, x, "mark()", x.mark(), 2, 0);
        DUES.due(63, x, "undo()", x.undo(), 1, 0);
        DUES.due(62, x, "mark()", x.mark(), 2, 0);
        DUES.due(62, x, "mark()", x.mark(), 3, 0);
        DUES.due(62, x, "mark()", x.mark(), NONE, 4);
        DUES.due(63, x, "undo()", x.undo(), 2, 0);
        DUES.due(62, x, "mark()", x.mark(), 3, 0);
        // room() takes no MARK away.
        DUES.due(10, x, "room(20)", x.room(20), 0, 0);
        DUES.due(62, x, "mark()", x.mark(), NONE, 4);
    }
}
