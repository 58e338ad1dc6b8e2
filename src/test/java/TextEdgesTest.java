/**
 * The bounds of the two texts, sentence by sentence of "Terms", part 1 and 4: TOKENS, the ROOM, the TALKS and their
 * FAULTS, with the last that is still taken and the first that is refused. Answers are told by hand.
 */
public final class TextEdgesTest {
    private static final int NONE = ChalkRoom.NONE;
    private static final String[] WORDS = {"room", "by", "line", "bends", "thing", "at", "worth", "leg", "big", "yield", "night",
        "sweep", "move", "to", "any", "when", "boards", "value", "holds", "loop", "end", "stop"};
    private static final String HEAD = "room 4 by 3;";
    private static final String TALKS_ROOM = "room 4 by 3;thing a at 0 0 worth 1 2;thing abcdefgh at 3 2 worth 3 4;";
    private static final Dues DUES = new Dues("TextEdgesTest");

    private TextEdgesTest() {
    }

    public static void main(String[] args) {
        tape();
        firstBytes();
        lengthOfTexts();
        endOfText();
        everyByte();
        bytesWithin();
        tokensAsLongAsTheyGo();
        blanks();
        numbersOfDigits();
        namesOfLetters();
        namesThatAreNone();
        roomSizes();
        roomAheadOfAll();
        lineNumbers();
        lineWithout();
        bendsNumbers();
        thingNumbers();
        thingParts();
        oneName();
        oneBoard();
        tenThings();
        toldAlready();
        leastKindOfOneToken();
        firstAlongTheText();
        roomInPlace();
        withoutRoom();
        stepNumbers();
        testNumbers();
        namesInTalks();
        compares();
        endsAndBeginnings();
        thirtySteps();
        threeWithin();
        leastKindInTalks();
        talksWithoutRows();
        talksInPlace();
        textsBehindOthers();
        wordsCutByTheEnd();
        columnsAreNoRows();
        faultTold();
        DUES.end();
    }

    private static String often(String what, int many) {
        return what.repeat(many);
    }

    private static void taken(String text, int things) {
        ChalkRoom x = new ChalkRoom();
        DUES.due(10, x, "room of '" + text + "'", Texts.room(x, text), things, 0);
        DUES.due(12, "fault(0) of '" + text + "'", x.fault(0), 0);
        DUES.due(12, "fault(1) of '" + text + "'", x.fault(1), NONE);
    }

    private static void refused(String text, int kind, int place) {
        ChalkRoom x = new ChalkRoom();
        DUES.due(10, x, "room of '" + text + "'", Texts.room(x, text), NONE, 9);
        DUES.due(12, "fault(0) of '" + text + "'", x.fault(0), kind);
        DUES.due(12, "fault(1) of '" + text + "'", x.fault(1), place);
    }

    private static ChalkRoom laid(String text) {
        ChalkRoom x = new ChalkRoom();
        Texts.room(x, text);
        DUES.due(10, "status() of '" + text + "'", x.status(), 0);
        return x;
    }

    private static ChalkRoom laid(String text, String talks) {
        ChalkRoom x = laid(text);
        Texts.talks(x, talks);
        DUES.due(11, "status() of '" + talks + "'", x.status(), 0);
        return x;
    }

    private static void talksTaken(String text, int steps) {
        ChalkRoom x = laid(TALKS_ROOM);
        DUES.due(11, x, "talks of '" + text + "'", Texts.talks(x, text), steps, 0);
        DUES.due(12, "fault(0) of '" + text + "'", x.fault(0), 0);
        DUES.due(12, "fault(1) of '" + text + "'", x.fault(1), NONE);
    }

    private static void talksRefused(String text, int kind, int place) {
        ChalkRoom x = laid(TALKS_ROOM);
        DUES.due(11, x, "talks of '" + text + "'", Texts.talks(x, text), NONE, 9);
        DUES.due(12, "fault(0) of '" + text + "'", x.fault(0), kind);
        DUES.due(12, "fault(1) of '" + text + "'", x.fault(1), place);
    }

    // ---- the tape

    /** "NONE if there would be more than 900": the 45th feed() is the last; what is refused leaves nothing behind. */
    private static void tape() {
        ChalkRoom x = new ChalkRoom();
        String text = "room 1 by 1;" + often(" ", 880) + "bends 5;";
        for (int i = 0; i < 45; i++) {
            int[] v = Texts.twenty(text, i * 20);
            DUES.due(9, "feed() no. " + (i + 1), x.feed(v[0], v[1], v[2], v[3], v[4]), 20 * (i + 1));
        }
        DUES.due(9, "feed() no. 46", x.feed(-1, -1, -1, -1, -1), NONE);
        DUES.due(9, "feed() no. 47", x.feed(0, 0, 0, 0, 0), NONE);
        DUES.due(10, x, "room(900)", x.room(900), 0, 0);
        DUES.due(10, "the last byte counts", x.told(3), 5);
        DUES.due(9, "feed() to the empty tape", x.feed(0, 0, 0, 0, 0), 20);
    }

    /** "The highest of each int first", whatever the sign of the int. */
    private static void firstBytes() {
        ChalkRoom x = new ChalkRoom();
        x.feed('r' << 24 | 'o' << 16 | 'o' << 8 | 'm', ' ' << 24 | '3' << 16 | ' ' << 8 | 'b', 'y' << 24 | ' ' << 16 | '2' << 8 | ';',
            0x80000000, 0x20ff2020);
        x.feed(-1, 0, 0, 0, 0);
        DUES.due(10, x, "room(12)", x.room(12), 0, 0);
        DUES.due(10, "told(0)", x.told(0), 3);
        DUES.due(10, "told(1)", x.told(1), 2);
        int[] spoiled = {0x80202020, 0x20802020, 0x20208020, 0x20202080};
        for (int i = 0; i < 4; i++) {
            ChalkRoom y = new ChalkRoom();
            y.feed(0x20202020, spoiled[i], 0, 0, 0);
            DUES.due(9, "room(8)", y.room(8), NONE);
            DUES.due(9, "the place of byte " + (4 + i), y.fault(1), 4 + i);
        }
        for (int i = 0; i < 5; i++) {
            ChalkRoom y = new ChalkRoom();
            int[] v = {0x20202020, 0x20202020, 0x20202020, 0x20202020, 0x20202020};
            v[i] = 0x20202041;
            y.feed(0x20202020, 0x20202020, 0x20202020, 0x20202020, 0x20202020);
            DUES.due(9, "feed", y.feed(v[0], v[1], v[2], v[3], v[4]), 40);
            DUES.due(9, "room(40)", y.room(40), NONE);
            DUES.due(9, "the place of the byte of int " + i, y.fault(1), 23 + 4 * i);
        }
    }

    /** A ROOM of at most 900 bytes, TALKS of at most 300: "(1: above 300, too)"; an empty one of either. */
    private static void lengthOfTexts() {
        taken("", 0);
        taken("room 9 by 7;" + often("\n", 888), 0);
        talksTaken("", 0);
        talksTaken("night;" + often(" ", 294), 1);
        talksTaken(often(" ", 295) + "stop;", 1);
        ChalkRoom x = laid(TALKS_ROOM);
        Texts.feed(x, "night;" + often(" ", 295));
        DUES.due(11, x, "talks(301)", x.talks(301), NONE, 1);
        DUES.due(11, x, "talks(320)", x.talks(320), NONE, 1);
        DUES.due(11, x, "talks(300): the tape was kept", x.talks(300), 1, 0);
    }

    /** "The first n bytes of the tape (which is empty then)": what is behind them is not looked at, and is gone. */
    private static void endOfText() {
        ChalkRoom x = new ChalkRoom();
        Texts.feed(x, "room 1 by 11;?;room 1 by 2;");
        DUES.due(10, x, "room(40) of 40 fed", x.feed(0, 0, 0, 0, 0), 60, 0);
        DUES.due(10, x, "room(11): a NUMBER ends with the text", x.room(11), NONE, 9);
        DUES.due(12, "fault(0): the end", x.fault(0), 2);
        DUES.due(12, "fault(1): the text's length", x.fault(1), 11);
        DUES.due(10, x, "room(1): the tape is empty", x.room(1), NONE, 1);
        Texts.feed(x, "room 1 by 1;bendsbends");
        DUES.due(10, x, "room(12)", x.room(12), 0, 0);
        DUES.due(10, x, "room(0): the tape is empty", x.room(0), 0, 0);
        DUES.due(10, "told(0)", x.told(0), 0);
        Texts.feed(x, "night;night;loop");
        DUES.due(11, x, "talks(12)", x.talks(12), 2, 0);
        DUES.due(11, x, "talks(1): the tape is empty", x.talks(1), NONE, 1);
        DUES.due(11, x, "talks(0)", x.talks(0), 0, 0);
        refused("room", 2, 4);
        refused("room ", 2, 5);
        refused("room 1", 2, 6);
        refused("room 1 by", 2, 9);
        refused("room 1 by 1", 2, 11);
        refused("room 1 by 1\n\n", 2, 13);
        refused(HEAD + "line", 2, 16);
        refused(HEAD + "line 1 1 1", 2, 22);
        refused(HEAD + "bends", 2, 17);
        refused(HEAD + "bends 1", 2, 19);
        refused(HEAD + "thing", 2, 17);
        refused(HEAD + "thing a", 2, 19);
        refused(HEAD + "thing a at", 2, 22);
        refused(HEAD + "thing a at 0", 2, 24);
        refused(HEAD + "thing a at 0 0", 2, 26);
        refused(HEAD + "thing a at 0 0 worth", 2, 32);
        refused(HEAD + "thing a at 0 0 worth 1", 2, 34);
        refused(HEAD + "thing a at 0 0 worth 1 1", 2, 36);
        refused(HEAD + "thing a at 0 0 worth 1 1 leg", 2, 40);
        refused(HEAD + "thing a at 0 0 worth 1 1 leg 1", 2, 42);
        refused(HEAD + "thing a at 0 0 worth 1 1 big", 2, 40);
        refused(HEAD + "thing a at 0 0 worth 1 1 leg 1 big", 2, 46);
        taken(HEAD + "thing a at 0 0 worth 1 1 leg 1 big;", 1);
    }

    // ---- TOKENS

    /** Of all 256 bytes: which are blanks, which begin a WORD, a NUMBER, a SIGN, and that no TOKEN begins with others. */
    private static void everyByte() {
        for (int b = 0; b < 256; b++) {
            boolean blank = b == 10 || b == 32;
            boolean token = b >= 97 && b <= 122 || b >= 48 && b <= 57 || b == 59 || b == 60 || b == 61 || b == 62;
            String text = "room 1 by 1;" + (char) b;
            if (blank) {
                taken(text, 0);
                talksTaken("night" + (char) b + ";", 1);
            } else {
                refused(text, token ? 2 : 1, 12);
                talksRefused("night;" + (char) b, token ? 2 : 1, 6);
            }
        }
    }

    /** Letters go on with a WORD, digits with a NUMBER; the bytes next to them by number end it. */
    private static void bytesWithin() {
        for (char letter = 'a'; letter <= 'z'; letter++) {
            refused("room" + letter + " 1 by 1;", 2, 0);
            refused("room 1" + letter + " 1;", 2, 6);
            taken(HEAD + "thing q" + letter + " at 0 0 worth 1 1;", 1);
        }
        for (char digit = '0'; digit <= '9'; digit++) {
            refused("room" + digit + " 1 by 1;", digit == '0' ? 4 : 2, digit == '0' ? 4 : 6);
            refused("room 1" + digit + " by 1;", 4, 5);
            DUES.due(10, "WORTH of " + digit, laid(HEAD + "thing a at 0 0 worth 1" + digit + " 1;").thing(0, 2), 10 + digit - '0');
        }
        for (char other : new char[] {'`', '{', '/', ':', '@', 'A', 'Z', '[', '?', '-', '+', '.'}) {
            refused("room" + other + " 1 by 1;", 1, 4);
            refused("room 1" + other + " by 1;", 1, 6);
        }
        refused("room; 1 by 1;", 2, 4);
        refused("room 1; by 1;", 2, 6);
    }

    private static void tokensAsLongAsTheyGo() {
        taken("room9by7;", 0);
        taken("room4by3;line1 2 3;bends2;thing a at1 1worth5 6leg0big;", 1);
        refused("room 4by3;line1 23;", 4, 16);
        refused("roomby", 2, 0);
        refused("room 1 by1;linebends", 2, 11);
        refused("room 1 by 1;bends 1 1;", 2, 20);
        refused("room 1 by 1;bends 11;", 4, 18);
        refused("room 9 by 7;thing aat 0 0 worth 1 1;", 2, 22);
        talksTaken("yield0 0 1;sweep1;any1;loop2;end;when boards0<9;end;when holds1a;end;", 6);
        talksRefused("nightnight;", 2, 0);
        talksRefused("when boards 0<>9;", 2, 14);
    }

    private static void blanks() {
        taken("\n \nroom\n\n1  by\n 1 ;\n", 0);
        taken(" ", 0);
        taken("\n", 0);
        refused("room\t1 by 1;", 1, 4);
        refused("room 1 by 1;\r\n", 1, 12);
        refused("\u0000", 1, 0);
        talksTaken(" \n", 0);
        talksTaken("\nnight\n;\n", 1);
        talksRefused("night;\u000b", 1, 6);
    }

    /** "NUMBERS (1 to 4 digits)"; "a NUMBER of 5 digits and more: at its first". */
    private static void numbersOfDigits() {
        taken("room 1 by 1;", 0);
        taken("room 09 by 07;", 0);
        taken("room 009 by 007;", 0);
        taken("room 0009 by 0007;", 0);
        refused("room 00009 by 7;", 1, 5);
        refused("room 9 by 00007;", 1, 10);
        refused("room 9999 by 7;", 4, 5);
        refused("room 10000 by 7;", 1, 5);
        refused("room 1234567890123 by 7;", 1, 5);
        refused("room 4294967297 by 7;", 1, 5);
        refused("00000", 1, 0);
        refused("0000", 2, 0);
        talksTaken("loop 0001;end;", 1);
        talksRefused("loop 00001;end;", 1, 5);
        talksRefused("loop 9999;end;", 4, 5);
    }

    /** "NAME: a WORD of 1 to 8 letters"; "a WORD of 9 letters and more where a NAME must stand" is FAULT 2. */
    private static void namesOfLetters() {
        for (int many = 1; many <= 12; many++) {
            String text = HEAD + "thing " + often("z", many) + " at 0 0 worth 1 1;";
            if (many <= 8) {
                taken(text, 1);
            } else {
                refused(text, 2, 18);
            }
        }
        refused(HEAD + "thing " + often("z", 200) + " at 0 0 worth 1 1;", 2, 18);
        refused(HEAD + "thing 5 at 0 0 worth 1 1;", 2, 18);
        refused(HEAD + "thing ; at 0 0 worth 1 1;", 2, 18);
        refused(HEAD + often("z", 9), 2, 12);
        taken(HEAD + "thing a at 0 0 worth 1 1;thing z at 1 0 worth 1 1;thing azazazaz at 2 0 worth 1 1;", 3);
    }

    /** "That is none of room, by, line ..": each of them is refused, and those that differ by a letter are taken. */
    private static void namesThatAreNone() {
        for (String word : WORDS) {
            refused(HEAD + "thing " + word + " at 0 0 worth 1 1;", 2, 18);
            talksRefused("move " + word + " to 0 0;", 2, 5);
            talksRefused("when holds 0 " + word + ";end;", 2, 13);
            taken(HEAD + "thing " + word + "x at 0 0 worth 1 1;", 1);
            taken(HEAD + "thing x" + word + " at 0 0 worth 1 1;", 1);
            taken(HEAD + "thing " + word.substring(1) + " at 0 0 worth 1 1;", 1);
            taken(HEAD + "thing " + word.substring(0, word.length() - 1) + " at 0 0 worth 1 1;", 1);
            taken(HEAD + "thing " + word.substring(0, word.length() - 1) + "q at 0 0 worth 1 1;", 1);
        }
    }

    // ---- the ROOM

    private static void roomSizes() {
        for (int wide = 0; wide <= 11; wide++) {
            for (int deep = 0; deep <= 9; deep++) {
                String text = "room " + wide + " by " + deep + ";";
                if (wide < 1 || wide > 9) {
                    refused(text, 4, 5);
                } else if (deep < 1 || deep > 7) {
                    refused(text, 4, 10);
                } else {
                    ChalkRoom x = laid(text);
                    DUES.due(13, "told(0) of " + text, x.told(0), wide);
                    DUES.due(13, "told(1) of " + text, x.told(1), deep);
                    DUES.due(14, "line(last) of " + text, x.line(deep - 1), wide / 2);
                    DUES.due(14, x, "line(one behind) of " + text, x.line(deep), NONE, 1);
                    DUES.due(17, "boards of " + text, x.boards(0) + x.boards(1), wide * deep);
                }
            }
        }
    }

    /** "Told ahead of all else": "a PART ahead of room: at its WORD". */
    private static void roomAheadOfAll() {
        refused("line;room 1 by 1;", 2, 0);
        refused(" line 0;", 2, 1);
        refused("bends 10;room 1 by 1;", 2, 0);
        refused("bends 1;room 1 by 1;", 2, 0);
        refused("thing a at 0 0 worth 1 1;room 1 by 1;", 2, 0);
        taken("room 1 by 1;thing a at 0 0 worth 1 1;bends 1;line 0;", 1);
        taken("room 1 by 1;bends 1;thing a at 0 0 worth 1 1;line 1;", 1);
    }

    /** "A NUMBER (0 to WIDE) for each (just DEEP of them)". */
    private static void lineNumbers() {
        ChalkRoom x = laid(HEAD + "line 0 4 3;");
        DUES.due(14, "line(0)", x.line(0), 0);
        DUES.due(14, "line(1)", x.line(1), 4);
        DUES.due(14, "line(2)", x.line(2), 3);
        refused(HEAD + "line 5 4 3;", 4, 17);
        refused(HEAD + "line 0 5 3;", 4, 19);
        refused(HEAD + "line 0 4 5;", 4, 21);
        refused(HEAD + "line;", 2, 16);
        refused(HEAD + "line 0;", 2, 18);
        refused(HEAD + "line 0 4;", 2, 20);
        refused(HEAD + "line 0 4 3 0;", 2, 23);
        refused(HEAD + "line 0 4 3 5;", 2, 23);
        refused(HEAD + "line 0 4 by;", 2, 21);
        refused("room 9 by 7;line 9 9 9 9 9 9 10;", 4, 29);
        taken("room 9 by 7;line 9 9 9 9 9 9 9;", 0);
        taken("room 1 by 1;line 1;", 0);
        taken("room 1 by 1;line 0;", 0);
        refused("room 1 by 1;line 2;", 4, 17);
        refused("room 1 by 1;line;", 2, 16);
        refused("room 1 by 1;line 1 1;", 2, 19);
    }

    /** "WIDE by 2, rounded down, each without". */
    private static void lineWithout() {
        for (int wide = 1; wide <= 9; wide++) {
            ChalkRoom x = laid("room " + wide + " by 7;");
            for (int row = 0; row < 7; row++) {
                DUES.due(14, "line(" + row + ") without", x.line(row), wide / 2);
            }
        }
    }

    private static void bendsNumbers() {
        for (int n = 0; n <= 9; n++) {
            DUES.due(13, "told(3)", laid(HEAD + "bends " + n + ";").told(3), n);
        }
        DUES.due(13, "told(3) without", laid(HEAD).told(3), 9);
        refused(HEAD + "bends 10;", 4, 18);
        refused(HEAD + "bends;", 2, 17);
        refused(HEAD + "bends 1 2;", 2, 20);
        refused(HEAD + "bends big;", 2, 18);
    }

    private static void thingNumbers() {
        ChalkRoom x = laid(HEAD + "thing a at 3 2 worth 99 0;thing b at 0 0 worth 0 99 leg 0;thing c at 3 0 worth 0 0 leg 1 big;");
        int[][] due = {{3, 2, 99, 0, NONE, 0}, {0, 0, 0, 99, 0, 0}, {3, 0, 0, 0, 1, 1}};
        for (int i = 0; i < 3; i++) {
            for (int what = 0; what < 6; what++) {
                DUES.due(15, x, "thing(" + i + ", " + what + ")", x.thing(i, what), due[i][what], due[i][what] == NONE ? 6 : 0);
            }
        }
        refused(HEAD + "thing a at 4 0 worth 0 0;", 4, 23);
        refused(HEAD + "thing a at 0 3 worth 0 0;", 4, 25);
        refused(HEAD + "thing a at 0 0 worth 100 0;", 4, 33);
        refused(HEAD + "thing a at 0 0 worth 0 100;", 4, 35);
        refused(HEAD + "thing a at 0 0 worth 0 0 leg 2;", 4, 41);
        taken("room 1 by 1;thing a at 0 0 worth 0 0;", 1);
        refused("room 1 by 1;thing a at 1 0 worth 0 0;", 4, 23);
        refused("room 1 by 1;thing a at 0 1 worth 0 0;", 4, 25);
        taken("room 9 by 7;thing a at 8 6 worth 99 99;", 1);
        refused("room 9 by 7;thing a at 9 6 worth 99 99;", 4, 23);
        refused("room 9 by 7;thing a at 8 7 worth 99 99;", 4, 25);
    }

    /** "[leg NUMBER] [big]": each perhaps, in this order, and once. */
    private static void thingParts() {
        String thing = HEAD + "thing a at 0 0 worth 1 1";
        taken(thing + ";", 1);
        taken(thing + " leg 0;", 1);
        taken(thing + " big;", 1);
        taken(thing + " leg 0 big;", 1);
        refused(thing + " big leg 0;", 2, 41);
        refused(thing + " leg 0 leg 1;", 2, 43);
        refused(thing + " big big;", 2, 41);
        refused(thing + " leg big;", 2, 41);
        refused(thing + " 5;", 2, 37);
        refused(HEAD + "thing a at 0 0 leg 0 worth 1 1;", 2, 27);
        refused(HEAD + "thing a worth 1 1 at 0 0;", 2, 20);
        refused(HEAD + "thing at 0 0 worth 1 1;", 2, 18);
        refused(HEAD + "thing a at 0 worth 1 1;", 2, 25);
        refused(HEAD + "thing a at 0 0 worth 1;", 2, 34);
    }

    /** "No two THINGS have one NAME": all letters count, and a THING of which the NAME is taken is told at its NAME. */
    private static void oneName() {
        taken(HEAD + "thing abcdefgh at 0 0 worth 1 1;thing abcdefgi at 1 0 worth 1 1;thing bbcdefgh at 2 0 worth 1 1;", 3);
        taken(HEAD + "thing a at 0 0 worth 1 1;thing aa at 1 0 worth 1 1;thing aaa at 2 0 worth 1 1;thing aaaaaaaa at 3 0 worth 1 1;", 4);
        refused(HEAD + "thing abcdefgh at 0 0 worth 1 1;thing abcdefgh at 1 0 worth 1 1;", 3, 50);
        refused(HEAD + "thing a at 0 0 worth 1 1;thing b at 1 0 worth 1 1;thing a at 0 0 worth 1 1;", 3, 68);
        refused(HEAD + "thing a at 0 0 worth 1 1;thing b at 1 0 worth 1 1;thing b at 0 0 worth 1 1;", 3, 68);
    }

    /** "No two THINGS are AT one board": "a board where a THING is (at its row)". */
    private static void oneBoard() {
        taken(HEAD + "thing a at 1 2 worth 1 1;thing b at 2 1 worth 1 1;thing c at 1 1 worth 1 1;thing d at 2 2 worth 1 1;", 4);
        refused(HEAD + "thing a at 1 2 worth 1 1;thing b at 2 1 worth 1 1;thing c at 1 2 worth 1 1;", 5, 75);
        refused(HEAD + "thing a at 1 2 worth 1 1;thing b at 2 1 worth 1 1;thing c at 2 1 worth 1 1;", 5, 75);
    }

    private static String things(int many) {
        StringBuilder text = new StringBuilder("room 9 by 7;");
        for (int i = 0; i < many; i++) {
            text.append("thing abcdefg").append((char) ('a' + i)).append(" at ").append(8 - i % 9).append(' ').append(6 - i / 9)
                .append(" worth 99 99 leg 1 big;");
        }
        return text.toString();
    }

    /** "THINGS, at most 10"; "6 an 11th thing (at that WORD)". */
    private static void tenThings() {
        taken(things(9), 9);
        taken(things(10), 10);
        refused(things(11), 6, things(10).length());
        refused(things(10) + "thing", 6, things(10).length());
        refused(things(10) + "  thing abcdefga", 6, things(10).length() + 2);
        taken(things(10) + "bends 3;", 10);
        ChalkRoom x = laid(things(10));
        DUES.due(15, "thing(9, 0)", x.thing(9, 0), 8);
        DUES.due(15, "thing(9, 1)", x.thing(9, 1), 5);
        DUES.due(15, x, "thing(10, 0)", x.thing(10, 0), NONE, 1);
        DUES.due(16, x, "on(8, 5)", x.on(8, 5), 9, 0);
        DUES.due(20, x, "things(1)", x.things(1), 1023, 0);
        DUES.due(19, x, "value(1)", x.value(1), 990, 0);
    }

    /** "5 room, line, bends told already (at that WORD)", whatever comes then. */
    private static void toldAlready() {
        refused("room 1 by 1;room 1 by 1;", 5, 12);
        refused("room 1 by 1; room", 5, 13);
        refused("room 1 by 1;line 0;line 0;", 5, 19);
        refused("room 1 by 1;line 0;bends 1;line;", 5, 27);
        refused("room 1 by 1;bends 1;bends 10;", 5, 20);
        refused("room 1 by 1;bends 1;thing a at 0 0 worth 1 1;bends 1;", 5, 45);
        refused("room 1 by 1;bends 1;line 0;room;", 5, 27);
    }

    /** "Of one TOKEN the least kind". */
    private static void leastKindOfOneToken() {
        // 1 ahead of 2: no TOKEN begins so where a WORD must stand.
        refused("room 1 99999", 1, 7);
        refused("?", 1, 0);
        // 4 ahead of 5: a row that there is none of, of a board that is taken by its column.
        refused(HEAD + "thing a at 1 2 worth 1 1;thing b at 1 3", 4, 50);
        // 2 ahead of 3: a NAME of 9 letters, 8 of which are those of another one.
        refused(HEAD + "thing abcdefgh at 0 0 worth 1 1;thing abcdefghh at 1 1 worth 1 1;", 2, 50);
        // 2 ahead of 5 and 6: a WORD that stands where none can.
        refused(HEAD + "line 1 1 1 line", 2, 23);
        refused(things(10).substring(0, things(10).length() - 1) + " thing", 2, things(10).length());
    }

    /** "The first along the text": what comes behind it is not minded. */
    private static void firstAlongTheText() {
        refused("room 0 by ?", 4, 5);
        refused("room 1 at ?", 2, 7);
        refused(HEAD + "thing a at 9 9 worth 999 999 leg 9;room", 4, 23);
        refused(HEAD + "thing a at 0 0 worth 1 1;thing a at 0 0 worth 100 1", 3, 43);
        refused(HEAD + "line 9;line ?", 4, 17);
    }

    /** "A ROOM that is taken is there in place of that ahead; nobody YIELDED, no NIGHTS, no TALKS." */
    private static void roomInPlace() {
        ChalkRoom x = laid(TALKS_ROOM + "bends 3;line 4 0 1;");
        Texts.talks(x, "night;");
        x.live(0);
        x.cede(0, 0, 2);
        x.cede(1, 1, 2);
        DUES.due(13, "told(4)", x.told(4), 2);
        DUES.due(13, "told(5)", x.told(5), 2);
        DUES.due(13, "told(6)", x.told(6), 1);
        DUES.due(10, x, "room of another size", Texts.room(x, "room 2 by 7;"), 0, 0);
        int[] due = {2, 7, 0, 9, 0, 0, 0};
        for (int what = 0; what < 7; what++) {
            DUES.due(10, "told(" + what + ")", x.told(what), due[what]);
        }
        for (int row = 0; row < 7; row++) {
            DUES.due(10, "line(" + row + ")", x.line(row), 1);
        }
        DUES.due(10, x, "thing(0, 0)", x.thing(0, 0), NONE, 1);
        DUES.due(10, x, "no TALKS", x.live(0), NONE, 6);
        DUES.due(10, x, "mean() without TALKS", x.mean(0, 0, 1), false, 6);
        DUES.due(10, x, "no NAMES of the old one", Texts.room(x, TALKS_ROOM), 2, 0);
        DUES.due(15, x, "no LEG of an old one", x.thing(1, 4), NONE, 6);
    }

    /** "Without room in it: WIDE 0, DEEP 0". */
    private static void withoutRoom() {
        ChalkRoom x = laid(TALKS_ROOM);
        Texts.talks(x, "night;");
        x.bends(2);
        DUES.due(10, x, "room of a blank", Texts.room(x, "\n"), 0, 0);
        int[] due = {0, 0, 0, 9, 0, 0, 0};
        for (int what = 0; what < 7; what++) {
            DUES.due(10, "told(" + what + ")", x.told(what), due[what]);
        }
        DUES.due(10, x, "line(0)", x.line(0), NONE, 1);
        DUES.due(10, x, "land(0, 0)", x.land(0, 0), NONE, 1);
        DUES.due(10, x, "live(0)", x.live(0), NONE, 6);
    }

    // ---- the TALKS

    /** "4 a NUMBER that can't be (a LAND 0, 1; a row, a column there is none of)", and how many may be YIELDED. */
    private static void stepNumbers() {
        talksTaken("yield 0 0 1;yield 1 2 9;", 2);
        talksRefused("yield 2 0 1;", 4, 6);
        talksRefused("yield 0 3 1;", 4, 8);
        talksRefused("yield 0 0 0;", 4, 10);
        talksRefused("yield 0 0 10;", 4, 10);
        talksTaken("sweep 0;sweep 2;", 2);
        talksRefused("sweep 3;", 4, 6);
        talksTaken("move a to 0 0;move a to 3 2;", 2);
        talksRefused("move a to 4 0;", 4, 10);
        talksRefused("move a to 0 3;", 4, 12);
        talksTaken("any 0;any 1;", 2);
        talksRefused("any 2;", 4, 4);
        talksTaken("loop 1;end;loop 99;end;", 2);
        talksRefused("loop 0;end;", 4, 5);
        talksRefused("loop 100;end;", 4, 5);
        talksTaken("stop;stop;", 2);
        talksRefused("stop 1;", 2, 5);
        talksRefused("night 1;", 2, 6);
        talksRefused("yield 0 0;", 2, 9);
        talksRefused("yield 0 0 1 1;", 2, 12);
        talksRefused("sweep;", 2, 5);
        talksRefused("any;", 2, 3);
        talksRefused("loop;", 2, 4);
        talksRefused("move a to 0;", 2, 11);
        talksRefused("move a at 0 0;", 2, 7);
        talksRefused("move to 0 0;", 2, 5);
        talksRefused(";", 2, 0);
        talksRefused("5;", 2, 0);
        talksRefused("a;", 2, 0);
        for (String word : WORDS) {
            if (!" yield night sweep move any when loop stop end ".contains(" " + word + " ")) {
                talksRefused("night;" + word + ";", 2, 6);
            }
        }
    }

    /** "when boards: HELD by a LAND (0 to 99); value: 0 to 999; holds: a LAND". */
    private static void testNumbers() {
        talksTaken("when boards 0<0;end;when boards 1>99;end;", 2);
        talksRefused("when boards 0<100;end;", 4, 14);
        talksRefused("when boards 2<0;end;", 4, 12);
        talksTaken("when value 0<0;end;when value 1=999;end;", 2);
        talksRefused("when value 0<1000;end;", 4, 13);
        talksRefused("when value 2<0;end;", 4, 11);
        talksTaken("when holds 0 a;end;when holds 1 abcdefgh;end;", 2);
        talksRefused("when holds 2 a;end;", 4, 11);
        talksRefused("when;", 2, 4);
        talksRefused("when night;", 2, 5);
        talksRefused("when boards;", 2, 11);
        talksRefused("when boards 0;", 2, 13);
        talksRefused("when boards 0<;", 2, 14);
        talksRefused("when boards 0<1", 2, 15);
        talksRefused("when boards 0 1;", 2, 14);
        talksRefused("when holds 0;", 2, 12);
        talksRefused("when holds 0<1;", 2, 12);
        talksRefused("when holds a;", 2, 11);
    }

    /** "3 a NAME that is no THING", in move and in holds; all eight letters count. */
    private static void namesInTalks() {
        talksTaken("move abcdefgh to 0 1;", 1);
        talksRefused("move abcdefgi to 0 1;", 3, 5);
        talksRefused("move abcdefg to 0 1;", 3, 5);
        talksRefused("move abcdefghi to 0 1;", 2, 5);
        talksRefused("move b to 9 9;", 3, 5);
        talksRefused("move aa to 9 9;", 3, 5);
        talksRefused("when holds 0 b;", 3, 13);
        talksRefused("when holds 0 abcdefghi;", 2, 13);
        talksRefused("move 1 to 0 0;", 2, 5);
        ChalkRoom x = laid(TALKS_ROOM);
        Texts.talks(x, "move abcdefgh to 1 1;");
        x.live(0);
        DUES.due(59, "the last THING moved", x.thing(1, 0) * 10 + x.thing(1, 1), 11);
        DUES.due(59, "the first one did not", x.thing(0, 0) * 10 + x.thing(0, 1), 0);
    }

    private static void compares() {
        talksTaken("when boards 0<6;end;", 1);
        talksTaken("when boards 0>6;end;", 1);
        talksTaken("when boards 0=6;end;", 1);
        talksRefused("when boards 0;6;end;", 2, 13);
        talksRefused("when boards 0==6;end;", 2, 14);
        talksRefused("when boards 0!6;end;", 1, 13);
        talksRefused("<", 2, 0);
        refused("room 1 by 1;<", 2, 12);
        refused("room 1 by 1;>", 2, 12);
        refused("room 1 by 1=", 2, 11);
    }

    /** "An end without a beginning; the text's end ahead of an end: 2". */
    private static void endsAndBeginnings() {
        talksRefused("end;", 2, 0);
        talksRefused("night;end;", 2, 6);
        talksRefused("loop 1;end;end;", 2, 11);
        talksRefused("loop 1;loop 1;end;end;end;", 2, 22);
        talksRefused("loop 1;", 2, 7);
        talksRefused("loop 1;\n", 2, 8);
        talksRefused("loop 1;loop 1;end;", 2, 18);
        talksRefused("when value 0=0;night;", 2, 21);
        talksRefused("loop 1;end", 2, 10);
        talksRefused("loop 1;end end;", 2, 11);
        talksTaken("loop 1;end;", 1);
        talksTaken("loop 1;loop 1;end;end;", 2);
        talksTaken("when value 0=0;loop 1;end;end;loop 1;end;", 3);
    }

    /** "6 a 31st STEP (at its WORD; end is none)". */
    private static void thirtySteps() {
        talksTaken(often("stop;", 29), 29);
        talksTaken(often("stop;", 30), 30);
        talksRefused(often("stop;", 31), 6, 150);
        talksRefused(often("stop;", 30) + "  night", 6, 152);
        talksTaken("loop 1;" + often("stop;", 29) + "end;", 30);
        talksRefused("loop 1;" + often("stop;", 29) + "end;any 9;", 6, 156);
        talksRefused("loop 1;" + often("stop;", 30) + "end;", 6, 152);
        talksTaken(often("loop 9;loop 9;loop9;end;end;end;", 9), 27);
        // All thirty are loops with an end each, in just 300 bytes.
        String tight = often("loop9;end;", 30);
        talksTaken(tight, 30);
        ChalkRoom x = laid(TALKS_ROOM);
        Texts.talks(x, tight);
        DUES.due(59, x, "live of thirty loops around nothing", x.live(0), 30, 0);
        DUES.due(60, x, "lived(4)", x.lived(4), 0, 0);
        talksRefused(often("loop9;end;", 29) + "end;", 2, 290);
    }

    /** "7 a when, loop within three others (at its WORD)". */
    private static void threeWithin() {
        String three = "loop 1;when value 0=0;loop 1;";
        talksTaken(three + "night;end;end;end;", 4);
        talksRefused(three + "loop 1;end;end;end;end;", 7, 29);
        talksRefused(three + "when value 0=0;end;end;end;end;", 7, 29);
        talksRefused(three + "night;when", 7, 35);
        talksTaken(three + "end;loop 1;end;end;loop 1;loop 1;end;end;end;", 6);
        talksRefused(three + "end;loop 1;loop 1;", 7, 40);
        talksRefused("when value 0=0;when value 0=0;when value 0=0;when", 7, 45);
    }

    private static void leastKindInTalks() {
        // 6 ahead of 7: the 31st STEP is a loop within three others.
        talksRefused("loop 1;loop 1;loop 1;" + often("stop;", 27) + "loop", 6, 156);
        // 7 at the 30th.
        talksRefused("loop 1;loop 1;loop 1;" + often("stop;", 26) + "loop", 7, 151);
        // 2 ahead of 3: a NAME that must not be.
        talksRefused("move any to 0 0;", 2, 5);
        // 1 ahead of all.
        talksRefused(often("stop;", 30) + "Stop;", 1, 150);
        talksRefused("move 12345 to 0 0;", 1, 5);
        // The first along the text.
        talksRefused("yield 2 9 0;?", 4, 6);
        talksRefused("move b to ?", 3, 5);
    }

    private static void bareTalks(String text, int answer, int kind, int place) {
        ChalkRoom x = new ChalkRoom();
        DUES.due(11, x, "talks of '" + text + "' without rows", Texts.talks(x, text), answer, kind == 0 ? 0 : 9);
        DUES.due(12, "fault(0) of '" + text + "' without rows", x.fault(0), kind);
        DUES.due(12, "fault(1) of '" + text + "' without rows", x.fault(1), place);
    }

    /** In a ROOM of no boards there are no rows, columns, THINGS. */
    private static void talksWithoutRows() {
        bareTalks("night;any 0;any 1;stop;loop 1;end;when boards 0=0;end;when value 1<999;end;", 7, 0, NONE);
        bareTalks("sweep 0;", NONE, 4, 6);
        bareTalks("yield 0 0 1;", NONE, 4, 8);
        bareTalks("move a to 0 0;", NONE, 3, 5);
        bareTalks("when holds 0 a;end;", NONE, 3, 13);
    }

    /** TALKS that are taken are there in place of those ahead; with a FAULT the old ones stay. */
    private static void talksInPlace() {
        ChalkRoom x = laid(TALKS_ROOM);
        DUES.due(11, x, "talks", Texts.talks(x, "night;night;night;"), 3, 0);
        DUES.due(11, x, "live", x.live(0), 3, 0);
        DUES.due(11, x, "talks with a FAULT at the end", Texts.talks(x, "stop;stop"), NONE, 9);
        DUES.due(11, x, "the old ones stay", x.live(0), 3, 0);
        DUES.due(11, x, "other talks", Texts.talks(x, "night;"), 1, 0);
        DUES.due(11, x, "live of these", x.live(0), 1, 0);
        DUES.due(11, "the ROOM stays", x.told(6), 7);
        DUES.due(11, x, "TALKS of no STEPS", x.talks(0), 0, 0);
        DUES.due(11, x, "live of these", x.live(0), 0, 0);
    }

    /** A text is read as if it were the first: nothing is left of those ahead, taken or not. */
    private static void textsBehindOthers() {
        ChalkRoom x = laid(HEAD + "line 1 1 1;bends 0;thing a at 0 0 worth 1 1 leg 1 big;");
        DUES.due(10, x, "line, bends, the NAME, the board again",
            Texts.room(x, HEAD + "line 1 1 1;bends 0;thing a at 0 0 worth 1 1;"), 1, 0);
        DUES.due(15, x, "no LEG", x.thing(0, 4), NONE, 6);
        DUES.due(15, x, "not BIG", x.thing(0, 5), 0, 0);
        DUES.due(10, x, "a FAULT behind room, line, bends", Texts.room(x, HEAD + "line 1 1 1;bends 0;line"), NONE, 9);
        DUES.due(10, x, "line ahead of room", Texts.room(x, "line 1 1 1;"), NONE, 9);
        DUES.due(12, "fault(0)", x.fault(0), 2);
        DUES.due(10, x, "line, bends", Texts.room(x, HEAD + "line 1 1 1;bends 0;"), 0, 0);
        DUES.due(11, x, "TALKS with a FAULT within two", Texts.talks(x, "loop 1;loop 1;?"), NONE, 9);
        DUES.due(11, x, "an end without a beginning", Texts.talks(x, "end;"), NONE, 9);
        DUES.due(12, "fault(0)", x.fault(0), 2);
        DUES.due(12, "fault(1)", x.fault(1), 0);
        DUES.due(11, x, "TALKS with a FAULT within two", Texts.talks(x, "loop 1;loop 1;?"), NONE, 9);
        DUES.due(11, x, "three within each other", Texts.talks(x, "loop 1;loop 1;loop 1;end;end;end;"), 3, 0);
        DUES.due(11, x, "TALKS with a FAULT within three", Texts.talks(x, "loop 1;loop 1;loop 1;?"), NONE, 9);
        DUES.due(11, x, "without any", Texts.talks(x, "night;"), 1, 0);
        // mean() is let in between, for it keeps the ROOM for a while.
        ChalkRoom y = laid(TALKS_ROOM + "bends 2;", "night;");
        y.cede(0, 0, 1);
        y.cede(1, 1, 2);
        y.night();
        y.leg(0, 1);
        y.mean(0, 0, 3);
        DUES.due(10, y, "room behind mean()", Texts.room(y, "room 2 by 2;thing a at 0 0 worth 1 1;"), 1, 0);
        int[] due = {2, 2, 1, 9, 0, 0, 0};
        for (int what = 0; what < 7; what++) {
            DUES.due(10, "told(" + what + ") behind mean()", y.told(what), due[what]);
        }
        DUES.due(15, y, "no LEG", y.thing(0, 4), NONE, 6);
        ChalkRoom z = laid(HEAD + "thing a at 0 0 worth 1 1 big;", "night;");
        z.mean(0, 0, 1);
        Texts.room(z, "room 2 by 2;thing b at 0 0 worth 1 1;");
        DUES.due(15, z, "not BIG behind mean()", z.thing(0, 5), 0, 0);
    }

    /** A WORD or NUMBER that goes on behind the n-th byte of the tape ends there. */
    private static void wordsCutByTheEnd() {
        ChalkRoom x = laid(TALKS_ROOM);
        Texts.feed(x, "night;loops");
        DUES.due(11, x, "talks(10): .. loop", x.talks(10), NONE, 9);
        DUES.due(12, "fault(1): the end", x.fault(1), 10);
        Texts.feed(x, "room 1 by 1;bendsx");
        DUES.due(10, x, "room(17): .. bends", x.room(17), NONE, 9);
        DUES.due(12, "fault(1): the end", x.fault(1), 17);
        Texts.feed(x, "room 1 by 12345");
        DUES.due(10, x, "room(11): .. 1", x.room(11), NONE, 9);
        DUES.due(12, "fault(0)", x.fault(0), 2);
        DUES.due(12, "fault(1): the end", x.fault(1), 11);
        Texts.feed(x, "loop 99999");
        DUES.due(11, x, "talks(9): .. 9999", x.talks(9), NONE, 9);
        DUES.due(12, "fault(0)", x.fault(0), 4);
        DUES.due(12, "fault(1)", x.fault(1), 5);
    }

    /** A column that there is none of, though there is such a row, and the other way round. */
    private static void columnsAreNoRows() {
        refused("room 1 by 7;thing a at 1 0 worth 1 1;", 4, 23);
        refused("room 1 by 7;thing a at 6 0 worth 1 1;", 4, 23);
        refused("room 9 by 1;thing a at 0 1 worth 1 1;", 4, 25);
        taken("room 1 by 7;thing a at 0 6 worth 1 1;", 1);
        taken("room 9 by 1;thing a at 8 0 worth 1 1;", 1);
        ChalkRoom x = laid("room 1 by 7;thing a at 0 0 worth 1 1;");
        DUES.due(11, x, "move a to 1 0", Texts.talks(x, "move a to 1 0;"), NONE, 9);
        DUES.due(12, "fault(0)", x.fault(0), 4);
        DUES.due(12, "fault(1)", x.fault(1), 10);
        DUES.due(11, x, "move a to 0 6", Texts.talks(x, "move a to 0 6;"), 1, 0);
        ChalkRoom y = laid("room 9 by 1;thing a at 0 0 worth 1 1;");
        DUES.due(11, y, "move a to 8 1", Texts.talks(y, "move a to 8 1;"), NONE, 9);
        DUES.due(12, "fault(1)", y.fault(1), 12);
        DUES.due(11, y, "sweep 1", Texts.talks(y, "sweep 1;"), NONE, 9);
        DUES.due(11, y, "yield 1 1 1", Texts.talks(y, "yield 1 1 1;"), NONE, 9);
        DUES.due(12, "fault(1)", y.fault(1), 8);
        DUES.due(16, x, "on(1, 0)", x.on(1, 0), NONE, 1);
        DUES.due(16, y, "on(0, 1)", y.on(0, 1), NONE, 1);
        DUES.due(33, x, "move(0, 1, 0)", x.move(0, 1, 0), false, 1);
        DUES.due(33, y, "move(0, 0, 1)", y.move(0, 0, 1), false, 1);
    }

    /** fault(): "of the latest room() or talks() with STATUS 0 or 9"; "NONE for others, and ahead of any". */
    private static void faultTold() {
        ChalkRoom x = new ChalkRoom();
        DUES.due(12, "fault(0) ahead of any", x.fault(0), NONE);
        DUES.due(12, "fault(1) ahead of any", x.fault(1), NONE);
        x.talks(-1);
        x.room(1);
        DUES.due(12, "fault(0) behind STATUS 1", x.fault(0), NONE);
        x.room(0);
        DUES.due(12, "fault(0) of one without", x.fault(0), 0);
        DUES.due(12, "fault(1) of one without", x.fault(1), NONE);
        Texts.talks(x, "night;?");
        DUES.due(12, "fault(0)", x.fault(0), 1);
        DUES.due(12, "fault(1)", x.fault(1), 6);
        x.room(5);
        x.talks(301);
        x.undo();
        DUES.due(12, "fault(0) behind STATUS 1", x.fault(0), 1);
        DUES.due(12, "fault(1) behind STATUS 1", x.fault(1), 6);
        for (int what : new int[] {-1, 2, Integer.MIN_VALUE, Integer.MAX_VALUE}) {
            DUES.due(12, "fault(" + what + ")", x.fault(what), NONE);
        }
        Texts.room(x, "room 1 by 8;");
        DUES.due(12, "fault(0)", x.fault(0), 4);
        DUES.due(12, "fault(1)", x.fault(1), 10);
        x.talks(0);
        DUES.due(12, "fault(0) of one without", x.fault(0), 0);
        DUES.due(12, "fault(1) of one without", x.fault(1), NONE);
    }
}
