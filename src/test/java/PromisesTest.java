/** For each promise of the document: ordinary calls, its edges and wrong calls, with answers told by hand. */
public final class PromisesTest {
    private static final int NONE = ChalkRoom.NONE;
    private static int passed = 0;
    private static int failed = 0;

    private PromisesTest() {
    }

    public static void main(String[] args) {
        newObject();
        statusAndFraction();
        trays();
        pouring();
        feeding();
        roomText();
        roomFaults();
        talksText();
        talksFaults();
        faultCall();
        tellings();
        holdings();
        worths();
        lineShape();
        choices();
        deeds();
        nightsAndBrooms();
        linesByTray();
        islands();
        ways();
        straits();
        bridges();
        giving();
        asking();
        pricing();
        peace();
        countingLines();
        games();
        living();
        longLives();
        draws();
        means();
        marks();
        wrongLands();
        System.out.println("PromisesTest: " + passed + " passed, " + failed + " failed");
        if (failed > 0) {
            System.exit(1);
        }
    }

    private static void due(int promise, String call, long got, long want) {
        if (got == want) {
            passed++;
        } else {
            failed++;
            System.out.println("promise " + promise + ": " + call + " answered " + got + ", due is " + want);
        }
    }

    private static void due(int promise, String call, boolean got, boolean want) {
        due(promise, call, got ? 1 : 0, want ? 1 : 0);
    }

    /** An answer together with the STATUS behind it. */
    private static void due(int promise, ChalkRoom x, String call, long got, long want, int status) {
        due(promise, call, got, want);
        due(promise, "status() behind " + call, x.status(), status);
    }

    private static void due(int promise, ChalkRoom x, String call, boolean got, boolean want, int status) {
        due(promise, x, call, got ? 1 : 0, want ? 1 : 0, status);
    }

    private static ChalkRoom laid(String text) {
        ChalkRoom x = new ChalkRoom();
        Texts.room(x, text);
        due(10, "status() of " + text, x.status(), 0);
        return x;
    }

    private static ChalkRoom laid(String text, String talks) {
        ChalkRoom x = laid(text);
        Texts.talks(x, talks);
        due(11, "status() of " + talks, x.status(), 0);
        return x;
    }

    private static void newObject() {
        ChalkRoom x = new ChalkRoom();
        due(1, "status()", x.status(), 0);
        due(1, "top()", x.top(), 0);
        due(1, "bottom()", x.bottom(), 1);
        due(1, "told(0)", x.told(0), 0);
        due(1, "told(1)", x.told(1), 0);
        due(1, "told(2)", x.told(2), 0);
        due(1, "told(3)", x.told(3), 9);
        due(1, "told(4)", x.told(4), 0);
        due(1, "told(5)", x.told(5), 0);
        due(1, "told(6)", x.told(6), 0);
        due(1, "fault(0)", x.fault(0), NONE);
        due(1, "fault(1)", x.fault(1), NONE);
        for (int t = 0; t < 4; t++) {
            due(1, x, "read", x.read(t, 0), NONE, 2);
        }
        due(1, x, "room(1)", x.room(1), NONE, 1);
        due(1, x, "undo()", x.undo(), NONE, 6);
        due(1, x, "live(0)", x.live(0), NONE, 6);
        due(1, x, "lived(0)", x.lived(0), NONE, 6);
        due(1, x, "mean(0, 0, 1)", x.mean(0, 0, 1), false, 6);
        due(1, x, "land(0, 0)", x.land(0, 0), NONE, 1);
        due(1, x, "on(0, 0)", x.on(0, 0), NONE, 1);
        due(1, "NONE", ChalkRoom.NONE, -1);
    }

    private static void statusAndFraction() {
        ChalkRoom x = laid("room 2 by 1;thing a at 0 0 worth 4 0;thing b at 1 0 worth 6 0;");
        due(2, x, "line(9)", x.line(9), NONE, 1);
        x.feed(0, 0, 0, 0, 0);
        x.fault(0);
        x.top();
        x.bottom();
        due(2, "status() behind calls without one", x.status(), 1);
        due(2, "status() behind itself", x.status(), 1);
        due(3, "top() ahead", x.top(), 0);
        due(21, x, "share(0)", x.share(0), true, 0);
        due(3, "top()", x.top(), 2);
        due(4, "bottom()", x.bottom(), 5);
        due(21, x, "share(1)", x.share(1), false, 6);
        due(3, "top() stays", x.top(), 2);
        due(4, "bottom() stays", x.bottom(), 5);
        due(21, x, "share(2)", x.share(2), false, 1);
        due(2, "fine again", x.chalk(), 1);
        due(2, "status()", x.status(), 0);
        x.cede(0, 0, 1);
        due(21, x, "share(0) of nothing held", x.share(0), true, 0);
        due(3, "top() of 0", x.top(), 0);
        due(4, "bottom() of 0", x.bottom(), 1);
    }

    private static void trays() {
        ChalkRoom x = new ChalkRoom();
        due(5, x, "tray(-1, 0, 1)", x.tray(-1, 0, 1), false, 1);
        due(5, x, "tray(4, 0, 1)", x.tray(4, 0, 1), false, 1);
        due(5, x, "tray(0, -1, 1)", x.tray(0, -1, 1), false, 1);
        due(5, x, "tray(0, 4, 1)", x.tray(0, 4, 1), false, 1);
        due(5, x, "tray(0, 0, -1)", x.tray(0, 0, -1), false, 1);
        due(5, x, "tray(0, 0, 61)", x.tray(0, 0, 61), false, 1);
        due(7, x, "still missing", x.read(0, 0), NONE, 2);
        due(5, x, "tray(0, 0, 60)", x.tray(0, 0, 60), true, 0);
        due(5, x, "tray(1, 1, 2)", x.tray(1, 1, 2), true, 0);
        due(5, x, "tray(2, 2, 2)", x.tray(2, 2, 2), true, 0);
        due(5, x, "tray(3, 3, 0)", x.tray(3, 3, 0), true, 0);
        due(7, x, "no place in an empty tray", x.read(3, 0), NONE, 3);
        due(6, x, "write(0, 59, 200)", x.write(0, 59, 200), true, 0);
        due(7, x, "read(0, 59)", x.read(0, 59), -56, 0);
        due(6, x, "write(0, 0, 128)", x.write(0, 0, 128), true, 0);
        due(7, x, "read(0, 0)", x.read(0, 0), -128, 0);
        due(6, x, "write(0, 1, 256 + 7)", x.write(0, 1, 263), true, 0);
        due(7, x, "read(0, 1)", x.read(0, 1), 7, 0);
        due(6, x, "write(0, 1, 255)", x.write(0, 1, 255), true, 0);
        due(7, x, "read(0, 1): -1, not NONE", x.read(0, 1), -1, 0);
        due(6, x, "write(1, 1, 40000)", x.write(1, 1, 40000), true, 0);
        due(7, x, "read(1, 1)", x.read(1, 1), -25536, 0);
        due(6, x, "write(2, 0, 1 << 31)", x.write(2, 0, 1L << 31), true, 0);
        due(7, x, "read(2, 0)", x.read(2, 0), Integer.MIN_VALUE, 0);
        due(5, x, "tray(3, 3, 1)", x.tray(3, 3, 1), true, 0);
        due(6, x, "write(3, 0, least)", x.write(3, 0, Long.MIN_VALUE), true, 0);
        due(7, x, "read(3, 0)", x.read(3, 0), Long.MIN_VALUE, 0);
        due(6, x, "write(4, 0, 1)", x.write(4, 0, 1), false, 1);
        due(6, x, "write(0, 60, 1)", x.write(0, 60, 1), false, 3);
        due(6, x, "write(0, -1, 1)", x.write(0, -1, 1), false, 3);
        due(6, x, "write(0, greatest, 1)", x.write(0, Integer.MAX_VALUE, 1), false, 3);
        due(7, x, "read(-1, 0)", x.read(-1, 0), NONE, 1);
        due(7, x, "read(1, 2)", x.read(1, 2), NONE, 3);
        due(5, x, "tray(0, 0, 60) again", x.tray(0, 0, 60), true, 0);
        due(5, x, "all 0s again", x.read(0, 59), 0, 0);
    }

    private static void pouring() {
        ChalkRoom x = new ChalkRoom();
        x.tray(0, 1, 5);
        x.tray(1, 1, 3);
        x.tray(2, 2, 3);
        for (int i = 0; i < 5; i++) {
            x.write(0, i, i + 1);
        }
        due(8, x, "pour(0, 0, 0, 1, 4)", x.pour(0, 0, 0, 1, 4), true, 0);
        for (int i = 0; i < 5; i++) {
            due(8, "as they were", x.read(0, i), i == 0 ? 1 : i);
        }
        due(8, x, "pour(0, 1, 0, 0, 4)", x.pour(0, 1, 0, 0, 4), true, 0);
        for (int i = 0; i < 5; i++) {
            due(8, "as they were, back", x.read(0, i), i == 4 ? 4 : i + 1);
        }
        due(8, x, "pour(0, 2, 1, 0, 3)", x.pour(0, 2, 1, 0, 3), true, 0);
        due(8, "read(1, 0)", x.read(1, 0), 3);
        due(8, "read(1, 2)", x.read(1, 2), 4);
        due(8, x, "pour of none", x.pour(0, 0, 1, 0, 0), true, 0);
        due(8, x, "too many for the one", x.pour(0, 3, 1, 0, 3), false, 3);
        due(8, x, "too many for the other", x.pour(0, 0, 1, 1, 3), false, 3);
        due(8, x, "far too many", x.pour(0, Integer.MAX_VALUE, 1, 0, Integer.MAX_VALUE), false, 3);
        due(8, x, "unlike ahead of too many", x.pour(0, 0, 2, 0, 9), false, 8);
        due(8, x, "missing ahead of unlike", x.pour(0, 0, 3, 0, 9), false, 2);
        due(8, x, "missing", x.pour(3, 0, 0, 0, 1), false, 2);
        due(8, x, "below 0 ahead of missing", x.pour(0, -1, 3, 0, 1), false, 1);
        due(8, x, "at below 0", x.pour(0, 0, 1, -1, 1), false, 1);
        due(8, x, "many below 0", x.pour(0, 0, 1, 0, -1), false, 1);
        due(8, x, "no such tray", x.pour(4, 0, 1, 0, 1), false, 1);
        due(8, x, "no such tray there", x.pour(0, 0, -1, 0, 1), false, 1);
        due(8, "nothing changed", x.read(1, 0), 3);
    }

    private static void feeding() {
        ChalkRoom x = new ChalkRoom();
        for (int i = 1; i <= 45; i++) {
            due(9, "feed", x.feed(0x20202020, 0x20202020, 0x20202020, 0x20202020, 0x20202020), i * 20);
        }
        due(9, "one more", x.feed(0, 0, 0, 0, 0), NONE);
        due(10, x, "room(901)", x.room(901), NONE, 1);
        due(10, x, "room(900) of blanks", x.room(900), 0, 0);
        due(9, "empty again", x.feed(0x726f6f6d, 0x20322062, 0x7920333b, 0, 0), 20);
        due(9, "the highest byte first", x.room(12), 0);
        due(9, "told(1)", x.told(1), 3);
        due(10, x, "the tape is empty then", x.room(1), NONE, 1);
    }

    private static void roomText() {
        ChalkRoom x = new ChalkRoom();
        due(10, x, "room", Texts.room(x, "room 5 by 3;thing safe at 4 2 worth 0 99 leg 1 big;"
            + "thing abcdefgh at 0 0 worth 7 0099 big;\nbends 0;line 0 5 3;thing x at 1 0 worth 1 2 leg 0;"), 3, 0);
        due(13, "told(0)", x.told(0), 5);
        due(13, "told(1)", x.told(1), 3);
        due(13, "told(2)", x.told(2), 3);
        due(13, "told(3)", x.told(3), 0);
        due(14, "line(0)", x.line(0), 0);
        due(14, "line(1)", x.line(1), 5);
        due(14, "line(2)", x.line(2), 3);
        due(15, "thing(0, 0)", x.thing(0, 0), 4);
        due(15, "thing(0, 1)", x.thing(0, 1), 2);
        due(15, "thing(0, 2)", x.thing(0, 2), 0);
        due(15, "thing(0, 3)", x.thing(0, 3), 99);
        due(15, "thing(0, 4)", x.thing(0, 4), 1);
        due(15, "thing(0, 5)", x.thing(0, 5), 1);
        due(15, "thing(1, 3)", x.thing(1, 3), 99);
        due(15, x, "thing(1, 4)", x.thing(1, 4), NONE, 6);
        due(15, "thing(2, 5)", x.thing(2, 5), 0);
        due(15, "thing(2, 4)", x.thing(2, 4), 0);
        x.cede(0, 1, 2);
        x.night();
        due(10, x, "no space between tokens", Texts.room(x, "room9by7;"), 0, 0);
        due(10, "told(0)", x.told(0), 9);
        due(10, "bends without", x.told(3), 9);
        due(10, "line without", x.line(6), 4);
        due(10, "nobody yielded", x.told(4), 0);
        due(10, "no nights", x.told(6), 0);
        due(10, "no things", x.told(2), 0);
        due(10, x, "an empty text", x.room(0), 0, 0);
        due(10, "told(0)", x.told(0), 0);
        due(10, "told(1)", x.told(1), 0);
        due(10, x, "room(-1)", x.room(-1), NONE, 1);
        x.feed(0, 0, 0, 0, 0);
        due(10, x, "room(21)", x.room(21), NONE, 1);
        due(10, x, "the tape was kept", x.room(20), NONE, 9);
        due(10, "fault(0)", x.fault(0), 1);
    }

    private static void fails(int promise, ChalkRoom x, boolean isRoom, String text, int kind, int place) {
        int got = isRoom ? Texts.room(x, text) : Texts.talks(x, text);
        due(promise, x, text, got, NONE, 9);
        due(promise, "fault(0) of " + text, x.fault(0), kind);
        due(promise, "fault(1) of " + text, x.fault(1), place);
        due(promise, x, "the tape is empty behind a fault", isRoom ? x.room(1) : x.talks(1), NONE, 1);
    }

    private static void roomFails(String text, int kind, int place) {
        ChalkRoom x = laid("room 3 by 2;");
        fails(10, x, true, text, kind, place);
        due(10, "the old room stays", x.told(0), 3);
    }

    private static void roomFaults() {
        String head = "room 2 by 2;";
        roomFails("Room 2 by 2;", 1, 0);
        roomFails("room 12345 by 2;", 1, 5);
        roomFails("room 2 by 2;\t", 1, 12);
        roomFails("room 2 by 2;" + (char) 233, 1, 12);
        roomFails("12345", 1, 0);
        roomFails("1234", 2, 0);
        roomFails("room", 2, 4);
        roomFails("room 2 ", 2, 7);
        roomFails("room 2 by 2 \n ", 2, 14);
        roomFails("room by", 2, 5);
        roomFails("room 2 at 2;", 2, 7);
        roomFails("bends 2;room 2 by 2;", 2, 0);
        roomFails("thing a at 0 0 worth 1 1;", 2, 0);
        roomFails(" ;", 2, 1);
        roomFails(head + "yield", 2, 12);
        roomFails(head + ";", 2, 12);
        roomFails(head + "<", 2, 12);
        roomFails("roomy 2 by 2;", 2, 0);
        roomFails(head + "thing 1", 2, 18);
        roomFails(head + "thing stop at 0 0 worth 1 1;", 2, 18);
        roomFails(head + "thing abcdefghi at 0 0 worth 1 1;", 2, 18);
        roomFails(head + "thing a at 0 0 worth 1 1 big leg 1;", 2, 41);
        roomFails(head + "thing a at 0 0 worth 1 1 leg;", 2, 40);
        roomFails(head + "line 1;", 2, 18);
        roomFails(head + "line 1 1 9;", 2, 21);
        roomFails(head + "thing a at 0 0 worth 1 1;thing a", 3, 43);
        roomFails("room 0 by 2;", 4, 5);
        roomFails("room 10 by 2;", 4, 5);
        roomFails("room 2 by 0;", 4, 10);
        roomFails("room 2 by 8;", 4, 10);
        roomFails(head + "line 3 1;", 4, 17);
        roomFails(head + "bends 10;", 4, 18);
        roomFails(head + "thing a at 2 0", 4, 23);
        roomFails(head + "thing a at 0 2", 4, 25);
        roomFails(head + "thing a at 0 0 worth 100 1", 4, 33);
        roomFails(head + "thing a at 0 0 worth 1 100", 4, 35);
        roomFails(head + "thing a at 0 0 worth 1 1 leg 2", 4, 41);
        roomFails(head + "room", 5, 12);
        roomFails(head + "line 1 1;line", 5, 21);
        roomFails(head + "bends 1;bends", 5, 20);
        roomFails(head + "thing a at 0 0 worth 1 1;thing b at 0 0", 5, 50);
        StringBuilder many = new StringBuilder("room 9 by 7;");
        for (int i = 0; i < 10; i++) {
            many.append("thing ").append((char) ('a' + i)).append(" at ").append(i / 7).append(' ').append(i % 7)
                .append(" worth 1 1;");
        }
        ChalkRoom x = laid(many.toString());
        due(10, "ten things", x.told(2), 10);
        roomFails(many + "thing", 6, many.length());
    }

    private static void talksText() {
        ChalkRoom x = laid("room 3 by 2;thing a at 0 0 worth 1 1;");
        due(11, x, "talks", Texts.talks(x, "yield 0 1 9;night;sweep 1;move a to 2 1;any 1;when boards 0<99;stop;end;"
            + "when value 1 > 999;end;when boards 1 = 0;end;when holds 1 a;loop 99;loop 1;night;end;end;end;"), 13, 0);
        due(11, x, "no steps", x.talks(0), 0, 0);
        Texts.feed(x, "night;");
        due(11, x, "talks(-1)", x.talks(-1), NONE, 1);
        due(11, x, "talks(21)", x.talks(21), NONE, 1);
        due(11, x, "the tape was kept", x.talks(6), 1, 0);
        StringBuilder blanks = new StringBuilder();
        for (int i = 0; i < 320; i++) {
            blanks.append(' ');
        }
        Texts.feed(x, blanks.toString());
        due(11, x, "talks(301)", x.talks(301), NONE, 1);
        due(11, x, "talks(300)", x.talks(300), 0, 0);
        due(11, x, "any in no rooms", Texts.talks(new ChalkRoom(), "any 0;"), 1, 0);
    }

    private static void talksFails(String text, int kind, int place) {
        ChalkRoom x = laid("room 3 by 2;thing a at 0 0 worth 1 1;", "night;night;");
        fails(11, x, false, text, kind, place);
        due(11, "the old talks stay", x.live(0), 2);
    }

    private static void talksFaults() {
        talksFails("night?", 1, 5);
        talksFails("loop 00001;", 1, 5);
        talksFails("night", 2, 5);
        talksFails("room", 2, 0);
        talksFails("night;;", 2, 6);
        talksFails("end;", 2, 0);
        talksFails("loop 2;end;end;", 2, 11);
        talksFails("loop 2;night; ", 2, 14);
        talksFails("when boards 0<3;", 2, 16);
        talksFails("when boards 0;", 2, 13);
        talksFails("when 0;", 2, 5);
        talksFails("when holds 0 boards;", 2, 13);
        talksFails("move abcdefghi to 0 0;", 2, 5);
        talksFails("move a 0 0;", 2, 7);
        talksFails("yield 0 0;", 2, 9);
        talksFails("loop 1;end", 2, 10);
        talksFails("move b to 0 0;", 3, 5);
        talksFails("when holds 0 b;end;", 3, 13);
        talksFails("yield 2 0 1;", 4, 6);
        talksFails("yield 0 2 1;", 4, 8);
        talksFails("yield 0 0 0;", 4, 10);
        talksFails("yield 0 0 10;", 4, 10);
        talksFails("sweep 2;", 4, 6);
        talksFails("move a to 3 0;", 4, 10);
        talksFails("move a to 0 2;", 4, 12);
        talksFails("any 2;", 4, 4);
        talksFails("when boards 2<1;", 4, 12);
        talksFails("when boards 0<100;", 4, 14);
        talksFails("when value 0<1000;", 4, 13);
        talksFails("when holds 2 a;", 4, 11);
        talksFails("loop 0;end;", 4, 5);
        talksFails("loop 100;end;", 4, 5);
        String thirty = "";
        for (int i = 0; i < 30; i++) {
            thirty += "stop;";
        }
        talksFails(thirty + "stop", 6, 150);
        talksFails("loop 1;loop 1;loop 1;end;end;end;" + thirty.substring(15) + "stop;stop", 6, 33 + 135);
        talksFails("loop 1;loop 1;when value 0=0;loop", 7, 29);
        talksFails("loop 1;loop 1;loop 1;when", 7, 21);
        talksFails("loop 1;loop 1;loop 1;" + thirty.substring(15) + "loop", 6, 21 + 135);
        ChalkRoom x = new ChalkRoom();
        fails(11, x, false, "sweep 0;", 4, 6);
        fails(11, x, false, "yield 0 0 1;", 4, 8);
        due(11, x, "thirty", Texts.talks(x, thirty), 30, 0);
        due(11, x, "three within each other, side by side",
            Texts.talks(x, "loop 1;loop 1;loop 1;end;loop 1;end;end;loop 1;end;end;"), 5, 0);
    }

    private static void faultCall() {
        ChalkRoom x = new ChalkRoom();
        due(12, "fault(0) ahead of any", x.fault(0), NONE);
        x.room(5);
        due(12, "fault(0) behind status 1", x.fault(0), NONE);
        Texts.room(x, "room 1 by 1;?");
        due(12, "fault(0)", x.fault(0), 1);
        due(12, "fault(1)", x.fault(1), 12);
        due(12, "fault(2)", x.fault(2), NONE);
        due(12, "fault(-1)", x.fault(-1), NONE);
        x.talks(7);
        due(12, "fault(1) behind status 1", x.fault(1), 12);
        x.talks(0);
        due(12, "fault(0) without one", x.fault(0), 0);
        due(12, "fault(1) without one", x.fault(1), NONE);
    }

    private static void tellings() {
        ChalkRoom x = laid("room 4 by 3;bends 2;thing a at 3 1 worth 5 6;");
        due(13, x, "told(-1)", x.told(-1), NONE, 1);
        due(13, x, "told(7)", x.told(7), NONE, 1);
        x.cede(0, 0, 9);
        x.cede(1, 1, 1);
        x.cede(1, 2, 1);
        x.night();
        x.night();
        due(13, x, "told(4)", x.told(4), 2, 0);
        due(13, x, "told(5)", x.told(5), 2, 0);
        due(13, x, "told(6)", x.told(6), 2, 0);
        due(14, x, "line(-1)", x.line(-1), NONE, 1);
        due(14, x, "line(3)", x.line(3), NONE, 1);
        due(14, x, "line(0)", x.line(0), 0, 0);
        due(15, x, "thing(1, 0)", x.thing(1, 0), NONE, 1);
        due(15, x, "thing(-1, 0)", x.thing(-1, 0), NONE, 1);
        due(15, x, "thing(0, 6)", x.thing(0, 6), NONE, 1);
        due(15, x, "thing(0, -1)", x.thing(0, -1), NONE, 1);
        due(16, x, "on(3, 1)", x.on(3, 1), 0, 0);
        due(16, x, "on(2, 1)", x.on(2, 1), NONE, 6);
        due(16, x, "on(4, 1)", x.on(4, 1), NONE, 1);
        due(16, x, "on(3, 3)", x.on(3, 3), NONE, 1);
        due(16, x, "on(-1, 0)", x.on(-1, 0), NONE, 1);
        due(16, x, "on(0, -1)", x.on(0, -1), NONE, 1);
    }

    private static void holdings() {
        ChalkRoom x = laid("room 4 by 2;line 1 3;thing a at 0 0 worth 5 3 leg 1;thing b at 3 1 worth 9 1 leg 0;"
            + "thing c at 1 0 worth 2 8;thing d at 2 1 worth 4 4;");
        due(17, x, "land(0, 0)", x.land(0, 0), 1, 0);
        due(17, x, "land(1, 0)", x.land(1, 0), 1, 0);
        due(17, x, "land(2, 1)", x.land(2, 1), 0, 0);
        due(17, x, "land(3, 1)", x.land(3, 1), 0, 0);
        due(17, x, "land(4, 1)", x.land(4, 1), NONE, 1);
        due(17, x, "land(0, 2)", x.land(0, 2), NONE, 1);
        due(18, x, "boards(0)", x.boards(0), 4, 0);
        due(18, x, "boards(1)", x.boards(1), 4, 0);
        x.leg(3, 1);
        due(18, x, "boards(0)", x.boards(0), 3, 0);
        due(18, x, "boards(1)", x.boards(1), 5, 0);
        x.leg(3, 0);
        due(18, x, "a leg in one's own land", x.boards(0), 4, 0);
        x.leg(3, NONE);
        due(19, x, "value(0)", x.value(0), 13, 0);
        due(19, x, "value(1)", x.value(1), 11, 0);
        due(20, x, "things(0)", x.things(0), 10, 0);
        due(20, x, "things(1)", x.things(1), 5, 0);
        due(34, x, "leg(0, 2)", x.leg(0, 2), false, 1);
        due(34, x, "leg(0, -2)", x.leg(0, -2), false, 1);
        due(34, x, "leg(4, 0)", x.leg(4, 0), false, 1);
        due(34, x, "leg(-1, 0)", x.leg(-1, 0), false, 1);
        due(34, x, "leg(0, NONE)", x.leg(0, NONE), true, 0);
        due(34, x, "land(0, 0) without the leg", x.land(0, 0), 0, 0);
        due(34, x, "thing(0, 4)", x.thing(0, 4), NONE, 6);
        due(34, x, "leg(0, 1)", x.leg(0, 1), true, 0);
        due(34, x, "thing(0, 4)", x.thing(0, 4), 1, 0);
    }

    private static void worths() {
        ChalkRoom x = laid("room 3 by 1;line 1;thing a at 0 0 worth 3 4;thing b at 1 0 worth 2 4;thing c at 2 0 worth 2 1;");
        due(21, x, "share(0)", x.share(0), true, 0);
        due(21, "top()", x.top(), 3);
        due(21, "bottom()", x.bottom(), 7);
        due(22, x, "envy(0)", x.envy(0), 1, 0);
        due(22, x, "envy(1): -1, not NONE", x.envy(1), -1, 0);
        due(22, x, "envy(-1)", x.envy(-1), NONE, 1);
        due(23, x, "fair()", x.fair(), 0, 0);
        x.move(2, 0, 0);
        due(33, x, "to a board with a thing", x.move(2, 0, 0), false, 7);
        x.leg(2, 0);
        due(22, x, "envy(0)", x.envy(0), -3, 0);
        due(22, x, "envy(1)", x.envy(1), 1, 0);
        due(23, x, "fair() for one alone", x.fair(), 0, 0);
        ChalkRoom y = laid("room 2 by 1;thing a at 0 0 worth 3 5;thing b at 1 0 worth 3 5;");
        due(22, y, "envy(0) of 0", y.envy(0), 0, 0);
        due(23, y, "fair() by 0", y.fair(), 1, 0);
        due(21, y, "share(1)", y.share(1), true, 0);
        due(21, "bottom()", y.bottom(), 2);
        y.cede(0, 0, 1);
        due(21, y, "share(1) of all", y.share(1), true, 0);
        due(21, "top() of all", y.top(), 1);
        due(21, "bottom() of all", y.bottom(), 1);
    }

    private static void lineShape() {
        ChalkRoom x = laid("room 5 by 4;bends 2;line 5 2 4 0;");
        due(24, x, "chalk()", x.chalk(), 13, 0);
        due(25, x, "bulges()", x.bulges(), 2, 0);
        due(35, x, "bends(4)", x.bends(4), true, 0);
        due(25, x, "bulges() by just that", x.bulges(), 0, 0);
        due(35, x, "bends(0)", x.bends(0), true, 0);
        due(25, x, "bulges()", x.bulges(), 3, 0);
        due(35, x, "bends(10)", x.bends(10), false, 1);
        due(35, x, "bends(-1)", x.bends(-1), false, 1);
        due(35, x, "told(3)", x.told(3), 0, 0);
        due(24, "chalk() without rows", new ChalkRoom().chalk(), 0);
        due(24, "chalk() of one row", laid("room 3 by 1;").chalk(), 1);
        ChalkRoom y = laid("room 3 by 3;line 1 3 0;thing a at 2 2 worth 1 1 leg 0;");
        due(26, y, "border(0)", y.border(0), 5, 0);
        due(26, y, "border(1)", y.border(1), 4, 0);
        due(26, "border of one land alone", laid("room 2 by 2;line 2 2;").border(0), 0);
        due(26, "border of nothing", new ChalkRoom().border(1), 0);
    }

    private static void choices() {
        ChalkRoom x = laid("room 4 by 3;line 2 3 3;thing a at 0 0 worth 5 7;thing b at 1 0 worth 2 9;thing c at 0 1 worth 2 9;"
            + "thing d at 3 0 worth 8 4;thing e at 3 1 worth 9 3;thing f at 3 2 worth 9 3;");
        due(27, x, "strongest(0)", x.strongest(0), 1, 0);
        due(27, x, "strongest(1)", x.strongest(1), 0, 0);
        due(28, x, "least(0)", x.least(0), 1, 0);
        due(28, x, "least(1)", x.least(1), 4, 0);
        due(29, x, "wanted(0)", x.wanted(0), 4, 0);
        due(29, x, "wanted(1)", x.wanted(1), 1, 0);
        ChalkRoom y = laid("room 2 by 1;thing a at 0 0 worth 0 0;");
        due(28, y, "least of 0", y.least(0), 0, 0);
        due(28, y, "least of none", y.least(1), NONE, 6);
        due(29, y, "wanted of none", y.wanted(0), NONE, 6);
        due(29, y, "wanted of 0", y.wanted(1), 0, 0);
        due(27, y, "strongest(1)", y.strongest(1), 0, 0);
        ChalkRoom z = new ChalkRoom();
        due(27, z, "no rows", z.strongest(1), NONE, 6);
        due(27, z, "no land ahead of no rows", z.strongest(2), NONE, 1);
    }

    private static void deeds() {
        ChalkRoom x = laid("room 5 by 2;line 3 0;thing a at 1 0 worth 4 6;thing b at 4 1 worth 1 1;");
        due(30, x, "cede(0, 0, 2)", x.cede(0, 0, 2), 2, 0);
        due(30, "line(0)", x.line(0), 1);
        due(30, "the thing is held by the other", x.value(1), 7);
        due(30, x, "as far as it has", x.cede(0, 0, 9), 1, 0);
        due(30, x, "none left", x.cede(0, 0, 1), NONE, 7);
        due(30, x, "cede(1, 1, 9)", x.cede(1, 1, 9), 5, 0);
        due(30, "line(1)", x.line(1), 5);
        due(30, x, "none left there", x.cede(1, 1, 1), NONE, 7);
        due(30, "told(4)", x.told(4), 3);
        due(30, "told(5)", x.told(5), 5);
        due(30, x, "n of 0", x.cede(1, 0, 0), NONE, 1);
        due(30, x, "n of 10", x.cede(1, 0, 10), NONE, 1);
        due(30, x, "no land", x.cede(2, 0, 1), NONE, 1);
        due(30, x, "no row", x.cede(1, 2, 1), NONE, 1);
        due(33, x, "move(0, 3, 1)", x.move(0, 3, 1), true, 0);
        due(33, "on(3, 1)", x.on(3, 1), 0);
        due(33, x, "on(1, 0)", x.on(1, 0), NONE, 6);
        due(33, x, "where it is", x.move(0, 3, 1), false, 7);
        due(33, x, "where another is", x.move(0, 4, 1), false, 7);
        due(33, x, "no board", x.move(0, 5, 1), false, 1);
        due(33, x, "no board behind", x.move(0, 0, 2), false, 1);
        due(33, x, "no thing", x.move(2, 0, 0), false, 1);
        due(33, "it stays", x.thing(0, 0), 3);
    }

    private static void nightsAndBrooms() {
        ChalkRoom x = laid("room 9 by 5;bends 2;line 9 0 4 9 8;");
        due(31, x, "night()", x.night(), 3, 0);
        due(31, "line(0)", x.line(0), 9);
        due(31, "line(1)", x.line(1), 7);
        due(31, "line(2)", x.line(2), 5);
        due(31, "line(3)", x.line(3), 7);
        due(31, "line(4)", x.line(4), 8);
        due(31, x, "a night of rest", x.night(), 0, 0);
        due(31, "told(6)", x.told(6), 2);
        due(31, "nobody yielded", x.told(4) + x.told(5), 0);
        x.bends(0);
        due(31, x, "night() without bends", x.night(), 4, 0);
        due(31, "line(4)", x.line(4), 9);
        ChalkRoom y = laid("room 9 by 3;line 2 0 5;");
        due(32, y, "sweep(1)", y.sweep(1), 3, 0);
        due(32, y, "sweep(0)", y.sweep(0), 3, 0);
        due(32, y, "sweep(2)", y.sweep(2), 3, 0);
        due(32, y, "sweep(3)", y.sweep(3), NONE, 1);
        due(32, y, "sweep(-1)", y.sweep(-1), NONE, 1);
        ChalkRoom z = laid("room 9 by 1;line 7;");
        due(32, z, "sweep(0) of one row", z.sweep(0), 7, 0);
        ChalkRoom w = laid("room 9 by 2;line 7 1;");
        due(32, w, "sweep(1) of two rows", w.sweep(1), 7, 0);
    }

    private static void linesByTray() {
        ChalkRoom x = laid("room 4 by 3;line 1 2 3;");
        x.tray(0, 0, 4);
        x.tray(1, 3, 2);
        due(37, x, "copy(0)", x.copy(0), 3, 0);
        due(37, "read(0, 2)", x.read(0, 2), 3);
        due(37, "read(0, 3)", x.read(0, 3), 0);
        due(37, x, "copy(1)", x.copy(1), NONE, 3);
        due(37, x, "copy(2)", x.copy(2), NONE, 2);
        due(37, x, "copy(4)", x.copy(4), NONE, 1);
        due(37, "nothing came", x.read(1, 0), 0);
        x.write(0, 0, 4);
        x.write(0, 1, 0);
        x.write(0, 3, 99);
        due(36, x, "draw(0)", x.draw(0), true, 0);
        due(36, "line(0)", x.line(0), 4);
        due(36, "line(1)", x.line(1), 0);
        due(36, "line(2)", x.line(2), 3);
        x.write(0, 0, 1);
        x.write(0, 2, 5);
        due(36, x, "above wide", x.draw(0), false, 5);
        due(36, "nothing changed", x.line(0), 4);
        x.write(0, 2, -1);
        due(36, x, "below 0", x.draw(0), false, 5);
        due(36, x, "too few", x.draw(1), false, 3);
        due(36, x, "missing", x.draw(3), false, 2);
        due(36, x, "no tray", x.draw(-1), false, 1);
        x.tray(3, 3, 3);
        x.write(3, 0, 1L << 32);
        due(36, x, "great numbers", x.draw(3), false, 5);
        ChalkRoom y = new ChalkRoom();
        y.tray(0, 0, 0);
        due(36, y, "draw without rows", y.draw(0), true, 0);
        due(37, y, "copy without rows", y.copy(0), 0, 0);
    }

    private static void islands() {
        // LAND 0 by the line: columns 0 and 1 of row 0 and 2, none of row 1; a leg of LAND 0 at 3 1, of LAND 1 at 0 2.
        ChalkRoom x = laid("room 4 by 3;line 2 0 2;thing a at 3 1 worth 1 1 leg 0;thing b at 0 2 worth 1 1 leg 1;"
            + "thing c at 0 0 worth 1 1 big;thing d at 1 2 worth 1 1;");
        due(38, x, "islands(0)", x.islands(0), 3, 0);
        due(38, x, "islands(1)", x.islands(1), 1, 0);
        due(39, x, "island(0, 0)", x.island(0, 0), 2, 0);
        due(39, x, "island(3, 1)", x.island(3, 1), 1, 0);
        due(39, x, "island(0, 2)", x.island(0, 2), 8, 0);
        due(39, x, "island(4, 0)", x.island(4, 0), NONE, 1);
        due(40, x, "mainland(0)", x.mainland(0), 2, 0);
        due(40, x, "mainland(1)", x.mainland(1), 8, 0);
        due(41, x, "joined(0, 2, 3, 0)", x.joined(0, 2, 3, 0), 1, 0);
        due(41, x, "joined(0, 0, 1, 2)", x.joined(0, 0, 1, 2), 0, 0);
        due(41, x, "joined(0, 0, 0, 2)", x.joined(0, 0, 0, 2), 0, 0);
        due(41, x, "joined(1, 1, 1, 1)", x.joined(1, 1, 1, 1), 1, 0);
        due(41, x, "joined(4, 0, 0, 0)", x.joined(4, 0, 0, 0), NONE, 1);
        due(41, x, "joined(0, 0, 0, 3)", x.joined(0, 0, 0, 3), NONE, 1);
        due(44, x, "reach(0)", x.reach(0), 1, 0);
        due(44, x, "reach(1)", x.reach(1), 2, 0);
        due(44, x, "reach(2)", x.reach(2), 4, 0);
        due(44, x, "reach(4)", x.reach(4), NONE, 1);
        x.cede(1, 1, 9);
        due(38, x, "islands(0) made one", x.islands(0), 1, 0);
        due(38, x, "islands(1) cut in three", x.islands(1), 3, 0);
        due(44, x, "reach(0) past a big one", x.reach(0), 13, 0);
        ChalkRoom y = laid("room 3 by 1;line 0;");
        due(38, y, "islands of none", y.islands(0), 0, 0);
        due(40, y, "mainland of none", y.mainland(0), 0, 0);
        ChalkRoom z = laid("room 3 by 3;line 0 0 0;thing a at 0 0 worth 0 0 leg 0;thing b at 1 1 worth 0 0 leg 0;");
        due(38, z, "corner to corner is apart", z.islands(0), 2, 0);
    }

    private static void ways() {
        // A wall of stoves with one way around it through LAND 1.
        ChalkRoom x = laid("room 4 by 3;line 4 2 2;thing a at 0 1 worth 0 0;thing b at 3 1 worth 0 0 leg 0;"
            + "thing s at 1 0 worth 0 0 big;thing t at 1 1 worth 0 0 big;");
        due(42, x, "passes(0, 0, 1)", x.passes(0, 0, 1), 2, 0);
        due(43, x, "steps(0, 0, 1)", x.steps(0, 0, 1), 5, 0);
        due(42, x, "passes(1, 0, 1)", x.passes(1, 0, 1), 4, 0);
        due(43, x, "steps(1, 0, 1)", x.steps(1, 0, 1), 5, 0);
        due(42, x, "passes to a big one", x.passes(0, 0, 3), 0, 0);
        due(43, x, "steps from a big one", x.steps(0, 3, 2), 1, 0);
        x.move(2, 1, 2);
        due(42, x, "the same the other way", x.passes(0, 1, 0), 0, 0);
        due(43, x, "steps over the top", x.steps(0, 0, 1), 5, 0);
        ChalkRoom y = laid("room 3 by 2;line 3 3;thing a at 0 0 worth 0 0;thing b at 2 0 worth 0 0;thing s at 1 0 worth 0 0 big;"
            + "thing t at 1 1 worth 0 0 big;");
        due(42, y, "no way", y.passes(0, 0, 1), NONE, 6);
        due(43, y, "no steps", y.steps(1, 1, 0), NONE, 6);
        due(42, y, "itself", y.passes(0, 1, 1), NONE, 1);
        due(42, y, "no thing", y.passes(0, 0, 4), NONE, 1);
        due(42, y, "no thing there", y.passes(0, -1, 0), NONE, 1);
        due(43, y, "no land", y.steps(2, 0, 1), NONE, 1);
        due(43, y, "itself", y.steps(0, 1, 1), NONE, 1);
        // The fewest boards of the other go ahead of the fewest steps: around by row 2 for LAND 0.
        ChalkRoom z = laid("room 5 by 3;line 1 1 5;thing a at 0 0 worth 0 0;thing b at 4 0 worth 0 0 leg 0;");
        due(42, z, "around", z.passes(0, 0, 1), 1, 0);
        due(43, z, "the longer way", z.steps(0, 0, 1), 8, 0);
        due(42, z, "straight", z.passes(1, 0, 1), 2, 0);
        due(43, z, "the shorter way", z.steps(1, 0, 1), 4, 0);
    }

    private static void straits() {
        ChalkRoom x = laid("room 7 by 2;line 1 1;thing a at 4 0 worth 0 0 leg 0;thing b at 6 1 worth 0 0 leg 0 big;");
        due(45, x, "strait(0)", x.strait(0), 2, 0);
        due(45, x, "strait(1) not two", x.strait(1), NONE, 6);
        due(45, x, "strait(2)", x.strait(2), NONE, 1);
        x.leg(1, NONE);
        due(45, x, "strait(0) of two", x.strait(0), 3, 0);
        x.leg(0, NONE);
        due(45, x, "strait(0) of one", x.strait(0), NONE, 6);
        ChalkRoom y = laid("room 3 by 3;line 0 3 0;thing a at 1 0 worth 0 0 big;");
        due(45, y, "strait(1) of one row", y.strait(1), 1, 0);
        ChalkRoom z = laid("room 2 by 2;line 1 0;thing a at 1 1 worth 0 0 leg 0;");
        due(45, z, "corner to corner", z.strait(0), 1, 0);
    }

    private static void bridges() {
        ChalkRoom x = laid("room 5 by 3;line 1 0 1;thing a at 2 1 worth 0 0 leg 0;");
        due(46, x, "bridge(0)", x.bridge(0), 10, 0);
        due(47, x, "bridged(0)", x.bridged(0), 2, 0);
        due(46, x, "bridge(1) joins nothing", x.bridge(1), 0, 0);
        due(47, x, "bridged(1)", x.bridged(1), 1, 0);
        ChalkRoom y = laid("room 3 by 3;line 3 0 3;thing a at 1 1 worth 0 0 leg 0;");
        due(46, y, "none is better", y.bridge(0), 10, 0);
        due(47, y, "one as it was", y.bridged(0), 1, 0);
        due(46, y, "bridge(1)", y.bridge(1), 11, 0);
        due(47, y, "bridged(1)", y.bridged(1), 1, 0);
        ChalkRoom z = laid("room 2 by 1;line 2;");
        due(46, z, "the other holds none", z.bridge(0), NONE, 6);
        due(47, z, "the other holds none", z.bridged(0), NONE, 6);
        due(46, z, "of no island", z.bridge(1), 0, 0);
        due(47, z, "one island then", z.bridged(1), 1, 0);
        due(46, z, "no land", z.bridge(2), NONE, 1);
        due(47, z, "no land", z.bridged(-1), NONE, 1);
        ChalkRoom w = laid("room 3 by 1;line 1;thing a at 2 0 worth 0 0 leg 0;");
        due(46, w, "bridge between", w.bridge(0), 1, 0);
        due(47, w, "bridged between", w.bridged(0), 1, 0);
    }

    private static void giving() {
        ChalkRoom x = laid("room 5 by 3;line 3 3 3;bends 0;thing a at 2 0 worth 5 0;thing b at 1 1 worth 9 0;"
            + "thing c at 2 2 worth 4 0 leg 0;thing d at 4 2 worth 1 7;");
        due(48, x, "give(0, 0)", x.give(0, 0), 18, 0);
        due(48, x, "give(0, 1)", x.give(0, 1), 18, 0);
        due(49, x, "giveIn(0, 1, 0)", x.giveIn(0, 1, 0), 0, 0);
        due(49, x, "giveIn(0, 1, 1)", x.giveIn(0, 1, 1), 0, 0);
        due(49, x, "giveIn(0, 1, 2)", x.giveIn(0, 1, 2), 1, 0);
        due(48, x, "give(0, 4)", x.give(0, 4), 18, 0);
        due(49, x, "giveIn(0, 4, 1)", x.giveIn(0, 4, 1), 1, 0);
        due(49, x, "giveIn(0, 4, 2)", x.giveIn(0, 4, 2), 3, 0);
        due(48, x, "give(0, 5)", x.give(0, 5), 13, 0);
        due(49, x, "giveIn(0, 5, 0)", x.giveIn(0, 5, 0), 1, 0);
        due(48, x, "give(0, 9)", x.give(0, 9), 4, 0);
        due(48, x, "give(0, 10)", x.give(0, 10), NONE, 6);
        due(49, x, "giveIn(0, 10, 0)", x.giveIn(0, 10, 0), NONE, 6);
        due(48, x, "give(1, 1)", x.give(1, 1), 7, 0);
        due(49, x, "giveIn(1, 3, 0)", x.giveIn(1, 3, 0), 0, 0);
        due(49, x, "giveIn(1, 3, 1)", x.giveIn(1, 3, 1), 2, 0);
        due(49, x, "giveIn(1, 3, 2)", x.giveIn(1, 3, 2), 1, 0);
        due(48, x, "give(1, 6)", x.give(1, 6), 0, 0);
        due(48, x, "n of 21", x.give(0, 21), NONE, 1);
        due(48, x, "n of -1", x.give(0, -1), NONE, 1);
        due(49, x, "no row", x.giveIn(0, 1, 3), NONE, 1);
        due(49, x, "no row ahead of too few", x.giveIn(0, 10, -1), NONE, 1);
        due(49, x, "n of 21", x.giveIn(0, 21, 0), NONE, 1);
        due(48, "nothing moved", x.line(2), 3);
        due(48, "nothing yielded", x.told(4), 0);
    }

    private static void asking() {
        ChalkRoom x = laid("room 5 by 2;line 2 2;thing a at 3 0 worth 5 1;thing b at 2 1 worth 3 1;thing c at 4 1 worth 6 1;"
            + "thing d at 0 0 worth 1 8;thing e at 2 0 worth 9 9 leg 1;");
        due(50, x, "ask(0, 0)", x.ask(0, 0), 1, 0);
        due(50, x, "ask(0, 1)", x.ask(0, 1), 4, 0);
        due(51, x, "askIn(0, 1, 0)", x.askIn(0, 1, 0), 0, 0);
        due(51, x, "askIn(0, 1, 1)", x.askIn(0, 1, 1), 1, 0);
        due(50, x, "ask(0, 2)", x.ask(0, 2), 6, 0);
        due(51, x, "askIn(0, 2, 0)", x.askIn(0, 2, 0), 2, 0);
        due(50, x, "ask(0, 3)", x.ask(0, 3), 10, 0);
        due(51, x, "askIn(0, 3, 0)", x.askIn(0, 3, 0), 0, 0);
        due(50, x, "ask(0, 6)", x.ask(0, 6), 15, 0);
        due(50, x, "ask(0, 7)", x.ask(0, 7), NONE, 6);
        due(51, x, "askIn(0, 7, 1)", x.askIn(0, 7, 1), NONE, 6);
        due(50, x, "ask(1, 2)", x.ask(1, 2), 20, 0);
        due(51, x, "askIn(1, 2, 0)", x.askIn(1, 2, 0), 2, 0);
        due(51, x, "askIn(1, 3, 1)", x.askIn(1, 3, 1), 1, 0);
        due(50, x, "n of 21", x.ask(0, 21), NONE, 1);
        due(51, x, "n of -1", x.askIn(0, -1, 0), NONE, 1);
        due(51, x, "no row", x.askIn(0, 1, 2), NONE, 1);
    }

    private static void pricing() {
        ChalkRoom x = laid("room 9 by 7;line 0 0 0 0 0 0 0;thing a at 8 6 worth 50 0;thing b at 0 0 worth 7 0;"
            + "thing c at 0 1 worth 9 0 leg 1;thing d at 1 1 worth 2 0 leg 0;");
        due(52, x, "price(0, 0)", x.price(0, 0), 0, 0);
        due(52, x, "price(0, 2)", x.price(0, 2), 0, 0);
        due(52, x, "price(0, 3)", x.price(0, 3), 1, 0);
        due(52, x, "price(0, 9)", x.price(0, 9), 1, 0);
        due(52, x, "price(0, 10)", x.price(0, 10), 9, 0);
        due(52, x, "price(0, 59)", x.price(0, 59), 10, 0);
        due(52, x, "price(0, 60)", x.price(0, 60), NONE, 6);
        due(52, x, "price(0, 990)", x.price(0, 990), NONE, 6);
        due(52, x, "price(0, 991)", x.price(0, 991), NONE, 1);
        due(52, x, "price(0, -1)", x.price(0, -1), NONE, 1);
        due(52, x, "price(1, 0)", x.price(1, 0), 0, 0);
        StringBuilder ends = new StringBuilder("room 9 by 7;line 0 0 0 0 0 0 0;");
        for (int r = 0; r < 7; r++) {
            ends.append("thing ").append((char) ('a' + r)).append(" at 8 ").append(r).append(" worth 99 0;");
        }
        due(52, "all 63 boards", laid(ends.toString()).price(0, 693), 63);
        ChalkRoom y = new ChalkRoom();
        due(52, y, "nothing for nothing", y.price(0, 0), 0, 0);
        due(52, y, "without rows", y.price(1, 1), NONE, 6);
    }

    private static void peace() {
        ChalkRoom x = laid("room 5 by 3;bends 2;thing a at 3 0 worth 0 0;thing b at 1 2 worth 0 0;thing c at 0 0 worth 0 0 leg 1;");
        due(53, x, "peace(1, 2)", x.peace(1, 2), 6, 0);
        due(54, x, "peaceIn(1, 2, 0)", x.peaceIn(1, 2, 0), 4, 0);
        due(54, x, "peaceIn(1, 2, 1)", x.peaceIn(1, 2, 1), 2, 0);
        due(54, x, "peaceIn(1, 2, 2)", x.peaceIn(1, 2, 2), 1, 0);
        due(53, x, "legs not minded", x.peace(5, 2), 6, 0);
        due(53, x, "peace(0, 0)", x.peace(0, 0), 3, 0);
        due(54, x, "the first by its numbers", x.peaceIn(0, 0, 2), 0, 0);
        due(53, x, "peace(2, 4)", x.peace(2, 4), 5, 0);
        due(54, x, "peaceIn(2, 4, 0)", x.peaceIn(2, 4, 0), 0, 0);
        due(54, x, "peaceIn(2, 4, 1)", x.peaceIn(2, 4, 1), 0, 0);
        due(54, x, "peaceIn(2, 4, 2)", x.peaceIn(2, 4, 2), 2, 0);
        x.bends(1);
        due(53, x, "too little bending", x.peace(1, 2), NONE, 6);
        due(54, x, "too little bending", x.peaceIn(1, 2, 0), NONE, 6);
        due(53, x, "one in both sets", x.peace(1, 1), NONE, 6);
        due(53, x, "the wrong way in a row", x.peace(1, 4), NONE, 6);
        due(53, x, "no such set", x.peace(8, 0), NONE, 1);
        due(53, x, "no such set", x.peace(0, -1), NONE, 1);
        due(54, x, "no row", x.peaceIn(0, 0, 3), NONE, 1);
        due(54, x, "no set", x.peaceIn(0, 8, 0), NONE, 1);
        ChalkRoom y = new ChalkRoom();
        due(53, y, "no rows", y.peace(0, 0), NONE, 6);
        due(54, y, "no rows", y.peaceIn(0, 0, 0), NONE, 1);
    }

    private static void countingLines() {
        ChalkRoom x = laid("room 3 by 3;bends 1;");
        due(55, x, "lines(0)", x.lines(0), 1, 0);
        due(55, x, "lines(3)", x.lines(3), 3, 0);
        due(56, x, "sure(3)", x.sure(3), 1, 0);
        due(55, x, "lines(8)", x.lines(8), 3, 0);
        due(56, x, "sure(8)", x.sure(8), 6, 0);
        due(56, x, "sure(9)", x.sure(9), 9, 0);
        due(56, x, "sure(7)", x.sure(7), 6, 0);
        due(55, x, "lines(10)", x.lines(10), 0, 0);
        due(56, x, "sure(10)", x.sure(10), NONE, 6);
        due(55, x, "lines(-1)", x.lines(-1), NONE, 1);
        due(55, x, "lines(64)", x.lines(64), NONE, 1);
        due(56, x, "sure(64)", x.sure(64), NONE, 1);
        x.bends(0);
        due(55, x, "lines(4) straight", x.lines(4), 0, 0);
        due(56, x, "sure(4) straight", x.sure(4), NONE, 6);
        due(56, x, "sure(6) straight", x.sure(6), 6, 0);
        ChalkRoom y = laid("room 9 by 7;");
        long all = 0;
        for (int b = 0; b <= 63; b++) {
            all += y.lines(b);
        }
        due(55, "all lines", all, 10000000);
        due(55, "lines(31)", y.lines(31), y.lines(32));
        due(56, y, "sure(63)", y.sure(63), 63, 0);
        due(56, y, "sure(62)", y.sure(62), 56, 0);
        ChalkRoom z = new ChalkRoom();
        due(55, z, "lines(0) without rows", z.lines(0), 1, 0);
        due(55, z, "lines(1) without rows", z.lines(1), 0, 0);
        due(56, z, "sure(0) without rows", z.sure(0), 0, 0);
        due(56, z, "sure(1) without rows", z.sure(1), NONE, 6);
    }

    private static void games() {
        ChalkRoom x = laid("room 4 by 2;line 2 2;thing a at 2 1 worth 3 2;thing b at 1 0 worth 4 4;");
        // To take a at once would cost b: LAND 0 shields b instead.
        due(57, x, "game(1)", x.game(1), 2, 0);
        due(58, x, "first(1)", x.first(1), 0, 0);
        ChalkRoom u = laid("room 4 by 2;line 2 2;thing a at 1 0 worth 1 2;thing b at 1 1 worth 4 4;");
        due(57, u, "game(1)", u.game(1), 2, 0);
        due(58, u, "the dearer is shielded", u.first(1), 1, 0);
        due(57, x, "game(0)", x.game(0), NONE, 1);
        due(57, x, "game(4)", x.game(4), NONE, 1);
        due(58, x, "first(0)", x.first(0), NONE, 1);
        due(58, x, "first(4)", x.first(4), NONE, 1);
        due(57, "nothing moved", x.line(1), 2);
        ChalkRoom y = laid("room 2 by 3;line 2 2 2;thing a at 1 1 worth 1 0;");
        due(58, y, "it passes", y.first(1), 3, 0);
        due(57, y, "game(1)", y.game(1), 0, 0);
        due(58, y, "it passes", y.first(3), 3, 0);
        ChalkRoom z = laid("room 2 by 2;line 1 1;");
        due(57, z, "game of nothing", z.game(3), 0, 0);
        due(58, z, "the first of several", z.first(3), 0, 0);
        ChalkRoom w = laid("room 1 by 1;line 0;thing a at 0 0 worth 0 1;");
        due(57, w, "-1, not NONE", w.game(1), -1, 0);
        due(58, w, "first(1)", w.first(1), 0, 0);
        due(57, w, "with a leg of the other", w.leg(0, 1) ? w.game(2) : 9, -1, 0);
        ChalkRoom v = new ChalkRoom();
        due(57, v, "no rows", v.game(1), NONE, 6);
        due(58, v, "no rows", v.first(3), NONE, 6);
        due(57, v, "wrong ahead of no rows", v.game(9), NONE, 1);
    }

    private static void living() {
        ChalkRoom x = laid("room 4 by 3;bends 1;thing a at 1 0 worth 5 3;thing b at 3 2 worth 2 8;",
            "yield 0 0 2;yield 0 0 1;night;sweep 1;sweep 1;move a to 3 2;move a to 1 0;move a to 0 1;"
            + "when holds 0 a;yield 1 2 9;end;when holds 1 a;stop;end;when value 0=7;loop 3;night;end;end;"
            + "when boards 0<7;stop;end;stop;night;");
        // The LINE: 2 2 2, 0 2 2, by the NIGHT 0 1 2, the SWEEP 1 as it was (MISSED twice), 0 1 4 behind the YIELD.
        due(59, x, "live(5)", x.live(5), 18, 0);
        due(60, x, "lived(0)", x.lived(0), 5, 0);
        due(60, x, "lived(1)", x.lived(1), 2, 0);
        due(60, x, "lived(2)", x.lived(2), 2, 0);
        due(60, x, "lived(3)", x.lived(3), 4, 0);
        due(60, x, "lived(4)", x.lived(4), 0, 0);
        due(60, x, "lived(5)", x.lived(5), NONE, 1);
        due(60, x, "lived(-1)", x.lived(-1), NONE, 1);
        due(59, "the line is as it is then", x.line(0) * 100 + x.line(1) * 10 + x.line(2), 12);
        due(59, "a moved", x.thing(0, 1), 1);
        due(59, "told(4)", x.told(4), 2);
        due(59, "told(5)", x.told(5), 2);
        due(59, "told(6)", x.told(6), 4);
        due(59, x, "live(-1)", x.live(-1), NONE, 1);
        due(59, x, "live(10000)", x.live(10000), NONE, 1);
        due(60, x, "lived(0) of the latest with status 0", x.lived(0), 5, 0);
        Texts.room(x, "room 1 by 1;");
        due(59, x, "no talks", x.live(0), NONE, 6);
        due(60, x, "lived(1) stays", x.lived(1), 2, 0);
        ChalkRoom y = laid("room 2 by 1;", "");
        due(59, y, "talks of no steps", y.live(9999), 0, 0);
        due(60, y, "lived(4)", y.lived(4), 0, 0);
        ChalkRoom z = new ChalkRoom();
        Texts.talks(z, "any 0;night;any 1;");
        due(59, z, "live without rows", z.live(0), 3, 0);
        due(60, z, "missed", z.lived(0), 2, 0);
        due(60, z, "nights", z.lived(3), 1, 0);
        ChalkRoom w = laid("room 9 by 2;line 4 5;");
        w.room(0);
        Texts.talks(w, "any 0;any 1;");
        due(59, w, "live where rows were once", w.live(0), 2, 0);
        due(60, w, "missed", w.lived(0), 2, 0);
        due(60, w, "nothing yielded", w.told(4) + w.told(5), 0, 0);
    }

    private static void life(String talks, int done, int left) {
        ChalkRoom x = laid("room 2 by 1;", talks);
        due(59, x, "live of " + talks, x.live(0), done, 0);
        due(60, x, "lived(4) of " + talks, x.lived(4), left, 0);
    }

    private static void longLives() {
        life("loop 99;loop 99;loop 99;end;end;end;", 300, 1);
        life("loop 99;end;", 1, 0);
        life("loop 99;end;stop;night;", 2, 0);
        life("loop 99;night;night;end;loop 99;night;end;night;", 300, 0);
        life("loop 99;night;night;end;loop 99;night;end;night;stop;", 300, 1);
        life("loop 99;night;night;end;loop 99;night;end;stop;", 300, 0);
        life("loop 99;night;night;end;loop 98;night;end;loop 99;end;when boards 0=1;end;stop;", 300, 1);
        life("loop 99;night;night;end;loop 98;night;end;loop 99;end;loop 3;end;", 300, 0);
        life("loop 99;night;night;night;end;", 298, 0);
        life("loop 75;night;night;night;night;end;", 300, 1);
        life("loop 3;when boards 0=0;night;end;end;", 4, 0);
        life("loop 3;when boards 0=1;night;end;end;", 7, 0);
        life("loop 2;loop 3;night;end;night;end;", 11, 0);
        life("when boards 1>0;when boards 1<2;when value 0=0;stop;end;end;end;night;", 4, 0);
    }

    private static void draws() {
        // s: 1 -> 14116 (by 8: 1764, by 7: 0), 6059 (757, 1), 36006 (4500, 6).
        ChalkRoom x = laid("room 9 by 7;line 4 4 4 4 4 4 4;", "any 0;any 1;any 0;");
        due(59, x, "live(1)", x.live(1), 3, 0);
        int[] s = new int[3];
        int[] line = {4, 4, 4, 4, 4, 4, 4};
        int v = 1;
        for (int i = 0; i < 3; i++) {
            v = (v * 2957 + 11159) % 65536;
            s[i] = v;
            line[v / 8 % 7] += i == 1 ? 1 : -1;
        }
        due(59, "the first draw", s[0], 14116);
        for (int r = 0; r < 7; r++) {
            due(59, "line(" + r + ")", x.line(r), line[r]);
        }
        due(59, "told(4)", x.told(4), 2);
        due(60, "lived(2)", x.lived(2), 1);
        ChalkRoom y = laid("room 1 by 1;line 1;", "any 0;any 0;");
        y.live(3);
        due(60, "an any that moves nothing", y.lived(0), 1);
        due(60, "one board", y.lived(1), 1);
    }

    private static void means() {
        ChalkRoom x = laid("room 2 by 2;line 1 1;thing a at 0 0 worth 3 1;thing b at 0 1 worth 4 1;", "any 0;");
        int sum = 0;
        for (int seed = 10; seed < 16; seed++) {
            int v = (seed * 2957 + 11159) % 65536;
            sum += v / 8 % 2 == 0 ? 4 : 3;
        }
        due(61, x, "mean(0, 10, 6)", x.mean(0, 10, 6), true, 0);
        due(61, "the fraction", x.top() * 6, sum * x.bottom());
        due(61, "no common divisor", 6 % x.bottom(), 0);
        due(61, "all stays", x.line(0) * 10 + x.line(1), 11);
        due(61, "nobody yielded", x.told(4), 0);
        due(61, x, "no live() was", x.lived(0), NONE, 6);
        due(61, x, "mean(1, 0, 20)", x.mean(1, 0, 20), true, 0);
        due(61, "top()", x.top(), 1);
        due(61, "bottom()", x.bottom(), 1);
        due(61, x, "many of 0", x.mean(0, 0, 0), false, 1);
        due(61, x, "many of 21", x.mean(0, 0, 21), false, 1);
        due(61, x, "seed below 0", x.mean(0, -1, 5), false, 1);
        due(61, x, "the last above", x.mean(0, 9990, 11), false, 1);
        due(61, x, "the last just there", x.mean(0, 9990, 10), true, 0);
        due(61, x, "great numbers", x.mean(0, Integer.MAX_VALUE, 20), false, 1);
        due(61, x, "no land", x.mean(2, 0, 1), false, 1);
        Texts.room(x, "room 1 by 1;");
        due(61, x, "no talks", x.mean(0, 0, 1), false, 6);
    }

    private static void marks() {
        ChalkRoom x = laid("room 4 by 2;thing a at 0 0 worth 1 2;", "night;night;");
        due(62, x, "mark()", x.mark(), 1, 0);
        x.cede(0, 0, 1);
        x.live(0);
        x.leg(0, 1);
        x.bends(3);
        x.move(0, 3, 1);
        due(62, x, "mark()", x.mark(), 2, 0);
        Texts.room(x, "room 2 by 1;thing b at 0 0 worth 1 1;thing c at 1 0 worth 1 1;");
        Texts.talks(x, "move c to 0 0;");
        due(62, x, "mark()", x.mark(), 3, 0);
        due(62, x, "one too many", x.mark(), NONE, 4);
        x.tray(0, 0, 1);
        x.room(0);
        due(63, x, "undo()", x.undo(), 2, 0);
        due(63, "told(2)", x.told(2), 2);
        due(63, x, "the talks, too", x.live(0), 1, 0);
        due(63, x, "undo()", x.undo(), 1, 0);
        due(63, "told(0)", x.told(0), 4);
        due(63, "told(3)", x.told(3), 3);
        due(63, "told(4)", x.told(4), 1);
        due(63, "told(6)", x.told(6), 2);
        due(63, "thing(0, 0)", x.thing(0, 0), 3);
        due(63, "thing(0, 4)", x.thing(0, 4), 1);
        due(63, "trays stay", x.read(0, 0), 0);
        due(63, x, "the names, too", Texts.talks(x, "move a to 0 0;"), 1, 0);
        due(62, x, "a mark again", x.mark(), 2, 0);
        due(63, x, "undo()", x.undo(), 1, 0);
        due(63, x, "undo()", x.undo(), 0, 0);
        due(63, "line(0)", x.line(0), 2);
        due(63, "told(3)", x.told(3), 9);
        due(63, "told(4)", x.told(4), 0);
        due(63, "told(6)", x.told(6), 0);
        due(63, "thing(0, 0)", x.thing(0, 0), 0);
        due(63, x, "thing(0, 4)", x.thing(0, 4), NONE, 6);
        due(63, x, "the first talks", x.live(0), 2, 0);
        due(63, x, "undo() of none", x.undo(), NONE, 6);
    }

    private static void wrongLands() {
        ChalkRoom x = laid("room 2 by 2;thing a at 0 0 worth 1 1;thing b at 1 0 worth 1 1;");
        for (int land : new int[] {-1, 2, Integer.MIN_VALUE, Integer.MAX_VALUE}) {
            due(18, x, "boards", x.boards(land), NONE, 1);
            due(19, x, "value", x.value(land), NONE, 1);
            due(20, x, "things", x.things(land), NONE, 1);
            due(21, x, "share", x.share(land), false, 1);
            due(22, x, "envy", x.envy(land), NONE, 1);
            due(26, x, "border", x.border(land), NONE, 1);
            due(27, x, "strongest", x.strongest(land), NONE, 1);
            due(28, x, "least", x.least(land), NONE, 1);
            due(29, x, "wanted", x.wanted(land), NONE, 1);
            due(30, x, "cede", x.cede(land, 0, 1), NONE, 1);
            due(38, x, "islands", x.islands(land), NONE, 1);
            due(40, x, "mainland", x.mainland(land), NONE, 1);
            due(42, x, "passes", x.passes(land, 0, 1), NONE, 1);
            due(43, x, "steps", x.steps(land, 0, 1), NONE, 1);
            due(45, x, "strait", x.strait(land), NONE, 1);
            due(46, x, "bridge", x.bridge(land), NONE, 1);
            due(47, x, "bridged", x.bridged(land), NONE, 1);
            due(48, x, "give", x.give(land, 0), NONE, 1);
            due(49, x, "giveIn", x.giveIn(land, 0, 0), NONE, 1);
            due(50, x, "ask", x.ask(land, 0), NONE, 1);
            due(51, x, "askIn", x.askIn(land, 0, 0), NONE, 1);
            due(52, x, "price", x.price(land, 0), NONE, 1);
            due(61, x, "mean", x.mean(land, 0, 1), false, 1);
        }
    }
}
