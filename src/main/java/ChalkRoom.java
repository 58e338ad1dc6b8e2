import java.util.Arrays;

/** Two embassies in one room, parted by a line of chalk; README.md tells how to use it. */
public final class ChalkRoom {
    public static final int NONE = -1;

    // STATUS, by the document's numbers.
    private static final int FINE = 0;
    private static final int WRONG = 1;
    private static final int MISSING = 2;
    private static final int NO_PLACE = 3;
    private static final int ONE_TOO_MANY = 4;
    private static final int WRONG_IN_TRAY = 5;
    private static final int NO_SUCH = 6;
    private static final int CANNOT_BE = 7;
    private static final int UNLIKE_SORTS = 8;
    private static final int FAULTY = 9;

    // FAULTS of a text, by the document's numbers.
    private static final int NO_TOKEN = 1;
    private static final int CANNOT_STAND = 2;
    private static final int BAD_NAME = 3;
    private static final int BAD_NUMBER = 4;
    private static final int ALREADY = 5;
    private static final int OVERFULL = 6;
    private static final int TOO_DEEP = 7;

    // Limits of the document.
    private static final int MOST_WIDE = 9;
    private static final int MOST_DEEP = 7;
    private static final int MOST_BOARDS = 63;
    private static final int MOST_BENDS = 9;
    private static final int MOST_THINGS = 10;
    private static final int MOST_WORTH = 99;
    private static final int MOST_TRAYS = 4;
    private static final int MOST_IN_TRAY = 60;
    private static final int TAPE_BYTES = 900;
    private static final int TALKS_BYTES = 300;
    private static final int MOST_STEPS = 30;
    private static final int MOST_ENTRIES = 60;
    private static final int MOST_NESTED = 3;
    private static final int MOST_LOOPS = 99;
    private static final int MOST_IN_BOARDS_TEST = 99;
    private static final int MOST_IN_VALUE_TEST = 999;
    private static final int MOST_DONE = 300;
    private static final int MOST_YIELD = 9;
    private static final int MOST_GIVEN = 20;
    private static final int MOST_PRICE = 990;
    private static final int MOST_ROUNDS = 3;
    private static final int MOST_SEED = 9999;
    private static final int MOST_SEEDS = 20;
    private static final int MOST_MARKS = 3;

    // A table's width where it has a column for each number of boards (0 to 63) or each NUMBER of a LINE (0 to 9).
    private static final int SUMS = 64;
    private static final int CUTS = 10;

    // WORDS of the two languages: each has six places in KEYWORDS, and its number is where it stands there.
    private static final String KEYWORDS =
        "room  by    line  bends thing at    worth leg   big   yield night sweep move  to    any   when  boardsvalue holds loop  end   stop  ";
    private static final int KEYWORD_PLACES = 6;
    private static final int KEYWORD_COUNT = 22;
    private static final int ROOM = 0;
    private static final int BY = 1;
    private static final int LINE = 2;
    private static final int BENDS = 3;
    private static final int THING = 4;
    private static final int AT = 5;
    private static final int WORTH = 6;
    private static final int LEG = 7;
    private static final int BIG = 8;
    private static final int YIELD = 9;
    private static final int NIGHT = 10;
    private static final int SWEEP = 11;
    private static final int MOVE = 12;
    private static final int TO = 13;
    private static final int ANY = 14;
    private static final int WHEN = 15;
    private static final int BOARDS = 16;
    private static final int VALUE = 17;
    private static final int HOLDS = 18;
    private static final int LOOP = 19;
    private static final int END = 20;
    private static final int STOP = 21;

    private int latestStatus;
    private long fractionTop;
    private long fractionBottom;
    private final Trays trays;
    private final Tokens tokens;
    private final RoomReader roomReader;
    private final TalksReader talksReader;
    private final Floor floor;
    private final Floor spareFloor;
    private final Talks held;
    private final Talks spareTalks;
    private final Floor[] markedFloors;
    private final Talks[] markedTalks;
    private int marks;
    private final Isles isles;
    private final Bargains bargains;
    private final Borders borders;
    private final Envoys envoys;
    private final Player player;

    public ChalkRoom() {
        latestStatus = FINE;
        fractionTop = 0;
        fractionBottom = 1;
        trays = new Trays();
        tokens = new Tokens();
        roomReader = new RoomReader();
        talksReader = new TalksReader();
        floor = new Floor();
        spareFloor = new Floor();
        held = new Talks();
        spareTalks = new Talks();
        markedFloors = new Floor[MOST_MARKS];
        markedTalks = new Talks[MOST_MARKS];
        for (int i = 0; i < MOST_MARKS; i++) {
            markedFloors[i] = new Floor();
            markedTalks[i] = new Talks();
        }
        isles = new Isles();
        bargains = new Bargains();
        borders = new Borders();
        envoys = new Envoys();
        player = new Player();
    }

    public int status() {
        return latestStatus;
    }

    public long top() {
        return fractionTop;
    }

    public long bottom() {
        return fractionBottom;
    }

    // ---- TRAYS

    public boolean tray(int tray, int sort, int many) {
        if (!isTray(tray) || !within(sort, 0, 3) || !within(many, 0, MOST_IN_TRAY)) {
            return deny(WRONG);
        }
        trays.lay(tray, sort, many);
        return grant();
    }

    public boolean write(int tray, int place, long v) {
        int trouble = trayTrouble(tray, place);
        if (trouble != FINE) {
            return deny(trouble);
        }
        trays.put(tray, place, v);
        return grant();
    }

    public long read(int tray, int place) {
        int trouble = trayTrouble(tray, place);
        if (trouble != FINE) {
            return refuse(trouble);
        }
        latestStatus = FINE;
        return trays.at(tray, place);
    }

    public boolean pour(int from, int place, int to, int at, int many) {
        if (!isTray(from) || !isTray(to) || place < 0 || at < 0 || many < 0) {
            return deny(WRONG);
        }
        if (trays.isMissing(from) || trays.isMissing(to)) {
            return deny(MISSING);
        }
        if (!trays.alike(from, to)) {
            return deny(UNLIKE_SORTS);
        }
        if (!trays.hasRun(from, place, many) || !trays.hasRun(to, at, many)) {
            return deny(NO_PLACE);
        }
        trays.carry(from, place, to, at, many);
        return grant();
    }

    // ---- texts

    public int feed(int a, int b, int c, int d, int e) {
        if (!tokens.hasSpace()) {
            return NONE;
        }
        tokens.append(a);
        tokens.append(b);
        tokens.append(c);
        tokens.append(d);
        tokens.append(e);
        return tokens.filled;
    }

    public int room(int n) {
        if (!within(n, 0, tokens.filled)) {
            return refuse(WRONG);
        }
        tokens.begin(n);
        boolean taken = roomReader.readAll(tokens, spareFloor);
        tokens.emptyTape();
        if (!taken) {
            return refuse(FAULTY);
        }
        floor.become(spareFloor);
        held.clear();
        return answer(floor.count);
    }

    public int talks(int n) {
        if (!within(n, 0, tokens.filled) || n > TALKS_BYTES) {
            return refuse(WRONG);
        }
        tokens.begin(n);
        boolean taken = talksReader.readAll(tokens, floor, spareTalks);
        tokens.emptyTape();
        if (!taken) {
            return refuse(FAULTY);
        }
        held.become(spareTalks);
        return answer(held.count);
    }

    public int fault(int what) {
        if (what == 0) {
            return tokens.faultKind;
        }
        return what == 1 ? tokens.faultPlace : NONE;
    }

    public int told(int what) {
        switch (what) {
            case 0: return answer(floor.wide);
            case 1: return answer(floor.deep);
            case 2: return answer(floor.count);
            case 3: return answer(floor.bend);
            case 4: return answer(floor.yielded[0]);
            case 5: return answer(floor.yielded[1]);
            case 6: return answer(floor.nights);
            default: return refuse(WRONG);
        }
    }

    public int line(int row) {
        if (!floor.hasRow(row)) {
            return refuse(WRONG);
        }
        return answer(floor.cut[row]);
    }

    public int thing(int thing, int what) {
        if (!floor.hasThing(thing)) {
            return refuse(WRONG);
        }
        switch (what) {
            case 0: return answer(floor.column[thing]);
            case 1: return answer(floor.row[thing]);
            case 2: return answer(floor.worthTo(0, thing));
            case 3: return answer(floor.worthTo(1, thing));
            case 4: return answerOrNone(floor.legLand[thing]);
            case 5: return answer(floor.isBig(thing) ? 1 : 0);
            default: return refuse(WRONG);
        }
    }

    public int on(int column, int row) {
        if (!floor.hasBoard(column, row)) {
            return refuse(WRONG);
        }
        return answerOrNone(floor.thingAt(column, row));
    }

    // ---- who HOLDS what

    public int land(int column, int row) {
        if (!floor.hasBoard(column, row)) {
            return refuse(WRONG);
        }
        return answer(floor.holder(column, row));
    }

    public int boards(int land) {
        return isLand(land) ? answer(floor.boardsOf(land)) : refuse(WRONG);
    }

    public int value(int land) {
        return isLand(land) ? answer(floor.valueOf(land)) : refuse(WRONG);
    }

    public int things(int land) {
        return isLand(land) ? answer(floor.thingsOf(land)) : refuse(WRONG);
    }

    public boolean share(int land) {
        if (!isLand(land)) {
            return deny(WRONG);
        }
        int all = floor.worthOfAll(land);
        if (all <= 0) {
            return deny(NO_SUCH);
        }
        tellFraction(floor.valueOf(land), all);
        return grant();
    }

    public int envy(int land) {
        return isLand(land) ? answer(floor.envyOf(land)) : refuse(WRONG);
    }

    public int fair() {
        return answer(floor.envyOf(0) <= 0 && floor.envyOf(1) <= 0 ? 1 : 0);
    }

    public int chalk() {
        return answer(floor.chalkDrawn());
    }

    public int bulges() {
        return answer(floor.bulgingRows());
    }

    public int border(int land) {
        if (!isLand(land)) {
            return refuse(WRONG);
        }
        isles.survey(floor);
        return answer(isles.boardsAtBorder(floor, land));
    }

    public int strongest(int land) {
        return isLand(land) ? answerOrNone(floor.strongestRow(land)) : refuse(WRONG);
    }

    public int least(int land) {
        return isLand(land) ? answerOrNone(floor.leastThing(land)) : refuse(WRONG);
    }

    public int wanted(int land) {
        return isLand(land) ? answerOrNone(floor.wantedThing(land)) : refuse(WRONG);
    }

    // ---- what is done

    public int cede(int land, int row, int n) {
        if (!isLand(land) || !floor.hasRow(row) || !within(n, 1, MOST_YIELD)) {
            return refuse(WRONG);
        }
        int moved = floor.yieldBoards(land, row, n);
        return moved > 0 ? answer(moved) : refuse(CANNOT_BE);
    }

    public int night() {
        return answer(floor.passNight());
    }

    public int sweep(int row) {
        if (!floor.hasRow(row)) {
            return refuse(WRONG);
        }
        floor.sweepRow(row);
        return answer(floor.cut[row]);
    }

    public boolean move(int thing, int column, int row) {
        if (!floor.hasThing(thing) || !floor.hasBoard(column, row)) {
            return deny(WRONG);
        }
        return floor.moveThing(thing, column, row) ? grant() : deny(CANNOT_BE);
    }

    public boolean leg(int thing, int land) {
        if (!floor.hasThing(thing) || !isLand(land) && land != NONE) {
            return deny(WRONG);
        }
        floor.legLand[thing] = land;
        return grant();
    }

    public boolean bends(int n) {
        if (!within(n, 0, MOST_BENDS)) {
            return deny(WRONG);
        }
        floor.bend = n;
        return grant();
    }

    public boolean draw(int tray) {
        int trouble = lineTrouble(tray);
        if (trouble != FINE) {
            return deny(trouble);
        }
        for (int row = 0; row < floor.deep; row++) {
            long number = trays.at(tray, row);
            if (number < 0 || number > floor.wide) {
                return deny(WRONG_IN_TRAY);
            }
        }
        for (int row = 0; row < floor.deep; row++) {
            floor.cut[row] = (int) trays.at(tray, row);
        }
        return grant();
    }

    public int copy(int tray) {
        int trouble = lineTrouble(tray);
        if (trouble != FINE) {
            return refuse(trouble);
        }
        for (int row = 0; row < floor.deep; row++) {
            trays.put(tray, row, floor.cut[row]);
        }
        return answer(floor.deep);
    }

    // ---- ISLANDS, WAYS

    public int islands(int land) {
        if (!isLand(land)) {
            return refuse(WRONG);
        }
        isles.survey(floor);
        return answer(isles.countOf(land));
    }

    public int island(int column, int row) {
        if (!floor.hasBoard(column, row)) {
            return refuse(WRONG);
        }
        isles.survey(floor);
        return answer(isles.extentAt(boardNumber(column, row)));
    }

    public int mainland(int land) {
        if (!isLand(land)) {
            return refuse(WRONG);
        }
        isles.survey(floor);
        return answer(isles.greatestOf(land));
    }

    public int joined(int column, int row, int column2, int row2) {
        if (!floor.hasBoard(column, row) || !floor.hasBoard(column2, row2)) {
            return refuse(WRONG);
        }
        isles.survey(floor);
        return answer(isles.together(boardNumber(column, row), boardNumber(column2, row2)) ? 1 : 0);
    }

    public int passes(int land, int from, int to) {
        if (!isCouple(land, from, to)) {
            return refuse(WRONG);
        }
        int cost = isles.wayCost(floor, land, from, to);
        return cost < 0 ? refuse(NO_SUCH) : answer(cost / Isles.PASS);
    }

    public int steps(int land, int from, int to) {
        if (!isCouple(land, from, to)) {
            return refuse(WRONG);
        }
        int cost = isles.wayCost(floor, land, from, to);
        return cost < 0 ? refuse(NO_SUCH) : answer(cost % Isles.PASS);
    }

    public int reach(int thing) {
        if (!floor.hasThing(thing)) {
            return refuse(WRONG);
        }
        isles.survey(floor);
        return answer(isles.thingsWith(floor, thing));
    }

    public int strait(int land) {
        if (!isLand(land)) {
            return refuse(WRONG);
        }
        isles.survey(floor);
        if (isles.countOf(land) < 2) {
            return refuse(NO_SUCH);
        }
        return answer(isles.narrowest(floor, land));
    }

    public int bridge(int land) {
        if (!isLand(land)) {
            return refuse(WRONG);
        }
        isles.survey(floor);
        isles.findBridge(floor, land);
        int board = isles.bridgeBoard;
        return board < 0 ? refuse(NO_SUCH) : answer(board / MOST_WIDE * 10 + board % MOST_WIDE);
    }

    public int bridged(int land) {
        if (!isLand(land)) {
            return refuse(WRONG);
        }
        isles.survey(floor);
        isles.findBridge(floor, land);
        return isles.bridgeBoard < 0 ? refuse(NO_SUCH) : answer(isles.bridgeIslands);
    }

    // ---- plans

    public int give(int land, int n) {
        return isLand(land) ? bargainFor(land, land, n) : refuse(WRONG);
    }

    public int giveIn(int land, int n, int row) {
        return isLand(land) ? bargainIn(land, land, n, row) : refuse(WRONG);
    }

    public int ask(int land, int n) {
        return isLand(land) ? bargainFor(land, 1 - land, n) : refuse(WRONG);
    }

    public int askIn(int land, int n, int row) {
        return isLand(land) ? bargainIn(land, 1 - land, n, row) : refuse(WRONG);
    }

    public int price(int land, int v) {
        if (!isLand(land) || !within(v, 0, MOST_PRICE)) {
            return refuse(WRONG);
        }
        return answerOrNone(bargains.fewestFor(floor, land, v));
    }

    public int peace(int first, int second) {
        if (!floor.isSet(first) || !floor.isSet(second)) {
            return refuse(WRONG);
        }
        return answerOrNone(borders.leastChalk(floor, first, second));
    }

    public int peaceIn(int first, int second, int row) {
        if (!floor.isSet(first) || !floor.isSet(second) || !floor.hasRow(row)) {
            return refuse(WRONG);
        }
        if (borders.leastChalk(floor, first, second) < 0) {
            return refuse(NO_SUCH);
        }
        return answer(borders.peaceCut(floor, row));
    }

    public long lines(int b) {
        if (!within(b, 0, MOST_BOARDS)) {
            return refuse(WRONG);
        }
        latestStatus = FINE;
        return borders.howMany(floor, b);
    }

    public int sure(int b) {
        if (!within(b, 0, MOST_BOARDS)) {
            return refuse(WRONG);
        }
        return answerOrNone(borders.boardsInAll(floor, b));
    }

    public int game(int rounds) {
        int trouble = gameTrouble(rounds);
        if (trouble != FINE) {
            return refuse(trouble);
        }
        envoys.play(floor);
        return answer(envoys.outcome);
    }

    public int first(int rounds) {
        int trouble = gameTrouble(rounds);
        if (trouble != FINE) {
            return refuse(trouble);
        }
        envoys.play(floor);
        return answer(envoys.firstRow);
    }

    // ---- TALKS

    public int live(int seed) {
        if (!within(seed, 0, MOST_SEED)) {
            return refuse(WRONG);
        }
        if (!held.present) {
            return refuse(NO_SUCH);
        }
        player.run(held, floor, seed);
        player.record();
        return answer(player.done);
    }

    public int lived(int what) {
        if (!within(what, 0, Player.RECORDED - 1)) {
            return refuse(WRONG);
        }
        return player.recorded ? answer(player.latest[what]) : refuse(NO_SUCH);
    }

    public boolean mean(int land, int seed, int many) {
        if (!isLand(land) || !within(seed, 0, MOST_SEED) || !within(many, 1, MOST_SEEDS)
            || seed + many - 1 > MOST_SEED) {
            return deny(WRONG);
        }
        if (!held.present) {
            return deny(NO_SUCH);
        }
        spareFloor.become(floor);
        long sum = 0;
        for (int i = 0; i < many; i++) {
            player.run(held, floor, seed + i);
            sum += floor.valueOf(land);
            floor.become(spareFloor);
        }
        tellFraction(sum, many);
        return grant();
    }

    // ---- MARKS

    public int mark() {
        if (marks >= MOST_MARKS) {
            return refuse(ONE_TOO_MANY);
        }
        markedFloors[marks].become(floor);
        markedTalks[marks].become(held);
        marks++;
        return answer(marks);
    }

    public int undo() {
        if (marks <= 0) {
            return refuse(NO_SUCH);
        }
        marks--;
        floor.become(markedFloors[marks]);
        held.become(markedTalks[marks]);
        return answer(marks);
    }

    // ---- what many calls share

    private int answer(int number) {
        latestStatus = FINE;
        return number;
    }

    private int answerOrNone(int number) {
        return number < 0 ? refuse(NO_SUCH) : answer(number);
    }

    private int refuse(int why) {
        latestStatus = why;
        return NONE;
    }

    private boolean grant() {
        latestStatus = FINE;
        return true;
    }

    private boolean deny(int why) {
        latestStatus = why;
        return false;
    }

    private void tellFraction(long over, long under) {
        long divisor = commonDivisor(over, under);
        if (divisor > 0) {
            fractionTop = over / divisor;
            fractionBottom = under / divisor;
        }
    }

    /** Of numbers from 0 on; Euclid needs far fewer than 100 rounds for any two longs. */
    private static long commonDivisor(long a, long b) {
        long greater = a;
        long lesser = b;
        for (int i = 0; i < 100 && lesser > 0; i++) {
            long rest = greater % lesser;
            greater = lesser;
            lesser = rest;
        }
        return greater;
    }

    private int trayTrouble(int tray, int place) {
        if (!isTray(tray)) {
            return WRONG;
        }
        if (trays.isMissing(tray)) {
            return MISSING;
        }
        return place >= 0 && trays.hasRun(tray, place, 1) ? FINE : NO_PLACE;
    }

    private int lineTrouble(int tray) {
        if (!isTray(tray)) {
            return WRONG;
        }
        if (trays.isMissing(tray)) {
            return MISSING;
        }
        return trays.hasRun(tray, 0, floor.deep) ? FINE : NO_PLACE;
    }

    private int gameTrouble(int rounds) {
        if (!within(rounds, 1, MOST_ROUNDS)) {
            return WRONG;
        }
        return floor.deep > 0 ? FINE : NO_SUCH;
    }

    private int bargainFor(int land, int giver, int n) {
        if (!within(n, 0, MOST_GIVEN)) {
            return refuse(WRONG);
        }
        if (floor.boardsByLine(giver) < n) {
            return refuse(NO_SUCH);
        }
        bargains.weigh(floor, giver, land, n);
        return answer(floor.valueOf(land) + bargains.bestChange(n));
    }

    private int bargainIn(int land, int giver, int n, int row) {
        if (!within(n, 0, MOST_GIVEN) || !floor.hasRow(row)) {
            return refuse(WRONG);
        }
        if (floor.boardsByLine(giver) < n) {
            return refuse(NO_SUCH);
        }
        bargains.weigh(floor, giver, land, n);
        return answer(bargains.givenIn(floor, giver, n, row));
    }

    private boolean isCouple(int land, int from, int to) {
        return isLand(land) && floor.hasThing(from) && floor.hasThing(to) && from != to;
    }

    private static boolean isTray(int tray) {
        return within(tray, 0, MOST_TRAYS - 1);
    }

    private static boolean isLand(int land) {
        return land == 0 || land == 1;
    }

    private static boolean within(int number, int low, int high) {
        return number >= low && number <= high;
    }

    private static int boardNumber(int column, int row) {
        return row * MOST_WIDE + column;
    }

    /** The TRAYS, side by side in one row of numbers. */
    private static final class Trays {
        private final long[] numbers = new long[MOST_TRAYS * MOST_IN_TRAY];
        private final int[] sorts = new int[MOST_TRAYS];
        private final int[] sizes = new int[MOST_TRAYS];

        Trays() {
            Arrays.fill(sorts, NONE);
        }

        boolean isMissing(int tray) {
            return sorts[tray] == NONE;
        }

        boolean alike(int tray, int other) {
            return sorts[tray] == sorts[other];
        }

        /** A place and a number of numbers, neither below 0; longs, for two great ints would wrap around. */
        boolean hasRun(int tray, int place, int many) {
            return (long) place + many <= sizes[tray];
        }

        void lay(int tray, int sort, int many) {
            sorts[tray] = sort;
            sizes[tray] = many;
            for (int place = 0; place < MOST_IN_TRAY; place++) {
                numbers[tray * MOST_IN_TRAY + place] = 0;
            }
        }

        long at(int tray, int place) {
            return numbers[tray * MOST_IN_TRAY + place];
        }

        void put(int tray, int place, long number) {
            numbers[tray * MOST_IN_TRAY + place] = fit(sorts[tray], number);
        }

        void carry(int from, int place, int to, int at, int many) {
            System.arraycopy(numbers, from * MOST_IN_TRAY + place, numbers, to * MOST_IN_TRAY + at, many);
        }

        private static long fit(int sort, long number) {
            switch (sort) {
                case 0: return (byte) number;
                case 1: return (short) number;
                case 2: return (int) number;
                default: return number;
            }
        }
    }

    /** The tape, the TOKEN that is looked at, and the FAULT of the latest text. */
    private static final class Tokens {
        static final int AT_END = 0;
        static final int WORD = 1;
        static final int NUMBER = 2;
        static final int SIGN = 3;
        static final int BAD = 4;
        private static final int FEED_BYTES = 20;
        private static final int MOST_LETTERS = 8;
        private static final int MOST_DIGITS = 4;

        private final byte[] tape = new byte[TAPE_BYTES];
        private final long[] keywords = new long[KEYWORD_COUNT];
        int filled = 0;
        int faultKind = NONE;
        int faultPlace = NONE;
        int kind = AT_END;
        int keyword = NONE;
        int number = 0;
        int sign = 0;
        /** The WORD's letters as digits by 32, so that two NAMES are alike where these are. */
        long letters = 0;
        private int length = 0;
        private int start = 0;
        private int place = 0;

        Tokens() {
            for (int i = 0; i < KEYWORDS.length() && i < KEYWORD_COUNT * KEYWORD_PLACES; i++) {
                char letter = KEYWORDS.charAt(i);
                if (letter != ' ') {
                    int which = i / KEYWORD_PLACES;
                    keywords[which] = keywords[which] * 32 + (letter - 'a' + 1);
                }
            }
        }

        boolean hasSpace() {
            return filled + FEED_BYTES <= TAPE_BYTES;
        }

        void append(int four) {
            for (int shift = 24; shift >= 0 && filled < TAPE_BYTES; shift -= 8) {
                tape[filled] = (byte) (four >> shift);
                filled++;
            }
        }

        void emptyTape() {
            filled = 0;
        }

        void begin(int n) {
            length = n;
            place = 0;
            faultKind = 0;
            faultPlace = NONE;
            next();
        }

        void next() {
            while (place < length && (tape[place] == ' ' || tape[place] == '\n')) {
                place++;
            }
            start = place;
            keyword = NONE;
            if (place >= length) {
                kind = AT_END;
            } else if (tape[place] >= 'a' && tape[place] <= 'z') {
                lookAtWord();
            } else if (tape[place] >= '0' && tape[place] <= '9') {
                lookAtNumber();
            } else {
                sign = tape[place];
                kind = sign == ';' || isCompare() ? SIGN : BAD;
                place++;
            }
        }

        private void lookAtWord() {
            kind = WORD;
            letters = 0;
            while (place < length && tape[place] >= 'a' && tape[place] <= 'z') {
                if (place - start < MOST_LETTERS) {
                    letters = letters * 32 + (tape[place] - 'a' + 1);
                }
                place++;
            }
            for (int i = 0; i < KEYWORD_COUNT; i++) {
                if (keywords[i] == letters) {
                    keyword = i;
                }
            }
        }

        private void lookAtNumber() {
            number = 0;
            while (place < length && tape[place] >= '0' && tape[place] <= '9') {
                if (place - start < MOST_DIGITS) {
                    number = number * 10 + (tape[place] - '0');
                }
                place++;
            }
            kind = place - start > MOST_DIGITS ? BAD : NUMBER;
        }

        boolean isName() {
            return kind == WORD && keyword == NONE && place - start <= MOST_LETTERS;
        }

        boolean isCompare() {
            return sign == '<' || sign == '>' || sign == '=';
        }

        /** Whatever was awaited, that no TOKEN begins so is the lesser FAULT. */
        boolean fail(int fault) {
            faultKind = kind == BAD ? NO_TOKEN : fault;
            faultPlace = start;
            return false;
        }

        boolean takeWord(int wanted) {
            if (keyword != wanted) {
                return fail(CANNOT_STAND);
            }
            next();
            return true;
        }

        boolean takeEndOfPart() {
            if (kind != SIGN || sign != ';') {
                return fail(CANNOT_STAND);
            }
            next();
            return true;
        }

        /** The NUMBER looked at, or NONE with the FAULT told. */
        int lookForNumber(int low, int high) {
            if (kind != NUMBER) {
                fail(CANNOT_STAND);
                return NONE;
            }
            if (number < low || number > high) {
                fail(BAD_NUMBER);
                return NONE;
            }
            return number;
        }

        int takeNumber(int low, int high) {
            int found = lookForNumber(low, high);
            if (found != NONE) {
                next();
            }
            return found;
        }
    }

    /** Reads the text of a ROOM. */
    private static final class RoomReader {
        private boolean lineTold = false;
        private boolean bendsTold = false;

        boolean readAll(Tokens tokens, Floor draft) {
            draft.clear();
            lineTold = false;
            bendsTold = false;
            boolean fine = true;
            for (int parts = 0; parts <= TAPE_BYTES && fine && tokens.kind != Tokens.AT_END; parts++) {
                boolean roomTold = draft.deep > 0;
                int word = roomTold || tokens.keyword == ROOM ? tokens.keyword : NONE;
                switch (word) {
                    case ROOM:
                        fine = roomTold ? tokens.fail(ALREADY) : readSize(tokens, draft);
                        break;
                    case LINE:
                        fine = lineTold ? tokens.fail(ALREADY) : readLine(tokens, draft);
                        break;
                    case BENDS:
                        fine = bendsTold ? tokens.fail(ALREADY) : readBends(tokens, draft);
                        break;
                    case THING:
                        fine = draft.count >= MOST_THINGS ? tokens.fail(OVERFULL) : readThing(tokens, draft);
                        break;
                    default:
                        fine = tokens.fail(CANNOT_STAND);
                        break;
                }
            }
            return fine;
        }

        private boolean readSize(Tokens tokens, Floor draft) {
            tokens.next();
            int wide = tokens.takeNumber(1, MOST_WIDE);
            if (wide < 0 || !tokens.takeWord(BY)) {
                return false;
            }
            int deep = tokens.takeNumber(1, MOST_DEEP);
            if (deep < 0) {
                return false;
            }
            draft.lay(wide, deep);
            return tokens.takeEndOfPart();
        }

        private boolean readLine(Tokens tokens, Floor draft) {
            lineTold = true;
            tokens.next();
            for (int row = 0; row < draft.deep; row++) {
                int cut = tokens.takeNumber(0, draft.wide);
                if (cut < 0) {
                    return false;
                }
                draft.cut[row] = cut;
            }
            return tokens.takeEndOfPart();
        }

        private boolean readBends(Tokens tokens, Floor draft) {
            bendsTold = true;
            tokens.next();
            int bend = tokens.takeNumber(0, MOST_BENDS);
            if (bend < 0) {
                return false;
            }
            draft.bend = bend;
            return tokens.takeEndOfPart();
        }

        private boolean readThing(Tokens tokens, Floor draft) {
            tokens.next();
            if (!tokens.isName()) {
                return tokens.fail(CANNOT_STAND);
            }
            if (draft.thingNamed(tokens.letters) != NONE) {
                return tokens.fail(BAD_NAME);
            }
            draft.names[draft.count] = tokens.letters;
            tokens.next();
            boolean whole = tokens.takeWord(AT) && readBoard(tokens, draft) && tokens.takeWord(WORTH)
                && readWorth(tokens, draft, 0) && readWorth(tokens, draft, 1)
                && readLeg(tokens, draft) && readBig(tokens, draft) && tokens.takeEndOfPart();
            if (whole) {
                draft.count++;
            }
            return whole;
        }

        private static boolean readBoard(Tokens tokens, Floor draft) {
            int column = tokens.takeNumber(0, draft.wide - 1);
            if (column < 0) {
                return false;
            }
            int row = tokens.lookForNumber(0, draft.deep - 1);
            if (row < 0) {
                return false;
            }
            if (draft.thingAt(column, row) != NONE) {
                return tokens.fail(ALREADY);
            }
            tokens.next();
            draft.column[draft.count] = column;
            draft.row[draft.count] = row;
            return true;
        }

        private static boolean readWorth(Tokens tokens, Floor draft, int land) {
            int worth = tokens.takeNumber(0, MOST_WORTH);
            if (worth < 0) {
                return false;
            }
            draft.worth[draft.count * 2 + land] = worth;
            return true;
        }

        private static boolean readLeg(Tokens tokens, Floor draft) {
            draft.legLand[draft.count] = NONE;
            if (tokens.keyword != LEG) {
                return true;
            }
            tokens.next();
            int land = tokens.takeNumber(0, 1);
            draft.legLand[draft.count] = land;
            return land >= 0;
        }

        private static boolean readBig(Tokens tokens, Floor draft) {
            if (tokens.keyword == BIG) {
                draft.big |= 1 << draft.count;
                tokens.next();
            }
            return true;
        }
    }

    /** Reads the text of TALKS. */
    private static final class TalksReader {
        private int nested = 0;
        /** The innermost when or loop that has no end yet; its partner is the one around it till then. */
        private int innermost = NONE;

        boolean readAll(Tokens tokens, Floor floor, Talks draft) {
            draft.clear();
            nested = 0;
            innermost = NONE;
            for (int parts = 0; parts <= TALKS_BYTES && tokens.kind != Tokens.AT_END; parts++) {
                if (!readStep(tokens, floor, draft)) {
                    return false;
                }
            }
            if (nested > 0) {
                return tokens.fail(CANNOT_STAND);
            }
            draft.present = true;
            return true;
        }

        private boolean readStep(Tokens tokens, Floor floor, Talks draft) {
            int word = tokens.keyword;
            if (word == END) {
                return readEnd(tokens, draft);
            }
            if (!beginsStep(word)) {
                return tokens.fail(CANNOT_STAND);
            }
            if (draft.count >= MOST_STEPS) {
                return tokens.fail(OVERFULL);
            }
            if ((word == WHEN || word == LOOP) && nested >= MOST_NESTED) {
                return tokens.fail(TOO_DEEP);
            }
            draft.count++;
            tokens.next();
            switch (word) {
                case YIELD: return readYield(tokens, floor, draft) && tokens.takeEndOfPart();
                case SWEEP: return readOne(SWEEP, tokens, 0, floor.deep - 1, draft) && tokens.takeEndOfPart();
                case MOVE: return readMove(tokens, floor, draft) && tokens.takeEndOfPart();
                case ANY: return readOne(ANY, tokens, 0, 1, draft) && tokens.takeEndOfPart();
                case WHEN: return readWhen(tokens, floor, draft) && open(draft) && tokens.takeEndOfPart();
                case LOOP: return readOne(LOOP, tokens, 1, MOST_LOOPS, draft) && open(draft) && tokens.takeEndOfPart();
                default:
                    draft.add(word, 0, 0, 0);
                    return tokens.takeEndOfPart();
            }
        }

        private static boolean beginsStep(int word) {
            return word == YIELD || word == NIGHT || word == SWEEP || word == MOVE || word == ANY
                || word == WHEN || word == LOOP || word == STOP;
        }

        private boolean readEnd(Tokens tokens, Talks draft) {
            if (innermost < 0) {
                return tokens.fail(CANNOT_STAND);
            }
            int beginning = innermost;
            int place = draft.size;
            draft.add(END, 0, 0, 0);
            innermost = draft.partner[beginning];
            draft.partner[beginning] = place;
            draft.partner[place] = beginning;
            nested--;
            tokens.next();
            return tokens.takeEndOfPart();
        }

        private boolean open(Talks draft) {
            int place = draft.size - 1;
            draft.partner[place] = innermost;
            innermost = place;
            nested++;
            return true;
        }

        private static boolean readOne(int word, Tokens tokens, int low, int high, Talks draft) {
            int number = tokens.takeNumber(low, high);
            if (number < 0) {
                return false;
            }
            draft.add(word, number, 0, 0);
            return true;
        }

        private static boolean readYield(Tokens tokens, Floor floor, Talks draft) {
            int land = tokens.takeNumber(0, 1);
            if (land < 0) {
                return false;
            }
            int row = tokens.takeNumber(0, floor.deep - 1);
            if (row < 0) {
                return false;
            }
            int many = tokens.takeNumber(1, MOST_YIELD);
            if (many < 0) {
                return false;
            }
            draft.add(YIELD, land, row, many);
            return true;
        }

        private static boolean readMove(Tokens tokens, Floor floor, Talks draft) {
            int thing = takeThing(tokens, floor);
            if (thing < 0 || !tokens.takeWord(TO)) {
                return false;
            }
            int column = tokens.takeNumber(0, floor.wide - 1);
            if (column < 0) {
                return false;
            }
            int row = tokens.takeNumber(0, floor.deep - 1);
            if (row < 0) {
                return false;
            }
            draft.add(MOVE, thing, column, row);
            return true;
        }

        private static boolean readWhen(Tokens tokens, Floor floor, Talks draft) {
            int test = tokens.keyword;
            if (test != BOARDS && test != VALUE && test != HOLDS) {
                return tokens.fail(CANNOT_STAND);
            }
            tokens.next();
            int land = tokens.takeNumber(0, 1);
            if (land < 0) {
                return false;
            }
            if (test == HOLDS) {
                int thing = takeThing(tokens, floor);
                draft.add(HOLDS, land, thing, 0);
                return thing >= 0;
            }
            if (tokens.kind != Tokens.SIGN || !tokens.isCompare()) {
                return tokens.fail(CANNOT_STAND);
            }
            int compare = tokens.sign;
            tokens.next();
            int number = tokens.takeNumber(0, test == BOARDS ? MOST_IN_BOARDS_TEST : MOST_IN_VALUE_TEST);
            draft.add(test, land, compare, number);
            return number >= 0;
        }

        private static int takeThing(Tokens tokens, Floor floor) {
            if (!tokens.isName()) {
                tokens.fail(CANNOT_STAND);
                return NONE;
            }
            int thing = floor.thingNamed(tokens.letters);
            if (thing < 0) {
                tokens.fail(BAD_NAME);
                return NONE;
            }
            tokens.next();
            return thing;
        }
    }

    /** A ROOM with all that became of it. */
    private static final class Floor {
        int wide = 0;
        int deep = 0;
        int bend = MOST_BENDS;
        int count = 0;
        int nights = 0;
        final int[] yielded = new int[2];
        final int[] cut = new int[MOST_DEEP];
        final long[] names = new long[MOST_THINGS];
        final int[] column = new int[MOST_THINGS];
        final int[] row = new int[MOST_THINGS];
        /** WORTH to LAND 0 and to LAND 1 by turns. */
        final int[] worth = new int[MOST_THINGS * 2];
        final int[] legLand = new int[MOST_THINGS];
        /** The set of BIG THINGS. */
        int big = 0;

        void clear() {
            wide = 0;
            deep = 0;
            bend = MOST_BENDS;
            count = 0;
            nights = 0;
            big = 0;
            yielded[0] = 0;
            yielded[1] = 0;
        }

        void lay(int columns, int rows) {
            wide = columns;
            deep = rows;
            for (int r = 0; r < deep; r++) {
                cut[r] = wide / 2;
            }
        }

        void become(Floor other) {
            wide = other.wide;
            deep = other.deep;
            bend = other.bend;
            count = other.count;
            nights = other.nights;
            big = other.big;
            yielded[0] = other.yielded[0];
            yielded[1] = other.yielded[1];
            System.arraycopy(other.cut, 0, cut, 0, MOST_DEEP);
            System.arraycopy(other.names, 0, names, 0, MOST_THINGS);
            System.arraycopy(other.column, 0, column, 0, MOST_THINGS);
            System.arraycopy(other.row, 0, row, 0, MOST_THINGS);
            System.arraycopy(other.worth, 0, worth, 0, MOST_THINGS * 2);
            System.arraycopy(other.legLand, 0, legLand, 0, MOST_THINGS);
        }

        boolean hasRow(int r) {
            return r >= 0 && r < deep;
        }

        boolean hasBoard(int c, int r) {
            return c >= 0 && c < wide && hasRow(r);
        }

        boolean hasThing(int thing) {
            return thing >= 0 && thing < count;
        }

        boolean isSet(int set) {
            return set >= 0 && set < 1 << count;
        }

        boolean isBig(int thing) {
            return (big >> thing & 1) == 1;
        }

        int thingAt(int c, int r) {
            for (int i = 0; i < count; i++) {
                if (column[i] == c && row[i] == r) {
                    return i;
                }
            }
            return NONE;
        }

        int thingNamed(long letters) {
            for (int i = 0; i < count; i++) {
                if (names[i] == letters) {
                    return i;
                }
            }
            return NONE;
        }

        int worthTo(int land, int thing) {
            return worth[thing * 2 + land];
        }

        private int landByLine(int c, int r) {
            return c < cut[r] ? 0 : 1;
        }

        int holder(int c, int r) {
            int thing = thingAt(c, r);
            return thing < 0 ? landByLine(c, r) : holderOf(thing);
        }

        int holderOf(int thing) {
            if (legLand[thing] >= 0) {
                return legLand[thing];
            }
            return column[thing] < cut[row[thing]] ? 0 : 1;
        }

        int boardsInRow(int land, int r) {
            return land == 0 ? cut[r] : wide - cut[r];
        }

        int boardsByLine(int land) {
            int sum = 0;
            for (int r = 0; r < deep; r++) {
                sum += boardsInRow(land, r);
            }
            return sum;
        }

        int boardsOf(int land) {
            int sum = boardsByLine(land);
            for (int i = 0; i < count; i++) {
                int byLine = landByLine(column[i], row[i]);
                int byLeg = holderOf(i);
                if (byLeg != byLine) {
                    sum += byLeg == land ? 1 : -1;
                }
            }
            return sum;
        }

        private int worthHeldBy(int keeper, int land) {
            int sum = 0;
            for (int i = 0; i < count; i++) {
                if (holderOf(i) == keeper) {
                    sum += worthTo(land, i);
                }
            }
            return sum;
        }

        int valueOf(int land) {
            return worthHeldBy(land, land);
        }

        int envyOf(int land) {
            return worthHeldBy(1 - land, land) - worthHeldBy(land, land);
        }

        int worthOfAll(int land) {
            return worthHeldBy(0, land) + worthHeldBy(1, land);
        }

        int thingsOf(int land) {
            int set = 0;
            for (int i = 0; i < count; i++) {
                if (holderOf(i) == land) {
                    set |= 1 << i;
                }
            }
            return set;
        }

        private int bendAt(int r) {
            return Math.abs(cut[r] - cut[r - 1]);
        }

        int chalkDrawn() {
            int sum = deep;
            for (int r = 1; r < deep; r++) {
                sum += bendAt(r);
            }
            return sum;
        }

        int bulgingRows() {
            int sum = 0;
            for (int r = 1; r < deep; r++) {
                if (bendAt(r) > bend) {
                    sum++;
                }
            }
            return sum;
        }

        int strongestRow(int land) {
            int best = NONE;
            for (int r = 0; r < deep; r++) {
                if (best < 0 || boardsInRow(land, r) > boardsInRow(land, best)) {
                    best = r;
                }
            }
            return best;
        }

        int leastThing(int land) {
            int best = NONE;
            for (int i = 0; i < count; i++) {
                if (holderOf(i) == land && (best < 0 || worthTo(land, i) < worthTo(land, best))) {
                    best = i;
                }
            }
            return best;
        }

        int wantedThing(int land) {
            int best = NONE;
            for (int i = 0; i < count; i++) {
                if (holderOf(i) != land && (best < 0 || worthTo(land, i) > worthTo(land, best))) {
                    best = i;
                }
            }
            return best;
        }

        /** By how many boards the LINE moved. */
        int yieldBoards(int land, int r, int n) {
            int moved = Math.min(n, boardsInRow(land, r));
            cut[r] += land == 0 ? -moved : moved;
            yielded[land] += moved;
            return moved;
        }

        /** How many rows moved. */
        int passNight() {
            int moved = 0;
            for (int r = 1; r < deep; r++) {
                if (bendAt(r) > bend) {
                    cut[r] = cut[r] > cut[r - 1] ? cut[r - 1] + bend : cut[r - 1] - bend;
                    moved++;
                }
            }
            nights++;
            return moved;
        }

        /** Whether the LINE moved. */
        boolean sweepRow(int r) {
            int before = cut[r];
            if (r > 0 && r < deep - 1) {
                cut[r] = (cut[r - 1] + cut[r + 1]) / 2;
            } else if (r > 0) {
                cut[r] = cut[r - 1];
            } else if (r < deep - 1) {
                cut[r] = cut[r + 1];
            }
            return cut[r] != before;
        }

        boolean moveThing(int thing, int c, int r) {
            if (thingAt(c, r) != NONE) {
                return false;
            }
            column[thing] = c;
            row[thing] = r;
            return true;
        }
    }

    /** TALKS, as entries: the STEPS and the ends of when and loop, as they stand in the text. */
    private static final class Talks {
        boolean present = false;
        /** Of STEPS; the ends are none. */
        int count = 0;
        int size = 0;
        /** The WORD of a STEP; of a when that of its TEST. */
        final int[] word = new int[MOST_ENTRIES];
        final int[] one = new int[MOST_ENTRIES];
        final int[] two = new int[MOST_ENTRIES];
        final int[] three = new int[MOST_ENTRIES];
        /** Of a when or loop its end, of an end what it ends. */
        final int[] partner = new int[MOST_ENTRIES];

        void clear() {
            present = false;
            count = 0;
            size = 0;
        }

        void add(int theWord, int first, int second, int third) {
            if (size < MOST_ENTRIES) {
                word[size] = theWord;
                one[size] = first;
                two[size] = second;
                three[size] = third;
                partner[size] = NONE;
                size++;
            }
        }

        void become(Talks other) {
            present = other.present;
            count = other.count;
            size = other.size;
            System.arraycopy(other.word, 0, word, 0, size);
            System.arraycopy(other.one, 0, one, 0, size);
            System.arraycopy(other.two, 0, two, 0, size);
            System.arraycopy(other.three, 0, three, 0, size);
            System.arraycopy(other.partner, 0, partner, 0, size);
        }
    }

    /** Who HOLDS each board, which hang together, and the WAYS over them. */
    private static final class Isles {
        /** A WAY's cost is its PASSES times this and its STEPS, which are always fewer. */
        static final int PASS = 100;
        private static final int UNREACHED = 1000000;
        private static final int SIDES = 4;

        private final int[] keeper = new int[MOST_BOARDS];
        private final int[] isle = new int[MOST_BOARDS];
        /** Of each ISLAND: its LAND, and its boards. */
        private final int[] owner = new int[MOST_BOARDS];
        private final int[] extent = new int[MOST_BOARDS];
        private int count = 0;
        private final int[] queue = new int[MOST_BOARDS];
        private int queued = 0;
        private final int[] cost = new int[MOST_BOARDS];
        /** The set of boards that a WAY can't go to (any more). */
        private long closed = 0;
        int bridgeBoard = NONE;
        int bridgeIslands = 0;

        void survey(Floor floor) {
            findKeepers(floor);
            Arrays.fill(isle, NONE);
            count = 0;
            for (int row = 0; row < floor.deep; row++) {
                for (int column = 0; column < floor.wide; column++) {
                    int board = boardNumber(column, row);
                    if (isle[board] < 0) {
                        flood(floor, board);
                        count++;
                    }
                }
            }
        }

        private void findKeepers(Floor floor) {
            for (int row = 0; row < floor.deep; row++) {
                for (int column = 0; column < floor.wide; column++) {
                    keeper[boardNumber(column, row)] = column < floor.cut[row] ? 0 : 1;
                }
            }
            for (int i = 0; i < floor.count; i++) {
                keeper[boardOf(floor, i)] = floor.holderOf(i);
            }
        }

        private void flood(Floor floor, int start) {
            int land = keeper[start];
            queued = 0;
            claim(start);
            for (int next = 0; next < queued; next++) {
                for (int side = 0; side < SIDES; side++) {
                    int board = beside(floor, queue[next], side);
                    if (board >= 0 && keeper[board] == land && isle[board] < 0) {
                        claim(board);
                    }
                }
            }
            owner[count] = land;
            extent[count] = queued;
        }

        private void claim(int board) {
            isle[board] = count;
            queue[queued] = board;
            queued++;
        }

        private static int boardOf(Floor floor, int thing) {
            return boardNumber(floor.column[thing], floor.row[thing]);
        }

        /** The board on a side of another one, or NONE. */
        private static int beside(Floor floor, int board, int side) {
            int column = board % MOST_WIDE;
            int row = board / MOST_WIDE;
            switch (side) {
                case 0: return column + 1 < floor.wide ? board + 1 : NONE;
                case 1: return row + 1 < floor.deep ? board + MOST_WIDE : NONE;
                case 2: return column > 0 ? board - 1 : NONE;
                default: return row > 0 ? board - MOST_WIDE : NONE;
            }
        }

        int countOf(int land) {
            int sum = 0;
            for (int i = 0; i < count; i++) {
                if (owner[i] == land) {
                    sum++;
                }
            }
            return sum;
        }

        int greatestOf(int land) {
            int greatest = 0;
            for (int i = 0; i < count; i++) {
                if (owner[i] == land) {
                    greatest = Math.max(greatest, extent[i]);
                }
            }
            return greatest;
        }

        int extentAt(int board) {
            return extent[isle[board]];
        }

        boolean together(int board, int other) {
            return isle[board] == isle[other];
        }

        int thingsWith(Floor floor, int thing) {
            int set = 0;
            for (int i = 0; i < floor.count; i++) {
                if (together(boardOf(floor, thing), boardOf(floor, i))) {
                    set |= 1 << i;
                }
            }
            return set;
        }

        int boardsAtBorder(Floor floor, int land) {
            int sum = 0;
            for (int row = 0; row < floor.deep; row++) {
                for (int column = 0; column < floor.wide; column++) {
                    int board = boardNumber(column, row);
                    if (keeper[board] == land && touchesOther(floor, board)) {
                        sum++;
                    }
                }
            }
            return sum;
        }

        private boolean touchesOther(Floor floor, int board) {
            for (int side = 0; side < SIDES; side++) {
                int next = beside(floor, board, side);
                if (next >= 0 && keeper[next] != keeper[board]) {
                    return true;
                }
            }
            return false;
        }

        void findBridge(Floor floor, int land) {
            int now = countOf(land);
            bridgeBoard = NONE;
            for (int row = 0; row < floor.deep; row++) {
                for (int column = 0; column < floor.wide; column++) {
                    int board = boardNumber(column, row);
                    if (keeper[board] != land) {
                        int then = now + 1 - islesAround(floor, board, land);
                        if (bridgeBoard < 0 || then < bridgeIslands) {
                            bridgeBoard = board;
                            bridgeIslands = then;
                        }
                    }
                }
            }
        }

        private int islesAround(Floor floor, int board, int land) {
            int sum = 0;
            long seen = 0;
            for (int side = 0; side < SIDES; side++) {
                int next = beside(floor, board, side);
                if (next >= 0 && keeper[next] == land && (seen >> isle[next] & 1) == 0) {
                    seen |= 1L << isle[next];
                    sum++;
                }
            }
            return sum;
        }

        /**
         * Each board of the other LAND joins the ISLAND nearest to it; where two such realms touch,
         * the boards of both ways back are what lies between, and the least of these is the strait.
         */
        int narrowest(Floor floor, int land) {
            spreadIsles(floor, land);
            int best = MOST_BOARDS;
            for (int next = 0; next < queued; next++) {
                int board = queue[next];
                for (int side = 0; side < 2; side++) {
                    int other = beside(floor, board, side);
                    if (other >= 0 && isle[other] != isle[board]) {
                        best = Math.min(best, cost[board] + cost[other]);
                    }
                }
            }
            return best;
        }

        private void spreadIsles(Floor floor, int land) {
            queued = 0;
            for (int row = 0; row < floor.deep; row++) {
                for (int column = 0; column < floor.wide; column++) {
                    int board = boardNumber(column, row);
                    if (keeper[board] == land) {
                        join(board, isle[board], 0);
                    } else {
                        isle[board] = NONE;
                    }
                }
            }
            for (int next = 0; next < queued; next++) {
                for (int side = 0; side < SIDES; side++) {
                    int board = beside(floor, queue[next], side);
                    if (board >= 0 && isle[board] < 0) {
                        join(board, isle[queue[next]], cost[queue[next]] + 1);
                    }
                }
            }
        }

        private void join(int board, int whose, int far) {
            isle[board] = whose;
            cost[board] = far;
            queue[queued] = board;
            queued++;
        }

        /** The cost of the WAY from the board of a THING to that of another one, or NONE. */
        int wayCost(Floor floor, int land, int from, int to) {
            findKeepers(floor);
            Arrays.fill(cost, UNREACHED);
            closed = 0;
            for (int i = 0; i < floor.count; i++) {
                if (floor.isBig(i) && i != from && i != to) {
                    close(boardOf(floor, i));
                }
            }
            int goal = boardOf(floor, to);
            int start = boardOf(floor, from);
            cost[start] = keeper[start] == land ? 0 : PASS;
            for (int turn = 0; turn < MOST_BOARDS; turn++) {
                int board = cheapestOpen();
                if (board < 0 || board == goal) {
                    break;
                }
                close(board);
                stepFrom(floor, land, board);
            }
            return cost[goal] < UNREACHED ? cost[goal] : NONE;
        }

        private void close(int board) {
            closed |= 1L << board;
        }

        private boolean isOpen(int board) {
            return (closed >> board & 1) == 0;
        }

        private int cheapestOpen() {
            int best = NONE;
            int least = UNREACHED;
            for (int board = 0; board < MOST_BOARDS; board++) {
                if (cost[board] < least && isOpen(board)) {
                    best = board;
                    least = cost[board];
                }
            }
            return best;
        }

        private void stepFrom(Floor floor, int land, int board) {
            for (int side = 0; side < SIDES; side++) {
                int next = beside(floor, board, side);
                if (next >= 0 && isOpen(next)) {
                    int there = cost[board] + 1 + (keeper[next] == land ? 0 : PASS);
                    cost[next] = Math.min(cost[next], there);
                }
            }
        }
    }

    /** GIVE and ASK: which boards a LAND gives so that most is kept, or won. */
    private static final class Bargains {
        private static final int HOPELESS = -1000000;

        /** What the THING of a board brings when the LINE passes it; a LEG keeps its board whatever the LINE does. */
        private final int[] change = new int[MOST_BOARDS];
        /** The best change by giving so many boards in all from a row on. */
        private final int[] best = new int[(MOST_DEEP + 1) * SUMS];

        void weigh(Floor floor, int giver, int judge, int n) {
            Arrays.fill(change, 0);
            for (int i = 0; i < floor.count; i++) {
                if (floor.legLand[i] < 0) {
                    int worth = floor.worthTo(judge, i);
                    change[boardNumber(floor.column[i], floor.row[i])] = giver == judge ? -worth : worth;
                }
            }
            Arrays.fill(best, HOPELESS);
            best[floor.deep * SUMS] = 0;
            for (int row = floor.deep - 1; row >= 0; row--) {
                for (int many = 0; many <= n; many++) {
                    best[row * SUMS + many] = bestFrom(floor, giver, row, many);
                }
            }
        }

        private int bestFrom(Floor floor, int giver, int row, int many) {
            int most = Math.min(many, floor.boardsInRow(giver, row));
            int found = HOPELESS;
            int changed = 0;
            for (int here = 0; here <= most; here++) {
                changed += changeOf(floor, giver, row, here);
                int later = best[(row + 1) * SUMS + many - here];
                if (later > HOPELESS) {
                    found = Math.max(found, changed + later);
                }
            }
            return found;
        }

        /** What the giver's board that lies so far from the LINE changes; the first is 1, 0 is none. */
        private int changeOf(Floor floor, int giver, int row, int far) {
            if (far == 0) {
                return 0;
            }
            int column = giver == 0 ? floor.cut[row] - far : floor.cut[row] + far - 1;
            return floor.hasBoard(column, row) ? change[boardNumber(column, row)] : 0;
        }

        int bestChange(int n) {
            return best[n];
        }

        int givenIn(Floor floor, int giver, int n, int row) {
            int left = n;
            int given = 0;
            for (int r = 0; r <= row; r++) {
                given = firstBest(floor, giver, r, left);
                left -= given;
            }
            return given;
        }

        private int firstBest(Floor floor, int giver, int row, int many) {
            int most = Math.min(many, floor.boardsInRow(giver, row));
            int changed = 0;
            for (int here = 0; here <= most; here++) {
                changed += changeOf(floor, giver, row, here);
                if (changed + best[(row + 1) * SUMS + many - here] == best[row * SUMS + many]) {
                    return here;
                }
            }
            return 0;
        }

        /** The fewest boards for a VALUE, or NONE. */
        int fewestFor(Floor floor, int land, int v) {
            int all = floor.boardsByLine(1 - land);
            int now = floor.valueOf(land);
            weigh(floor, 1 - land, land, all);
            for (int many = 0; many <= all; many++) {
                if (now + best[many] >= v) {
                    return many;
                }
            }
            return NONE;
        }
    }

    /** LINES that could be: PEACE, how many there are, and what all have in common. */
    private static final class Borders {
        private static final int HOPELESS = 1000000;

        /** The least bending from a row on, by where the LINE runs in that row. */
        private final int[] bending = new int[MOST_DEEP * CUTS];
        /** How many LINES there are so far, by where the LINE runs in the latest row and by the boards of LAND 0. */
        private final long[] ways = new long[CUTS * SUMS];
        private final long[] waysBefore = new long[CUTS * SUMS];
        /** Which sums the first rows can have, one bit each, by row and by where the LINE runs there. */
        private final long[] sums = new long[MOST_DEEP * CUTS];

        /** The CHALK of PEACE, or NONE. */
        int leastChalk(Floor floor, int first, int second) {
            if (floor.deep <= 0) {
                return NONE;
            }
            for (int row = floor.deep - 1; row >= 0; row--) {
                for (int cut = 0; cut <= floor.wide; cut++) {
                    boolean parts = partsSets(floor, first, second, row, cut);
                    bending[row * CUTS + cut] = parts ? bendingFrom(floor, row, cut) : HOPELESS;
                }
            }
            int least = HOPELESS;
            for (int cut = 0; cut <= floor.wide; cut++) {
                least = Math.min(least, bending[cut]);
            }
            return least < HOPELESS ? floor.deep + least : NONE;
        }

        private static boolean partsSets(Floor floor, int first, int second, int row, int cut) {
            for (int i = 0; i < floor.count; i++) {
                if (floor.row[i] == row) {
                    boolean ofZero = floor.column[i] < cut;
                    if ((first >> i & 1) == 1 && !ofZero || (second >> i & 1) == 1 && ofZero) {
                        return false;
                    }
                }
            }
            return true;
        }

        private int bendingFrom(Floor floor, int row, int cut) {
            if (row + 1 >= floor.deep) {
                return 0;
            }
            int low = Math.max(0, cut - floor.bend);
            int high = Math.min(floor.wide, cut + floor.bend);
            int least = HOPELESS;
            for (int next = low; next <= high; next++) {
                least = Math.min(least, Math.abs(next - cut) + bending[(row + 1) * CUTS + next]);
            }
            return least;
        }

        /** Where the LINE of PEACE runs in a row; leastChalk has been asked just before, and found one. */
        int peaceCut(Floor floor, int row) {
            int cut = 0;
            for (int c = 1; c <= floor.wide; c++) {
                if (bending[c] < bending[cut]) {
                    cut = c;
                }
            }
            for (int r = 1; r <= row; r++) {
                cut = peaceCutBehind(floor, r, cut);
            }
            return cut;
        }

        private int peaceCutBehind(Floor floor, int row, int ahead) {
            int high = Math.min(floor.wide, ahead + floor.bend);
            int best = Math.max(0, ahead - floor.bend);
            int least = Math.abs(best - ahead) + bending[row * CUTS + best];
            for (int cut = best + 1; cut <= high; cut++) {
                int here = Math.abs(cut - ahead) + bending[row * CUTS + cut];
                if (here < least) {
                    least = here;
                    best = cut;
                }
            }
            return best;
        }

        long howMany(Floor floor, int b) {
            if (floor.deep <= 0) {
                return b == 0 ? 1 : 0;
            }
            Arrays.fill(ways, 0L);
            for (int cut = 0; cut <= floor.wide; cut++) {
                ways[cut * SUMS + cut] = 1;
            }
            for (int row = 1; row < floor.deep; row++) {
                addRow(floor, row);
            }
            long sum = 0;
            for (int cut = 0; cut <= floor.wide; cut++) {
                sum += ways[cut * SUMS + b];
            }
            return sum;
        }

        private void addRow(Floor floor, int rowsAhead) {
            System.arraycopy(ways, 0, waysBefore, 0, CUTS * SUMS);
            Arrays.fill(ways, 0L);
            for (int sum = 0; sum <= rowsAhead * floor.wide; sum++) {
                addCuts(floor, sum);
            }
        }

        /** A window of those LINES whose latest row is near enough slides along with the new row. */
        private void addCuts(Floor floor, int sum) {
            long window = 0;
            for (int ahead = 0; ahead < floor.bend && ahead <= floor.wide; ahead++) {
                window += waysBefore[ahead * SUMS + sum];
            }
            for (int cut = 0; cut <= floor.wide && sum + cut < SUMS; cut++) {
                if (cut + floor.bend <= floor.wide) {
                    window += waysBefore[(cut + floor.bend) * SUMS + sum];
                }
                if (cut - floor.bend > 0) {
                    window -= waysBefore[(cut - floor.bend - 1) * SUMS + sum];
                }
                ways[cut * SUMS + sum + cut] = window;
            }
        }

        /** The boards of LAND 0 in all LINES with b boards: in each row the least that one of them has; or NONE. */
        int boardsInAll(Floor floor, int b) {
            if (floor.deep <= 0) {
                return b == 0 ? 0 : NONE;
            }
            findSums(floor);
            int all = 0;
            for (int row = 0; row < floor.deep; row++) {
                int least = leastCut(floor, row, b);
                if (least < 0) {
                    return NONE;
                }
                all += least;
            }
            return all;
        }

        private void findSums(Floor floor) {
            for (int row = 0; row < floor.deep; row++) {
                for (int cut = 0; cut <= floor.wide; cut++) {
                    long ahead = row == 0 ? 1L : sumsNear(floor, row - 1, cut);
                    sums[row * CUTS + cut] = ahead << cut;
                }
            }
        }

        private long sumsNear(Floor floor, int row, int cut) {
            int high = Math.min(floor.wide, cut + floor.bend);
            long all = 0;
            for (int near = Math.max(0, cut - floor.bend); near <= high; near++) {
                all |= sums[row * CUTS + near];
            }
            return all;
        }

        private int leastCut(Floor floor, int row, int b) {
            for (int cut = 0; cut <= floor.wide; cut++) {
                if (canCut(floor, row, cut, b)) {
                    return cut;
                }
            }
            return NONE;
        }

        /** The rows behind, told from the last on, bend by the same rule: so what the first rows can have serves for them, too. */
        private boolean canCut(Floor floor, int row, int cut, int b) {
            long ahead = sums[row * CUTS + cut];
            long behind = sums[(floor.deep - 1 - row) * CUTS + cut];
            for (int sum = cut; sum <= b; sum++) {
                if ((ahead >>> sum & 1) == 1 && (behind >>> b - sum + cut & 1) == 1) {
                    return true;
                }
            }
            return false;
        }
    }

    /**
     * GAMES. More rounds end as one does: LAND 1 can make its best answer to the first move and from then on take
     * back whatever LAND 0 does, and LAND 0 can take back all but LAND 1's last move. So it is enough to look at
     * LAND 0's first move and at the best answer to it; behind a move, or a pass, LAND 1 always has one.
     */
    private static final class Envoys {
        /** What the lead of LAND 0 grows by when it gets a board; a LEG keeps its board whatever the LINE does. */
        private final int[] gain = new int[MOST_BOARDS];
        /** LAND 0's VALUE less that of LAND 1. */
        int outcome = 0;
        int firstRow = 0;

        void play(Floor floor) {
            weigh(floor);
            int lead = floor.valueOf(0) - floor.valueOf(1);
            firstRow = floor.deep;
            outcome = lead - bestAnswer(floor, NONE);
            for (int row = 0; row < floor.deep; row++) {
                if (floor.cut[row] < floor.wide) {
                    int end = lead + gain[boardNumber(floor.cut[row], row)] - bestAnswer(floor, row);
                    if (firstRow == floor.deep || end > outcome) {
                        outcome = end;
                        firstRow = row;
                    }
                }
            }
        }

        private void weigh(Floor floor) {
            Arrays.fill(gain, 0);
            for (int i = 0; i < floor.count; i++) {
                if (floor.legLand[i] < 0) {
                    gain[boardNumber(floor.column[i], floor.row[i])] = floor.worthTo(0, i) + floor.worthTo(1, i);
                }
            }
        }

        /** The most that LAND 1 can win when LAND 0 has moved in a row (NONE: it passed). */
        private int bestAnswer(Floor floor, int moved) {
            int most = 0;
            for (int row = 0; row < floor.deep; row++) {
                int cut = row == moved ? floor.cut[row] + 1 : floor.cut[row];
                if (cut > 0) {
                    most = Math.max(most, gain[boardNumber(cut - 1, row)]);
                }
            }
            return most;
        }
    }

    /** Does what TALKS say. */
    private static final class Player {
        static final int RECORDED = 5;
        /** Between two STEPS there are at most three ends, so this many turns do for the most STEPS. */
        private static final int MOST_TURNS = 4 * MOST_DONE + 4;

        int done = 0;
        private int missed = 0;
        private int nights = 0;
        private boolean stepLeft = false;
        private int drawn = 0;
        private final int[] yielded = new int[2];
        private final int[] roundsLeft = new int[MOST_ENTRIES];
        boolean recorded = false;
        final int[] latest = new int[RECORDED];

        void record() {
            recorded = true;
            latest[0] = missed;
            latest[1] = yielded[0];
            latest[2] = yielded[1];
            latest[3] = nights;
            latest[4] = stepLeft ? 1 : 0;
        }

        void run(Talks talks, Floor floor, int seed) {
            done = 0;
            missed = 0;
            nights = 0;
            stepLeft = false;
            drawn = seed;
            yielded[0] = 0;
            yielded[1] = 0;
            int at = 0;
            for (int turn = 0; turn < MOST_TURNS && at < talks.size; turn++) {
                if (talks.word[at] == END) {
                    at = afterEnd(talks, at);
                } else if (done >= MOST_DONE) {
                    stepLeft = true;
                    return;
                } else {
                    done++;
                    at = afterStep(talks, floor, at);
                }
            }
        }

        private int afterEnd(Talks talks, int at) {
            int beginning = talks.partner[at];
            if (beginning >= 0 && talks.word[beginning] == LOOP) {
                roundsLeft[beginning]--;
                if (roundsLeft[beginning] > 0) {
                    return beginning + 1;
                }
            }
            return at + 1;
        }

        /** Does a STEP: which entry comes then. */
        private int afterStep(Talks talks, Floor floor, int at) {
            int word = talks.word[at];
            if (word == STOP) {
                return talks.size;
            }
            if (word == LOOP) {
                // A loop around nothing has no STEPS to repeat, and its rounds would only take turns.
                boolean empty = talks.partner[at] == at + 1;
                roundsLeft[at] = empty ? 1 : talks.one[at];
                return at + 1;
            }
            if (word == BOARDS || word == VALUE || word == HOLDS) {
                return holdsTrue(talks, floor, at) ? at + 1 : talks.partner[at] + 1;
            }
            if (!doStep(talks, floor, at)) {
                missed++;
            }
            return at + 1;
        }

        private static boolean holdsTrue(Talks talks, Floor floor, int at) {
            int land = talks.one[at];
            if (talks.word[at] == HOLDS) {
                return floor.holderOf(talks.two[at]) == land;
            }
            int number = talks.word[at] == BOARDS ? floor.boardsOf(land) : floor.valueOf(land);
            switch (talks.two[at]) {
                case '<': return number < talks.three[at];
                case '>': return number > talks.three[at];
                default: return number == talks.three[at];
            }
        }

        /** Whether it was not MISSED. */
        private boolean doStep(Talks talks, Floor floor, int at) {
            switch (talks.word[at]) {
                case YIELD: return doYield(floor, talks.one[at], talks.two[at], talks.three[at]);
                case SWEEP: return floor.sweepRow(talks.one[at]);
                case MOVE: return floor.moveThing(talks.one[at], talks.two[at], talks.three[at]);
                case ANY: return floor.deep > 0 && doYield(floor, talks.one[at], nextDraw(floor.deep), 1);
                default:
                    floor.passNight();
                    nights++;
                    return true;
            }
        }

        private boolean doYield(Floor floor, int land, int row, int n) {
            int moved = floor.yieldBoards(land, row, n);
            yielded[land] += moved;
            return moved > 0;
        }

        private int nextDraw(int n) {
            drawn = (drawn * 2957 + 11159) % 65536;
            return n > 0 ? drawn / 8 % n : 0;
        }
    }
}
