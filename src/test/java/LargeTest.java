import java.util.Arrays;
import java.util.Random;

/** Plans in the greatest rooms, where Model would be too slow: all LINES are gone through one by one, none is kept. */
public final class LargeTest {
    private static final int WIDE = 9;
    private static final int DEEP = 7;

    private final Random dice;
    private final int[] line = new int[DEEP];
    private final int[][] worth = new int[2][WIDE * DEEP];
    private final int[] column = new int[10];
    private final int[] row = new int[10];
    private final int[] leg = new int[10];
    private final int[][] worths = new int[2][10];
    private int bends;
    private ChalkRoom room;
    private static int wrong = 0;

    // What going through all LINES with the sum b, or by two sets, finds.
    private final int[] at = new int[DEEP];
    private final long[] count = new long[64];
    private final int[][] leastAt = new int[64][DEEP];
    private int leastChalk;
    private int[] peace;

    private LargeTest(long seed) {
        dice = new Random(seed);
    }

    public static void main(String[] args) {
        for (int run = 0; run < 6; run++) {
            LargeTest t = new LargeTest(100 + run);
            t.lay(run);
            t.checkLines();
            t.checkDeals();
            t.checkGames();
        }
        System.out.println(wrong == 0 ? "LargeTest: all answers are as due" : "LargeTest: " + wrong + " answers are not as due");
        if (wrong != 0) {
            System.exit(1);
        }
    }

    private void due(String call, long got, long want) {
        if (got != want) {
            wrong++;
            System.out.println("LargeTest: " + call + " answered " + got + ", due is " + want + " in a room with the line "
                + Arrays.toString(line) + ", bends " + bends);
        }
    }

    private void lay(int run) {
        bends = new int[] {9, 0, 1, 2, 4, 3}[run];
        StringBuilder text = new StringBuilder("room 9 by 7; bends " + bends + "; line");
        for (int r = 0; r < DEEP; r++) {
            line[r] = dice.nextInt(WIDE + 1);
            text.append(' ').append(line[r]);
        }
        text.append(';');
        for (int i = 0; i < 10; i++) {
            int board = (i * 19 + dice.nextInt(3)) % 63;
            while (text.indexOf(" at " + board % WIDE + " " + board / WIDE + " ") >= 0) {
                board = (board + 1) % 63;
            }
            column[i] = board % WIDE;
            row[i] = board / WIDE;
            leg[i] = dice.nextInt(5) == 0 ? dice.nextInt(2) : -1;
            for (int l = 0; l < 2; l++) {
                worths[l][i] = dice.nextInt(100);
                worth[l][board] = leg[i] < 0 ? worths[l][i] : 0;
            }
            text.append("thing ").append((char) ('a' + i)).append(" at ").append(column[i]).append(' ').append(row[i])
                .append(" worth ").append(worths[0][i]).append(' ').append(worths[1][i])
                .append(leg[i] < 0 ? ";" : " leg " + leg[i] + ";");
        }
        room = new ChalkRoom();
        due("room", Texts.room(room, text.toString()), 10);
    }

    // ---- lines, sure, peace

    private void checkLines() {
        for (int[] l : leastAt) {
            Arrays.fill(l, WIDE + 1);
        }
        int first = dice.nextInt(1024) & dice.nextInt(1024) & dice.nextInt(1024);
        int second = dice.nextInt(1024) & dice.nextInt(1024) & ~first;
        leastChalk = Integer.MAX_VALUE;
        peace = null;
        walk(0, 0, 0, first, second);
        for (int b = 0; b <= 63; b++) {
            due("lines(" + b + ")", room.lines(b), count[b]);
            due("sure(" + b + ")", room.sure(b), count[b] == 0 ? -1 : Arrays.stream(leastAt[b]).sum());
        }
        due("peace", room.peace(first, second), peace == null ? -1 : leastChalk);
        for (int r = 0; r < DEEP; r++) {
            due("peaceIn", room.peaceIn(first, second, r), peace == null ? -1 : peace[r]);
        }
    }

    private void walk(int r, int sum, int chalk, int first, int second) {
        if (r == DEEP) {
            count[sum]++;
            for (int i = 0; i < DEEP; i++) {
                leastAt[sum][i] = Math.min(leastAt[sum][i], at[i]);
            }
            if (chalk + DEEP < leastChalk && parts(first, second)) {
                leastChalk = chalk + DEEP;
                peace = at.clone();
            }
            return;
        }
        for (int x = 0; x <= WIDE; x++) {
            int bend = r == 0 ? 0 : Math.abs(x - at[r - 1]);
            if (bend <= bends) {
                at[r] = x;
                walk(r + 1, sum + x, chalk + bend, first, second);
            }
        }
    }

    private boolean parts(int first, int second) {
        for (int i = 0; i < 10; i++) {
            boolean zero = column[i] < at[row[i]];
            if ((first & 1 << i) != 0 && !zero || (second & 1 << i) != 0 && zero) {
                return false;
            }
        }
        return true;
    }

    // ---- give, ask, price

    private int bestSum;
    private int[] best;

    private void checkDeals() {
        for (int land = 0; land < 2; land++) {
            int[] most = new int[64];
            Arrays.fill(most, -1);
            for (int n : new int[] {0, 1, 2, 3, 5, 8, 13, 20}) {
                checkDeal(land, land, n);
                checkDeal(land, 1 - land, n);
            }
            int all = 0;
            for (int r = 0; r < DEEP; r++) {
                all += land == 0 ? WIDE - line[r] : line[r];
            }
            // Only the ends of price are looked at here: what all boards bring, and one more than that.
            int brought = room.value(land);
            for (int i = 0; i < 10; i++) {
                boolean others = land == 0 ? column[i] >= line[row[i]] : column[i] < line[row[i]];
                brought += others && leg[i] < 0 ? worths[land][i] : 0;
            }
            int fewest = room.price(land, brought);
            due("price in reach", fewest >= 0 && fewest <= all ? 1 : 0, 1);
            if (fewest > 0 && fewest <= 20) {
                due("ask for the price", room.ask(land, fewest), brought);
                due("ask for less", room.ask(land, fewest - 1) < brought ? 1 : 0, 1);
            }
            due("price out of reach", room.price(land, brought + 1), -1);
        }
    }

    private void checkDeal(int land, int giver, int n) {
        bestSum = Integer.MIN_VALUE;
        best = null;
        deal(0, n, 0, land, giver);
        int value = room.value(land);
        String name = giver == land ? "give" : "ask";
        due(name + "(" + land + ", " + n + ")", giver == land ? room.give(land, n) : room.ask(land, n),
            best == null ? -1 : value + bestSum);
        for (int r = 0; r < DEEP; r++) {
            due(name + "In(" + land + ", " + n + ", " + r + ")",
                giver == land ? room.giveIn(land, n, r) : room.askIn(land, n, r), best == null ? -1 : best[r]);
        }
    }

    private void deal(int r, int left, int sum, int land, int giver) {
        if (r == DEEP) {
            if (left == 0 && sum > bestSum) {
                bestSum = sum;
                best = at.clone();
            }
            return;
        }
        int here = 0;
        int has = giver == 0 ? line[r] : WIDE - line[r];
        for (int g = 0; g <= has && g <= left; g++) {
            if (g > 0) {
                int c = giver == 0 ? line[r] - g : line[r] + g - 1;
                here += giver == land ? -worth[land][r * WIDE + c] : worth[land][r * WIDE + c];
            }
            at[r] = g;
            deal(r + 1, left - g, sum + here, land, giver);
        }
    }

    // ---- games

    private void checkGames() {
        System.arraycopy(line, 0, at, 0, DEEP);
        int lead = room.value(0) - room.value(1);
        for (int rounds = 1; rounds <= 3; rounds++) {
            int found = Integer.MIN_VALUE;
            int row = DEEP;
            for (int r = 0; r < DEEP; r++) {
                if (at[r] < WIDE) {
                    int won = gain(at[r]++, r);
                    int end = play(2 * rounds - 1, lead + won);
                    at[r]--;
                    if (end > found) {
                        found = end;
                        row = r;
                    }
                }
            }
            due("game(" + rounds + ")", room.game(rounds), found);
            due("first(" + rounds + ")", room.first(rounds), row);
        }
    }

    private int gain(int c, int r) {
        return worth[0][r * WIDE + c] + worth[1][r * WIDE + c];
    }

    private int play(int moves, int lead) {
        if (moves == 0) {
            return lead;
        }
        boolean zero = moves % 2 == 0;
        int found = zero ? Integer.MIN_VALUE : Integer.MAX_VALUE;
        boolean passes = true;
        for (int r = 0; r < DEEP; r++) {
            if (zero ? at[r] < WIDE : at[r] > 0) {
                passes = false;
                int won = zero ? gain(at[r]++, r) : -gain(--at[r], r);
                int end = play(moves - 1, lead + won);
                at[r] += zero ? -1 : 1;
                found = zero ? Math.max(found, end) : Math.min(found, end);
            }
        }
        return passes ? play(moves - 1, lead) : found;
    }
}
