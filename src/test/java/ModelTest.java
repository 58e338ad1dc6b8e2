import java.util.ArrayList;
import java.util.List;
import java.util.Random;

/** Runs of drawn calls on ChalkRoom and on Model: every answer, STATUS and FRACTION must be the same. */
public final class ModelTest {
    /** An object is used for at most 512 calls; one drawn call may need some fifty for its text. */
    private static final int MOST_CALLS = 512 - 60;
    private static final String[] WORDS = ("room by line bends thing at worth leg big yield night sweep move to any when"
        + " boards value holds loop end stop").split(" ");
    private static final String[] NAMES = {"a", "b", "safe", "stove", "abcdefgh", "tsar", "z", "map", "lamp", "bed", "q", "rug"};

    private final Random dice;
    private ChalkRoom room;
    private Model model;
    private final List<String> story = new ArrayList<>();
    private int wrong = 0;
    private int calls = 0;

    private ModelTest(long seed) {
        dice = new Random(seed);
    }

    public static void main(String[] args) {
        int runs = args.length > 0 ? Integer.parseInt(args[0]) : 3000;
        long from = args.length > 1 ? Long.parseLong(args[1]) : 1;
        int wrong = 0;
        for (int run = 0; run < runs && wrong < 5; run++) {
            ModelTest t = new ModelTest(from + run);
            t.run();
            wrong += t.wrong;
        }
        System.out.println(wrong == 0 ? "ModelTest: " + runs + " runs agree" : "ModelTest: " + wrong + " runs differ");
        if (wrong != 0) {
            System.exit(1);
        }
    }

    private int upTo(int n) {
        return dice.nextInt(n + 1);
    }

    /** Mostly a number from 0 on that can be; now and then one that can't. */
    private int near(int n) {
        int odd = dice.nextInt(30);
        if (odd == 0) {
            return -1;
        }
        if (odd == 1) {
            return n + 1;
        }
        if (odd == 2) {
            return dice.nextBoolean() ? dice.nextInt() : dice.nextBoolean() ? Integer.MAX_VALUE : Integer.MIN_VALUE;
        }
        return n < 0 ? 0 : dice.nextInt(n + 1);
    }

    private void run() {
        room = new ChalkRoom();
        model = new Model();
        boolean little = dice.nextInt(4) > 0;
        for (int call = 0; calls < MOST_CALLS && call < MOST_CALLS && wrong == 0; call++) {
            if (call == 0 && dice.nextInt(8) > 0 || dice.nextInt(60) == 0) {
                text(drawnRoom(little), true);
            } else if (dice.nextInt(12) == 0) {
                text(drawnTalks(), false);
            } else {
                drawnCall();
            }
        }
        if (wrong > 0) {
            for (String s : story.subList(Math.max(0, story.size() - 60), story.size())) {
                System.out.println("  " + s);
            }
        }
    }

    private void same(String call, long got, long due) {
        story.add(call + " -> " + got);
        boolean differ = got != due || room.status() != model.status;
        calls += 2;
        if (calls % 8 < 2 || call.startsWith("room(") || call.startsWith("talks(") || call.startsWith("mean(")) {
            differ |= room.top() != model.top || room.bottom() != model.bottom || room.fault(0) != model.fault(0)
                || room.fault(1) != model.fault(1);
            calls += 4;
        }
        if (differ) {
            wrong = 1;
            System.out.println(call + ": got " + got + " (status " + room.status() + ", " + room.top() + "/" + room.bottom()
                + ", fault " + room.fault(0) + " at " + room.fault(1) + "), model " + due + " (status " + model.status + ", "
                + model.top + "/" + model.bottom + ", fault " + model.fault(0) + " at " + model.fault(1) + ")");
        }
    }

    private void same(String call, boolean got, boolean due) {
        same(call, got ? 1 : 0, due ? 1 : 0);
    }

    private void text(String text, boolean isRoom) {
        for (int from = 0; from < text.length(); from += 20) {
            int[] v = Texts.twenty(text, from);
            int got = room.feed(v[0], v[1], v[2], v[3], v[4]);
            calls++;
            if (got != model.feed(v[0], v[1], v[2], v[3], v[4])) {
                wrong = 1;
                System.out.println("feed: got " + got);
            }
        }
        int n = dice.nextInt(20) == 0 ? near(text.length()) : text.length();
        if (isRoom) {
            same("room(" + n + ") " + text, room.room(n), model.room(n));
        } else {
            same("talks(" + n + ") " + text, room.talks(n), model.talks(n));
        }
    }

    private String spoiled(String text) {
        if (text.isEmpty() || dice.nextInt(3) > 0) {
            return text;
        }
        StringBuilder sb = new StringBuilder(text);
        for (int i = upTo(2); i >= 0 && sb.length() > 0; i--) {
            int at = dice.nextInt(sb.length());
            switch (dice.nextInt(6)) {
                case 0: sb.setCharAt(at, (char) dice.nextInt(256)); break;
                case 1: sb.deleteCharAt(at); break;
                case 2: sb.insert(at, " " + WORDS[dice.nextInt(WORDS.length)] + " "); break;
                case 3: sb.insert(at, dice.nextInt(12)); break;
                case 4: sb.insert(at, ";<>= \n09az".charAt(dice.nextInt(10))); break;
                default: sb.setLength(at); break;
            }
        }
        return sb.toString();
    }

    private String drawnRoom(boolean little) {
        int wide = little ? 1 + dice.nextInt(5) : 1 + dice.nextInt(9);
        int deep = little ? 1 + dice.nextInt(4) : 1 + dice.nextInt(7);
        StringBuilder sb = new StringBuilder("room " + wide + " by " + deep + ";");
        if (dice.nextBoolean()) {
            sb.append("line");
            for (int r = 0; r < deep; r++) {
                sb.append(' ').append(upTo(wide));
            }
            sb.append(";");
        }
        if (dice.nextBoolean()) {
            sb.append("bends ").append(upTo(dice.nextBoolean() ? 2 : 9)).append(";");
        }
        int things = upTo(11);
        int most = dice.nextBoolean() ? 4 : 99;
        for (int i = 0; i < things; i++) {
            int board = dice.nextInt(wide * deep);
            if (dice.nextInt(6) > 0) {
                board = i * 7 % (wide * deep);
            }
            if (dice.nextInt(40) > 0 && sb.indexOf(" at " + board % wide + " " + board / wide + " ") >= 0) {
                continue;
            }
            String name = NAMES[dice.nextInt(40) == 0 ? dice.nextInt(12) : i];
            sb.append(dice.nextBoolean() ? "thing " : "\n thing  ").append(name).append(" at ").append(board % wide).append(' ')
                .append(board / wide).append(" worth ").append(upTo(most)).append(' ').append(upTo(most));
            if (dice.nextInt(3) == 0) {
                sb.append(" leg ").append(upTo(1));
            }
            sb.append(dice.nextInt(3) == 0 ? " big;" : ";");
        }
        return spoiled(sb.toString());
    }

    private String drawnTalks() {
        StringBuilder sb = new StringBuilder();
        steps(sb, dice.nextInt(20) == 0 ? 5 : 3, 1 + upTo(dice.nextInt(10) == 0 ? 30 : 6));
        return spoiled(sb.length() > 300 && dice.nextInt(10) > 0 ? "night;" : sb.toString());
    }

    private String drawnName() {
        int many = model.now.things.size();
        return many == 0 || dice.nextInt(40) == 0 ? NAMES[dice.nextInt(12)] : model.now.things.get(dice.nextInt(many)).name;
    }

    private void steps(StringBuilder sb, int depth, int many) {
        for (int i = 0; i < many; i++) {
            int row = upTo(Math.max(0, model.now.deep - 1));
            switch (dice.nextInt(depth > 0 ? 9 : 6)) {
                case 0: sb.append("yield ").append(upTo(1)).append(' ').append(row).append(' ').append(1 + upTo(8)).append(';'); break;
                case 1: sb.append("night;"); break;
                case 2: sb.append("sweep ").append(row).append(';'); break;
                case 3: sb.append("move ").append(drawnName()).append(" to ")
                    .append(upTo(Math.max(0, model.now.wide - 1))).append(' ').append(row).append(';'); break;
                case 4: sb.append("any ").append(upTo(1)).append(';'); break;
                case 5: sb.append(dice.nextInt(8) == 0 ? "stop;" : "any 0;"); break;
                case 6: sb.append("loop ").append(1 + upTo(dice.nextBoolean() ? 98 : 4)).append(';');
                    steps(sb, depth - 1, upTo(3));
                    sb.append("end;");
                    break;
                default: test(sb);
                    steps(sb, depth - 1, upTo(3));
                    sb.append("end;");
                    break;
            }
        }
    }

    private void test(StringBuilder sb) {
        sb.append("when ");
        char compare = "<>=".charAt(dice.nextInt(3));
        switch (dice.nextInt(3)) {
            case 0: sb.append("boards ").append(upTo(1)).append(compare).append(upTo(dice.nextInt(9) == 0 ? 101 : 20)); break;
            case 1: sb.append("value ").append(upTo(1)).append(compare).append(upTo(dice.nextInt(9) == 0 ? 1001 : 50)); break;
            default: sb.append("holds ").append(upTo(1)).append(' ').append(drawnName()); break;
        }
        sb.append(';');
    }

    private void drawnCall() {
        switch (dice.nextInt(7)) {
            case 0: trayCall(); break;
            case 1: lookCall(); break;
            case 2: deedCall(); break;
            case 3: isleCall(); break;
            case 4: planCall(); break;
            case 5: lineCall(); break;
            default: talkCall(); break;
        }
    }

    private void trayCall() {
        int t = near(3);
        int a = near(8);
        int b = near(8);
        int u = near(3);
        switch (dice.nextInt(6)) {
            case 0: {
                int sort = dice.nextBoolean() ? 0 : near(3);
                int many = dice.nextBoolean() ? near(60) : near(8);
                same("tray(" + t + "," + sort + "," + many + ")", room.tray(t, sort, many), model.tray(t, sort, many));
                break;
            }
            case 1: case 2: {
                long v = dice.nextInt(3) == 0 ? dice.nextLong() : dice.nextInt(5) == 0 ? dice.nextInt(600) - 300 : upTo(model.now.wide);
                same("write(" + t + "," + a + "," + v + ")", room.write(t, a, v), model.write(t, a, v));
                break;
            }
            case 3: same("read(" + t + "," + a + ")", room.read(t, a), model.read(t, a)); break;
            case 4: {
                int many = near(6);
                same("pour(" + t + "," + a + "," + u + "," + b + "," + many + ")", room.pour(t, a, u, b, many),
                    model.pour(t, a, u, b, many));
                break;
            }
            default: {
                int what = near(1);
                same("fault(" + what + ")", room.fault(what), model.fault(what));
                break;
            }
        }
    }

    private int aThing() {
        return near(model.now.things.size() - 1);
    }

    private int aRow() {
        return near(model.now.deep - 1);
    }

    private int aColumn() {
        return near(model.now.wide - 1);
    }

    private void lookCall() {
        int l = near(1);
        int c = aColumn();
        int r = aRow();
        int t = aThing();
        int what = near(6);
        switch (dice.nextInt(18)) {
            case 0: same("told(" + what + ")", room.told(what), model.told(what)); break;
            case 1: same("line(" + r + ")", room.line(r), model.line(r)); break;
            case 2: same("thing(" + t + "," + what + ")", room.thing(t, what), model.thing(t, what)); break;
            case 3: same("on(" + c + "," + r + ")", room.on(c, r), model.on(c, r)); break;
            case 4: same("land(" + c + "," + r + ")", room.land(c, r), model.land(c, r)); break;
            case 5: same("boards(" + l + ")", room.boards(l), model.boards(l)); break;
            case 6: same("value(" + l + ")", room.value(l), model.value(l)); break;
            case 7: same("things(" + l + ")", room.things(l), model.things(l)); break;
            case 8: same("share(" + l + ")", room.share(l), model.share(l)); break;
            case 9: same("envy(" + l + ")", room.envy(l), model.envy(l)); break;
            case 10: same("fair()", room.fair(), model.fair()); break;
            case 11: same("chalk()", room.chalk(), model.chalk()); break;
            case 12: same("bulges()", room.bulges(), model.bulges()); break;
            case 13: same("border(" + l + ")", room.border(l), model.border(l)); break;
            case 14: same("strongest(" + l + ")", room.strongest(l), model.strongest(l)); break;
            case 15: same("least(" + l + ")", room.least(l), model.least(l)); break;
            case 16: same("wanted(" + l + ")", room.wanted(l), model.wanted(l)); break;
            default: same("told(" + what + ")", room.told(what), model.told(what)); break;
        }
    }

    private void deedCall() {
        int l = near(1);
        int c = aColumn();
        int r = aRow();
        int t = aThing();
        int n = near(9);
        int u = near(3);
        switch (dice.nextInt(8)) {
            case 0: same("cede(" + l + "," + r + "," + n + ")", room.cede(l, r, n), model.cede(l, r, n)); break;
            case 1: same("night()", room.night(), model.night()); break;
            case 2: same("sweep(" + r + ")", room.sweep(r), model.sweep(r)); break;
            case 3: same("move(" + t + "," + c + "," + r + ")", room.move(t, c, r), model.move(t, c, r)); break;
            case 4: {
                int leg = dice.nextInt(3) == 0 ? -1 : l;
                same("leg(" + t + "," + leg + ")", room.leg(t, leg), model.leg(t, leg));
                break;
            }
            case 5: same("bends(" + n + ")", room.bends(n), model.bends(n)); break;
            case 6: same("draw(" + u + ")", room.draw(u), model.draw(u)); break;
            default: same("copy(" + u + ")", room.copy(u), model.copy(u)); break;
        }
    }

    private void isleCall() {
        int l = near(1);
        int c = aColumn();
        int r = aRow();
        int t = aThing();
        int u = aThing();
        switch (dice.nextInt(10)) {
            case 0: same("islands(" + l + ")", room.islands(l), model.islands(l)); break;
            case 1: same("island(" + c + "," + r + ")", room.island(c, r), model.island(c, r)); break;
            case 2: same("mainland(" + l + ")", room.mainland(l), model.mainland(l)); break;
            case 3: {
                int d = aColumn();
                int s = aRow();
                same("joined(" + c + "," + r + "," + d + "," + s + ")", room.joined(c, r, d, s), model.joined(c, r, d, s));
                break;
            }
            case 4: same("passes(" + l + "," + t + "," + u + ")", room.passes(l, t, u), model.passes(l, t, u)); break;
            case 5: same("steps(" + l + "," + t + "," + u + ")", room.steps(l, t, u), model.steps(l, t, u)); break;
            case 6: same("reach(" + t + ")", room.reach(t), model.reach(t)); break;
            case 7: same("strait(" + l + ")", room.strait(l), model.strait(l)); break;
            case 8: same("bridge(" + l + ")", room.bridge(l), model.bridge(l)); break;
            default: same("bridged(" + l + ")", room.bridged(l), model.bridged(l)); break;
        }
    }

    private void planCall() {
        if (!model.small()) {
            return;
        }
        int l = near(1);
        int r = aRow();
        int n = dice.nextBoolean() ? near(6) : near(20);
        int v = dice.nextBoolean() ? near(990) : near(100);
        switch (dice.nextInt(5)) {
            case 0: same("give(" + l + "," + n + ")", room.give(l, n), model.give(l, n)); break;
            case 1: same("giveIn(" + l + "," + n + "," + r + ")", room.giveIn(l, n, r), model.giveIn(l, n, r)); break;
            case 2: same("ask(" + l + "," + n + ")", room.ask(l, n), model.ask(l, n)); break;
            case 3: same("askIn(" + l + "," + n + "," + r + ")", room.askIn(l, n, r), model.askIn(l, n, r)); break;
            default: same("price(" + l + "," + v + ")", room.price(l, v), model.price(l, v)); break;
        }
    }

    private void lineCall() {
        int rounds = near(3);
        if (!model.small() || !model.smallGame(Math.max(1, Math.min(3, rounds)))) {
            return;
        }
        int all = (1 << model.now.things.size()) - 1;
        int f = dice.nextInt(3) > 0 ? dice.nextInt(all + 1) & dice.nextInt(all + 1) : near(all);
        int s = dice.nextInt(3) > 0 ? dice.nextInt(all + 1) & dice.nextInt(all + 1) & ~f : near(all);
        int r = aRow();
        int b = dice.nextBoolean() ? near(63) : near(model.now.wide * model.now.deep);
        switch (dice.nextInt(6)) {
            case 0: same("peace(" + f + "," + s + ")", room.peace(f, s), model.peace(f, s)); break;
            case 1: same("peaceIn(" + f + "," + s + "," + r + ")", room.peaceIn(f, s, r), model.peaceIn(f, s, r)); break;
            case 2: same("lines(" + b + ")", room.lines(b), model.lines(b)); break;
            case 3: same("sure(" + b + ")", room.sure(b), model.sure(b)); break;
            case 4: same("game(" + rounds + ")", room.game(rounds), model.game(rounds)); break;
            default: same("first(" + rounds + ")", room.first(rounds), model.first(rounds)); break;
        }
    }

    private void talkCall() {
        int seed = near(9999);
        switch (dice.nextInt(5)) {
            case 0: same("live(" + seed + ")", room.live(seed), model.live(seed)); break;
            case 1: {
                int what = near(4);
                same("lived(" + what + ")", room.lived(what), model.lived(what));
                break;
            }
            case 2: {
                int l = near(1);
                int many = near(20);
                same("mean(" + l + "," + seed + "," + many + ")", room.mean(l, seed, many), model.mean(l, seed, many));
                break;
            }
            case 3: same("mark()", room.mark(), model.mark()); break;
            default: same("undo()", room.undo(), model.undo()); break;
        }
    }
}
