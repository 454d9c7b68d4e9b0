import java.util.HashMap;
import java.util.Map;
import java.util.Random;

/** Runs of calls that are thrown by dice (always the same ones), answered by the class and by the model. */
public final class ModelTest {
    private static final int RUNS = 1500;
    private static final int CALLS = 512;
    private static final int[] ODD = {-1, 0, 1, 2, 3, 4, 5, 6, 7, 16, 24, 25, 64, 65, 100, 101, 999, 1000, 1001, 1000000,
        1000001, 1000000000, 1000000001, Integer.MAX_VALUE, Integer.MIN_VALUE, -10};

    private final Random dice;
    private final Face tree = Face.of(new RateTree());
    private final Model model = new Model();
    private final Face told = Face.of(model);
    private final StringBuilder log = new StringBuilder();
    private final boolean isWide;
    private final boolean isHigh;
    private int calls;
    private boolean isWrong;
    private static final Map<String, Map<String, Integer>> seen = new HashMap<>();

    private ModelTest(long seed) {
        dice = new Random(seed);
        isWide = dice.nextInt(3) == 0;
        isHigh = dice.nextInt(4) == 0;
    }

    public static void main(String[] args) {
        for (int seed = 0; seed < RUNS; seed++) {
            ModelTest run = new ModelTest(seed);
            run.play();
            Due.holds("run " + seed, !run.isWrong);
        }
        sawEnough();
        if (args.length > 0) {
            seen.forEach((call, answers) -> System.out.println(call + " " + answers));
        }
        Due.end();
    }

    /** Dice that never come to what is worth a look would test nothing. */
    private static void sawEnough() {
        String[] wanted = {"search found", "search -9", "search -6", "search -1", "change found", "change -9", "change -6",
            "change -3", "go found", "go -3", "plan found", "plan -1", "plan -2", "plan -3", "plan -11", "plan -12",
            "plan -13", "copy found", "copy -11", "copy -12", "copy -13", "hopeless found", "hopeless -6", "set -3",
            "planned -1", "planned -3", "sheet -14", "source -4", "wish -4", "multiple -4", "rate lost", "power lost"};
        for (String one : wanted) {
            String[] two = one.split(" ");
            Due.holds("the dice came to " + one, seen.getOrDefault(two[0], Map.of()).getOrDefault(two[1], 0) >= 10);
        }
        Due.holds("the dice came to long changes", seen.get("change").getOrDefault("long", 0) >= 100);
        Due.holds("the dice came to wishes that can not be met", seen.get("hopeless").getOrDefault("some", 0) >= 20);
        Due.holds("the dice came to misses", seen.get("search").getOrDefault("some", 0) >= 20);
    }

    private static void count(String name, long answer) {
        Map<String, Integer> answers = seen.computeIfAbsent(name, n -> new HashMap<>());
        String what = answer == Long.MIN_VALUE ? "lost" : answer >= 0 ? "found" : answer < -20 ? "low" : Long.toString(answer);
        answers.merge(what, 1, Integer::sum);
        if (answer > 0) {
            answers.merge("some", 1, Integer::sum);
        }
        if (answer > 5) {
            answers.merge("long", 1, Integer::sum);
        }
    }

    private void call(String name, Object... args) {
        if (isWrong || calls >= CALLS) {
            return;
        }
        calls++;
        long got = tree.call(name, args);
        long want = told.call(name, args);
        count(name, got);
        log.append(name).append(java.util.Arrays.toString(args)).append(" = ").append(got).append('\n');
        if (got != want) {
            isWrong = true;
            System.out.println(log + "due is " + want);
        }
    }

    private int below(int many) {
        return dice.nextInt(Math.max(1, many));
    }

    private boolean seldom(int one) {
        return dice.nextInt(one) == 0;
    }

    private int odd() {
        return ODD[below(ODD.length)];
    }

    private int node() {
        return seldom(40) ? odd() : below(model.parts.size() + (seldom(10) ? 1 : 0));
    }

    private int from(int least, int most) {
        return seldom(40) ? odd() : least + dice.nextInt(most - least + 1);
    }

    private void play() {
        int start = isWide ? 10 + below(7) : 2 + below(5);
        for (int i = 0; i < start; i++) {
            grow();
        }
        while (calls < CALLS && !isWrong) {
            act(below(40));
        }
    }

    private void grow() {
        int kind = model.parts.isEmpty() ? 0 : below(isWide && model.parts.size() < 16 ? 24 : 12);
        if (kind < 1) {
            call("source", isHigh ? from(900000, 1000000) : from(1, 60));
        } else if (kind < 8) {
            int low = isHigh && seldom(2) ? 40 + below(20) : from(1, 4);
            int span = isWide ? below(8) : isHigh && seldom(3) ? 30 : below(6);
            call("stage", from(1, 2), node(), low, seldom(30) ? odd() : Math.min(64, low + span));
        } else if (kind < 10) {
            call("choice", node(), node());
        } else {
            call("gate", node());
        }
    }

    private void act(int which) {
        switch (which) {
            case 0, 1 -> growSeldom();
            case 2, 3, 4 -> limit();
            case 5, 6, 7 -> turn(node());
            case 8 -> call("lock", node(), seldom(3));
            case 9, 10, 11 -> look();
            case 12, 13, 14 -> hope();
            case 15, 16, 17 -> call("search", from(0, 2));
            case 18, 19 -> call("hopeless", from(0, 2));
            case 20 -> call("planned", node());
            case 21, 22, 23 -> makePlan();
            case 24, 25, 26 -> change();
            case 27 -> call("go");
            case 28, 29 -> call("sheet", from(0, 3), from(0, 2), from(seldom(6) ? -1 : 0, 24));
            case 30 -> call("lose", from(0, 3));
            case 31 -> call("put", from(0, 3), from(-1, 20), dice.nextInt() >> below(32));
            case 32 -> call("cell", from(0, 3), from(-1, 20), from(0, 2));
            case 33, 34 -> call("copy", from(0, 3), from(0, 9), from(0, 3), from(0, 9), from(0, 9));
            case 35 -> call("tell", node());
            case 36 -> call("spread", node());
            case 37 -> call("as", node(), from(0, 4));
            case 38 -> call("plan", from(0, 3), from(0, 2), from(-1, 8));
            default -> call("told", from(0, 5));
        }
    }

    private void growSeldom() {
        if (seldom(isWide ? 3 : 8)) {
            grow();
        }
    }

    private void turn(int n) {
        call("set", n, setting(n));
    }

    private int setting(int n) {
        return n < 0 || n >= model.parts.size() || seldom(20) ? odd() : fitting(n);
    }

    private int fitting(int n) {
        int low = model.about(n, 4);
        return low + below(model.about(n, 5) - low + 1);
    }

    private int otherSetting(int n) {
        return model.about(n, 3) > model.about(n, 4) ? model.about(n, 4) : model.about(n, 5);
    }

    /** Limits near what the node gives, so that they bite now and then and do not shut all. */
    private void limit() {
        int n = node();
        long rate = n < 0 || n >= model.parts.size() || model.rate(n, 0) < 0 ? 100 : model.rate(n, 0) / model.rate(n, 1);
        if (seldom(3)) {
            call("limits", n, 0, 1000000000);
        } else if (seldom(10)) {
            call("limits", n, from(0, 50), from(0, 50));
        } else {
            call("limits", n, (int) (rate / (1 + below(4))), (int) Math.min(1000000000, (rate + 1) * (1 + below(4))));
        }
    }

    private void look() {
        call("rate", node(), from(0, 1));
        call("about", node(), from(0, 9));
        call("sound");
        call("power");
        call("miss", from(0, 12));
        call("wished", from(0, 12), from(0, 5));
        call("tried");
        call("trace");
        call("fault");
        call("told", from(0, 6));
        call("step", from(0, 12));
    }

    private void hope() {
        if (seldom(3) && model.hopes.size() > 3) {
            return;
        }
        int n = node();
        if (seldom(3)) {
            call("multiple", from(0, 2), n, node(), from(1, seldom(2) ? 3 : 9));
            return;
        }
        long rate = n < 0 || n >= model.parts.size() ? 1 : model.rate(n, 0);
        int near = (int) Math.max(1, Math.min(1000000, Math.max(1, rate) * (1 + below(30)) / 10));
        call("wish", from(0, 2), n, seldom(10) ? from(1, 1000000) : near, seldom(3) ? from(1, 1000) : from(1, 4),
            seldom(4) ? from(0, 999) : from(500, 999));
    }

    private void makePlan() {
        int many = model.parts.size();
        int lane = below(3);
        int at = below(3);
        int k = below(4);
        int moved = 1 + below(12);
        boolean isFar = seldom(3);
        call("sheet", k, lane, at + many);
        for (int n = 0; n < many; n++) {
            int v = seldom(moved) ? model.about(n, 3) : isFar ? otherSetting(n) : fitting(n);
            call("put", k, at + n, seldom(100) ? odd() : v);
        }
        call("plan", k, lane, at);
        call("told", 4);
        change();
    }

    private void change() {
        call("change");
        for (int i = 0; i < 13 && !seldom(12); i++) {
            call("step", i);
        }
        if (seldom(3)) {
            call("go");
        }
    }
}
