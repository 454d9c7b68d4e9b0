import java.util.ArrayList;
import java.util.Arrays;
import java.util.List;

/**
 * Every call, in several states, with all combinations of numbers at, just below and just above what the document
 * allows, against the model: which of several refusals comes first, and that they change nothing.
 */
public final class GridTest {
    private static final int LEAST = Integer.MIN_VALUE, GREATEST = Integer.MAX_VALUE;
    private static final int[] NODES = {-1, 0, 3, 6, 7, 9, 16};
    private static final int[] FEW_NODES = {-1, 0, 6, 16};
    private static final int[] MODES = {-1, 0, 2, 3};
    private static final int[] LANES = {-1, 0, 1, 2, 3};
    private static final int[] SHEETS = {-1, 0, 1, 2, 3, 4};
    private static final int[] SETTINGS = {0, 1, 2, 64, 65};
    private static final int[] CELLS = {LEAST, -1, 0, 1, 2, 3, 8, 9, GREATEST};
    private static final int[] FEW_CELLS = {-1, 0, 2, 3, 8, GREATEST};

    private final List<Object[]> calls = new ArrayList<>();

    public static void main(String[] args) {
        for (String state : new String[] {"empty", "kinds", "rich", "full", "spent"}) {
            GridTest grid = new GridTest();
            grid.fill();
            for (Object[] call : grid.calls) {
                grid.compare(state, (String) call[0], Arrays.copyOfRange(call, 1, call.length));
            }
        }
        Due.end();
    }

    private void compare(String state, String name, Object[] args) {
        Face tree = Face.of(new RateTree());
        Face model = Face.of(new Model());
        Made.into(state, tree);
        Made.into(state, model);
        String what = state + ": " + name + Arrays.toString(args);
        Due.due(what, tree.call(name, args), model.call(name, args));
        Due.due(what + " fault()", tree.call("fault"), model.call("fault"));
        Due.same(what, Look.at(tree), Look.at(model));
    }

    private void fill() {
        grid("source", new int[] {LEAST, 0, 1, 1000000, 1000001, GREATEST});
        grid("stage", new int[] {-1, 0, 1, 2, 3, 4}, FEW_NODES, SETTINGS, SETTINGS);
        grid("choice", NODES, NODES);
        grid("gate", NODES);
        int[] bounds = {-1, 0, 600, 1000000000, 1000000001};
        grid("limits", FEW_NODES, bounds, bounds);
        grid("set", NODES, new int[] {LEAST, -1, 0, 1, 2, 4, 5, 6, 7, 64, 65});
        grid("rate", NODES, new int[] {-1, 0, 1, 2});
        grid("about", NODES, new int[] {-1, 0, 7, 9, 10});
        grid("wish", MODES, FEW_NODES, new int[] {0, 1, 1000000, 1000001}, new int[] {0, 1, 1000, 1001},
            new int[] {-1, 0, 999, 1000});
        grid("multiple", MODES, FEW_NODES, FEW_NODES, new int[] {0, 1, 100, 101});
        grid("miss", new int[] {LEAST, -1, 0, 2, 3, 11, 12, GREATEST});
        grid("wished", new int[] {-1, 0, 2, 3, 11, 12}, new int[] {-1, 0, 5, 6});
        grid("search", MODES);
        grid("hopeless", MODES);
        grid("planned", NODES);
        grid("plan", SHEETS, LANES, CELLS);
        grid("step", new int[] {LEAST, -1, 0, 2, 3, GREATEST});
        grid("sheet", SHEETS, LANES, new int[] {LEAST, -1, 0, 1, 24, 25, GREATEST});
        grid("lose", SHEETS);
        grid("put", SHEETS, CELLS, new int[] {LEAST, -129, 1, 128, 32768, GREATEST});
        grid("cell", SHEETS, CELLS, LANES);
        grid("copy", SHEETS, FEW_CELLS, new int[] {-1, 0, 1, 3, 4}, FEW_CELLS, FEW_CELLS);
        grid("tell", NODES);
        grid("spread", NODES);
        grid("as", NODES, new int[] {-1, 0, 1, 2, 3, 4, 5});
        grid("told", new int[] {LEAST, -1, 0, 1, 2, 3, 4, 5, 6, GREATEST});
        for (int n : NODES) {
            calls.add(new Object[] {"lock", n, true});
            calls.add(new Object[] {"lock", n, false});
        }
        for (String name : new String[] {"sound", "power", "tried", "change", "go", "trace", "fault"}) {
            calls.add(new Object[] {name});
        }
    }

    private void grid(String name, int[]... choices) {
        Object[] call = new Object[choices.length + 1];
        call[0] = name;
        choose(call, choices, 0);
    }

    private void choose(Object[] call, int[][] choices, int at) {
        if (at == choices.length) {
            calls.add(call.clone());
            return;
        }
        for (int one : choices[at]) {
            call[at + 1] = one;
            choose(call, choices, at + 1);
        }
    }
}
