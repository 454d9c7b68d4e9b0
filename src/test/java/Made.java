/** Objects for the tests of edges, made so that whatever a refused call might change is other than at first. */
final class Made {
    /** How many nodes and wishes rich() has. */
    static final int NODES = 7;
    static final int WISHES = 3;

    private Made() {
    }

    /** Seven nodes, three wishes, three sheets, a plan, a change of three steps found, and a CAST told by fault(). */
    static RateTree rich() {
        return made("rich");
    }

    static RateTree richWithIndexFault() {
        RateTree x = rich();
        x.put(0, 3, 1);
        return x;
    }

    /** As rich(), with all nodes and all wishes that there may be. */
    static RateTree full() {
        return made("full");
    }

    /** As rich(), with more rows for a search than there may be. */
    static RateTree spent() {
        return made("spent");
    }

    static RateTree empty() {
        return made("empty");
    }

    /** One of each kind: 0 a source of 77, 1 a multiplier 5 .. 9, 2 a divider 3 .. 64, 3 a choice, 4 a gate. */
    static RateTree kinds() {
        return made("kinds");
    }

    private static RateTree made(String state) {
        RateTree x = new RateTree();
        into(state, Face.of(x));
        return x;
    }

    /** Brings a new object of the class, or of the model, into a state. */
    static void into(String state, Face x) {
        switch (state) {
            case "empty" -> { }
            case "kinds" -> addKinds(x);
            case "rich" -> enrich(x, NODES, WISHES, false);
            case "full" -> enrich(x, 16, 12, false);
            case "spent" -> enrich(x, NODES + 2, WISHES, true);
            default -> throw new IllegalArgumentException(state);
        }
    }

    /** Sources of these rates. */
    static RateTree sources(int... rates) {
        RateTree x = new RateTree();
        for (int r : rates) {
            x.source(r);
        }
        return x;
    }

    /** Adds multipliers, each with one setting, one behind the other: the number of the last. */
    static int times(RateTree x, int of, int... settings) {
        int last = of;
        for (int v : settings) {
            last = x.stage(1, last, v, v);
        }
        return last;
    }

    /** Adds dividers, each with one setting, one behind the other: the number of the last. */
    static int by(RateTree x, int of, int... settings) {
        int last = of;
        for (int v : settings) {
            last = x.stage(2, last, v, v);
        }
        return last;
    }

    /** Puts a row of ints into sheet 3 and makes it the plan. */
    static int plan(RateTree x, int... row) {
        x.sheet(3, 2, row.length);
        for (int i = 0; i < row.length; i++) {
            x.put(3, i, row[i]);
        }
        return x.plan(3, 2, 0);
    }

    private static void addKinds(Face x) {
        x.call("source", 77);
        x.call("stage", 1, 0, 5, 9);
        x.call("stage", 2, 0, 3, 64);
        x.call("choice", 0, 1);
        x.call("gate", 0);
    }

    private static void enrich(Face x, int nodes, int wishes, boolean isSpent) {
        addNodes(x, nodes, isSpent);
        addWishes(x, wishes);
        x.call("tell", 2);
        x.call("spread", 5);
        // The multipliers that make a search too long are locked for this one, so that tried() is not 0.
        lockRest(x, nodes, isSpent);
        x.call("hopeless", 1);
        lockRest(x, nodes, false);
        fillSheets(x, nodes, isSpent ? 1 : 0);
        x.call("plan", 1, 1, 1);
        x.call("change");
        x.call("as", 0, 4);
    }

    private static void addNodes(Face x, int nodes, boolean isSpent) {
        x.call("source", 600);
        x.call("source", 1000);
        x.call("stage", 1, 0, 1, 4);
        x.call("stage", 2, 2, 1, 6);
        x.call("choice", 3, 1);
        x.call("gate", 4);
        x.call("gate", 0);
        for (int n = NODES; n < nodes; n++) {
            if (isSpent) {
                x.call("stage", 1, 0, 1, 64);
            } else {
                x.call("source", n);
            }
        }
        x.call("limits", 3, 100, 2400);
        x.call("limits", 5, 0, 5000);
        x.call("set", 2, 2);
        x.call("set", 6, 1);
        x.call("lock", 6, true);
    }

    private static void addWishes(Face x, int wishes) {
        x.call("wish", 0, 3, 400, 1, 500);
        x.call("multiple", 1, 2, 0, 3);
        x.call("wish", 2, 5, 7, 2, 0);
        for (int w = WISHES; w < wishes; w++) {
            x.call("wish", w % 3, 0, 600 + w, 1, 7);
        }
    }

    private static void lockRest(Face x, int nodes, boolean is) {
        for (int n = NODES; n < nodes; n++) {
            x.call("lock", n, is);
        }
    }

    /** Sheet 0: three bytes; 1: shorts, from cell 1 on a plan; 2: no ints; 3 has nothing. */
    private static void fillSheets(Face x, int nodes, int restSetting) {
        int[] row = {0, 0, 4, 2, 0, 1, 1};
        x.call("sheet", 0, 0, 3);
        x.call("put", 0, 1, -7);
        x.call("sheet", 1, 1, nodes + 1);
        for (int n = 0; n < nodes; n++) {
            x.call("put", 1, n + 1, n < NODES ? row[n] : restSetting);
        }
        x.call("sheet", 2, 2, 0);
    }
}
