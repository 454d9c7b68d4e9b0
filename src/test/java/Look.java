/** All that can be seen of an object, told by calls that change nothing but fault(). */
final class Look {
    private final StringBuilder seen = new StringBuilder();
    private final Face x;

    private Look(Face x) {
        this.x = x;
    }

    static String at(RateTree x) {
        return at(Face.of(x));
    }

    static String at(Face x) {
        Look look = new Look(x);
        look.atNodes();
        look.atWishes();
        look.atChange();
        for (int k = 0; k < 4; k++) {
            look.atSheet(k);
        }
        return look.seen.toString();
    }

    private long tell(String name, Object... args) {
        long answer = x.call(name, args);
        seen.append(name);
        for (Object one : args) {
            seen.append(' ').append(one);
        }
        seen.append(" = ").append(answer).append('\n');
        return answer;
    }

    private void atNodes() {
        long many = tell("told", 0);
        for (int n = 0; n < many; n++) {
            for (int what = 0; what < 10; what++) {
                tell("about", n, what);
            }
            tell("rate", n, 0);
            tell("rate", n, 1);
            tell("planned", n);
        }
        tell("sound");
        tell("power");
    }

    private void atWishes() {
        long many = tell("told", 1);
        for (int w = 0; w < many; w++) {
            for (int what = 0; what < 6; what++) {
                tell("wished", w, what);
            }
            tell("miss", w);
        }
    }

    private void atChange() {
        for (int what = 2; what < 6; what++) {
            tell("told", what);
        }
        for (int i = 0; i < 13; i++) {
            tell("step", i);
        }
        tell("tried");
        tell("trace");
    }

    private void atSheet(int k) {
        for (int lane = 0; lane < 3; lane++) {
            tell("cell", k, 0, lane);
            if (tell("fault") != 2) {
                atCells(k, lane);
                return;
            }
        }
    }

    private void atCells(int k, int lane) {
        for (int i = 0; i < 25 && x.call("fault") == 0; i++) {
            tell("cell", k, i, lane);
        }
    }
}
