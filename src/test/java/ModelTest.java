import java.util.ArrayList;
import java.util.List;
import java.util.Random;

/** Runs of calls drawn from fixed seeds: the class and the model have to answer alike. */
public final class ModelTest {
    private static final int RUNS = Integer.getInteger("runs", 1500);
    private static final int[] EDGES = {
        Integer.MIN_VALUE, Integer.MIN_VALUE + 1, -1000, -3, -2, -1, 0, 1, 2, 7, 8, 9, 20, 21, 22, 39, 40, 41,
        255, 256, 1000000, 1000001, 1 << 30, Integer.MAX_VALUE - 1, Integer.MAX_VALUE
    };

    private final Due due;
    private final Random random;
    private final ToldScenes x = new ToldScenes();
    private final Model model = new Model();
    private final StringBuilder calls = new StringBuilder();
    private final int mostScenes;
    private final boolean far;

    private ModelTest(Due due, int seed) {
        this.due = due;
        random = new Random(seed);
        // The model tries all rows, so only some runs have all eight scenes.
        mostScenes = random.nextInt(12) == 0 ? 8 : 3 + random.nextInt(4);
        far = random.nextInt(6) == 0;
    }

    public static void main(String[] args) {
        Due due = new Due("ModelTest");
        for (int seed = 0; seed < RUNS && due.isClean(); seed++) {
            due.part("seed " + seed);
            ModelTest test = new ModelTest(due, seed);
            test.run();
            if (!due.isClean()) {
                System.out.println("the calls: " + test.calls);
            }
        }
        due.end();
    }

    private void same(String call, long got, long want) {
        calls.append(call).append("=").append(got).append(" ");
        due.is(call, got, want);
    }

    private void run() {
        int scenes = random.nextInt(mostScenes + 1);
        for (int i = 0; i < scenes; i++) {
            scene();
        }
        for (int i = 0; i < 40 && due.isClean(); i++) {
            change();
            if (random.nextInt(5) == 0) {
                tellAnew();
            }
            small();
            if (random.nextInt(mostScenes == 8 ? 20 : 6) == 0) {
                best();
            }
        }
        same("many(3)", x.many(3), model.many(3));
    }

    private int edge() {
        return EDGES[random.nextInt(EDGES.length)];
    }

    private int or(int usual) {
        return random.nextInt(25) == 0 ? edge() : usual;
    }

    private int time() {
        if (far) {
            return random.nextInt(3) == 0 ? edge() : random.nextInt();
        }
        return or(random.nextInt(12) * 10 - 50 + random.nextInt(3));
    }

    private int length() {
        return far ? random.nextInt(1 << (1 + random.nextInt(30))) : or(1 + random.nextInt(3) * 10);
    }

    private int clues() {
        return or(random.nextInt(3) == 0 ? 1 << random.nextInt(4) : 0);
    }

    private int k() {
        return or(random.nextInt(Math.max(1, model.sceneCount() + (random.nextInt(8) == 0 ? 1 : 0))));
    }

    private void scene() {
        if (model.sceneCount() >= mostScenes && mostScenes < 8) {
            return;
        }
        int from = time();
        int length = length();
        int gives = or(random.nextInt(16));
        int needs = random.nextInt(3) == 0 ? clues() : 0;
        same("scene(" + from + ", " + length + ", " + gives + ", " + needs + ")",
            x.scene(from, length, gives, needs), model.scene(from, length, gives, needs));
    }

    private void change() {
        int k = k();
        switch (random.nextInt(10)) {
            case 0, 1 -> scene();
            case 2 -> {
                int d = far ? random.nextInt() : or(random.nextInt(9) * 10 - 40);
                same("move(" + k + ", " + d + ")", x.move(k, d), model.move(k, d));
            }
            case 3 -> {
                int d = far ? random.nextInt() : or(random.nextInt(9) - 4);
                same("shift(" + d + ")", x.shift(d), model.shift(d));
            }
            case 4 -> {
                int times = or(1 + random.nextInt(3));
                same("stretch(" + k + ", " + times + ")", x.stretch(k, times), model.stretch(k, times));
            }
            case 5, 6 -> {
                int c = or(random.nextInt(4));
                int which = or(random.nextInt(2));
                boolean is = random.nextInt(3) == 0;
                same("clue(" + k + ", " + c + ", " + which + ", " + is + ")",
                    x.clue(k, c, which, is), model.clue(k, c, which, is));
            }
            case 7 -> {
                if (random.nextInt(3) == 0) {
                    same("drop()", x.drop(), model.drop());
                }
            }
            case 8 -> {
                int v = or(random.nextInt(3) == 0 ? 0 : random.nextInt(60));
                same("fee(" + v + ")", x.fee(v), model.fee(v));
            }
            default -> sign();
        }
    }

    private void add(int sign) {
        same("add(" + sign + ")", x.add(sign), model.add(sign));
    }

    private void cut(int n) {
        same("cut(" + n + ")", x.cut(n), model.cut(n));
    }

    private void sign() {
        if (random.nextInt(3) == 0) {
            cut(or(Math.min(model.signs().size(), random.nextInt(3))));
        } else {
            add(or(random.nextInt(3) == 0 ? 20 + random.nextInt(2) : random.nextInt(8)));
        }
    }

    /** Signs are drawn at will, and mostly only those taken that are not wrong, so that long tellings come about. */
    private void tellAnew() {
        cut(model.signs().size());
        int tries = 1 + random.nextInt(40);
        for (int i = 0; i < tries; i++) {
            List<Integer> then = new ArrayList<>(model.signs());
            int sign = random.nextInt(3) == 0 ? 20 + random.nextInt(2) : random.nextInt(8);
            then.add(sign);
            int reason = model.look(then).reason;
            if (reason == Model.NONE || reason == 7 || random.nextInt(150) == 0) {
                add(sign);
            }
        }
        int count = model.signs().size();
        if (count > 0 && model.signs().get(count - 1) == 20 && random.nextInt(10) != 0) {
            cut(1);
        }
        for (int i = 0; i < 8 && model.look(model.signs()).reason == 7 && random.nextInt(10) != 0; i++) {
            add(21);
        }
    }

    private void small() {
        int k = k();
        int other = k();
        for (int what = 0; what <= 5; what++) {
            same("judge(" + what + ")", x.judge(what), model.judge(what));
            same("ofScene(" + k + ", " + what + ")", x.ofScene(k, what), model.ofScene(k, what));
            same("many(" + what + ")", x.many(what), model.many(what));
        }
        for (int what = 0; what <= 4; what++) {
            same("told(" + k + ", " + what + ")", x.told(k, what), model.told(k, what));
        }
        same("jumps()", x.jumps(), model.jumps());
        same("jump(" + k + ", " + other + ")", x.jump(k, other), model.jump(k, other));
        same("span(0)", x.span(0), model.span(0));
        same("span(1)", x.span(1), model.span(1));
        same("untangled()", x.untangled(), model.untangled());
        int c = or(random.nextInt(8));
        int which = or(random.nextInt(2));
        same("ofClue(" + c + ", " + which + ")", x.ofClue(c, which), model.ofClue(c, which));
        int wild = edge();
        same("judge(" + wild + ")", x.judge(wild), model.judge(wild));
        same("many(" + wild + ")", x.many(wild), model.many(wild));
        same("told(" + wild + ", 0)", x.told(wild, 0), model.told(wild, 0));
        same("span(" + wild + ")", x.span(wild), model.span(wild));
    }

    private void best() {
        for (int k = -2; k <= model.sceneCount(); k++) {
            same("order(" + k + ")", x.order(k), model.order(k));
        }
        int count = model.framed(-2);
        for (int k = -3; k <= count; k++) {
            same("framed(" + k + ")", x.framed(k), model.framed(k));
        }
        same("framed(-2)", x.framed(-2), count);
    }
}
