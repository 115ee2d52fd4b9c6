import java.util.function.Supplier;

/** The edges that promises 1 to 12 name: the last that is taken, the first that is not, and what a refusal leaves. */
public final class SceneEdgesTest extends Edges {
    private static final int[] NO_SCENES = {-1, 8, MIN, MAX};
    private static final int[] NO_CLUES = {-1, 8, MIN, MAX};
    private static final int[] NO_WHICH = {-1, 2, MIN, MAX};

    private SceneEdgesTest() {
        super("SceneEdgesTest");
    }

    public static void main(String[] args) {
        SceneEdgesTest test = new SceneEdgesTest();
        test.newObject();
        test.sceneBounds();
        test.sceneRefused();
        test.ofScene();
        test.move();
        test.moveRefused();
        test.shift();
        test.shiftRefused();
        test.stretch();
        test.stretchRefused();
        test.clue();
        test.clueRefused();
        test.ofClue();
        test.drop();
        test.fee();
        test.jump();
        test.jumpRefused();
        test.span();
        test.spanRefused();
        test.due.end();
    }

    private void newObject() {
        crowded().drop();
        ToldScenes x = new ToldScenes();
        due.part("promise 1, no SCENES");
        due.is("many(0)", x.many(0), 0);
        due.is("the first one's number", x.scene(3, 4, 5, 6), 0);
        due.part("promise 1, the TELLING has no SIGNS");
        due.is("many(1)", x.many(1), 0);
        due.is("the first one", x.add(0), 1);
        due.part("FEE: 100 at first");
        due.is("many(2)", new ToldScenes().many(2), 100);
        due.part("promise 21, nobody looked yet");
        due.is("many(3)", new ToldScenes().many(3), 0);
    }

    private void sceneBounds() {
        due.part("SCENES, 8 at most, numbered from 0 on as they came");
        ToldScenes x = new ToldScenes();
        for (int k = 0; k < 8; k++) {
            due.is("the " + k + "th", x.scene(10 * k, 1 + k, 1 << k, 255 - k), k);
        }
        for (int k = 0; k < 8; k++) {
            sceneIs(x, k, 10 * k, 1 + k, 1 << k, 255 - k);
        }
        due.part("FROM (a time, any int), LONG (1 or more), END is an int, too");
        x = new ToldScenes();
        due.is("the earliest", x.scene(MIN, 1, 0, 255), 0);
        due.is("the latest", x.scene(MAX - 1, 1, 255, 0), 1);
        due.is("the longest of the earliest", x.scene(MIN, MAX, 255, 255), 2);
        due.is("the longest up to the last time", x.scene(0, MAX, 0, 0), 3);
        due.is("from -1 to the last but one", x.scene(-1, MAX, 1, 128), 4);
        sceneIs(x, 0, MIN, 1, 0, 255);
        sceneIs(x, 1, MAX - 1, 1, 255, 0);
        sceneIs(x, 2, MIN, MAX, 255, 255);
        sceneIs(x, 3, 0, MAX, 0, 0);
        sceneIs(x, 4, -1, MAX, 1, 128);
    }

    private void sceneRefused() {
        due.part("promise 2, OUTSIDE: length (1 at least)");
        for (int length : new int[] {0, -1, MIN}) {
            alwaysUnchanged("scene(0, " + length + ", 0, 0)", x -> x.scene(0, length, 0, 0), OUTSIDE);
        }
        due.part("promise 2, OUTSIDE: gives, needs (0 .. 255)");
        for (int set : new int[] {-1, 256, MIN, MAX}) {
            alwaysUnchanged("scene(0, 1, " + set + ", 0)", x -> x.scene(0, 1, set, 0), OUTSIDE);
            alwaysUnchanged("scene(0, 1, 0, " + set + ")", x -> x.scene(0, 1, 0, set), OUTSIDE);
        }
        due.part("promise 2, FULL");
        unchanged("a ninth", Edges::crowded, x -> x.scene(0, 1, 0, 0), FULL);
        due.part("promise 2, OVER: its END");
        unchanged("one above", Edges::tale, x -> x.scene(MAX, 1, 0, 0), OVER);
        unchanged("one above, by its length", Edges::tale, x -> x.scene(1, MAX, 0, 0), OVER);
        unchanged("as far above as can be", Edges::blank, x -> x.scene(MAX, MAX, 255, 255), OVER);
        due.part("promise 2, of two that fit the first");
        unchanged("OUTSIDE, FULL", Edges::crowded, x -> x.scene(0, 0, 0, 0), OUTSIDE);
        unchanged("OUTSIDE, OVER", Edges::tale, x -> x.scene(MAX, 1, 0, 256), OUTSIDE);
        unchanged("OUTSIDE, FULL, OVER", Edges::crowded, x -> x.scene(MAX, 1, -1, 0), OUTSIDE);
        unchanged("FULL, OVER", Edges::crowded, x -> x.scene(MAX, 1, 0, 0), FULL);
    }

    private void ofScene() {
        due.part("promise 3, LOST: UNKNOWN");
        for (int k : NO_SCENES) {
            for (int what = 0; what < 5; what++) {
                int asked = what;
                alwaysUnchanged("ofScene(" + k + ", " + what + ")", x -> x.ofScene(k, asked), LOST);
            }
        }
        unchanged("the first that there is not", Edges::tale, x -> x.ofScene(4, 0), LOST);
        due.is("the last that there is", tale().ofScene(3, 3), 128);
        due.part("promise 3, LOST: OUTSIDE");
        for (int what : new int[] {-1, 5, MIN, MAX}) {
            alwaysUnchanged("ofScene(0, " + what + ")", x -> x.ofScene(0, what), LOST);
            alwaysUnchanged("ofScene(8, " + what + ")", x -> x.ofScene(8, what), LOST);
        }
        due.part("promise 3, END");
        due.is("the least", far().ofScene(0, 2), MIN + 1);
        due.is("the greatest", far().ofScene(1, 2), MAX);
    }

    private void moved(int from, int length, int d) {
        ToldScenes x = row(length, 5, from, 7);
        due.is("move(1, " + d + ")", x.move(1, d), 1);
        sceneIs(x, 0, 5, length, 0, 0);
        sceneIs(x, 1, from + d, length, 0, 0);
        sceneIs(x, 2, 7, length, 0, 0);
    }

    private void notMoved(int from, int length, int d) {
        unchanged("move(0, " + d + ") from " + from, () -> told(row(length, from), 0), x -> x.move(0, d), OVER);
    }

    private void move() {
        due.part("promise 4, FROM becomes d more: 1");
        moved(10, 5, 0);
        due.part("promise 4, the last that is not OVER");
        moved(10, 5, MAX - 15);
        moved(-10, 5, MIN + 10);
        moved(0, 1, MIN);
        moved(-1, 1, MAX);
        moved(MIN, 1, MAX);
        moved(MAX - 1, 1, MIN);
        moved(MAX - 10, 10, 0);
        moved(MIN, 10, 0);
    }

    private void moveRefused() {
        due.part("promise 4, UNKNOWN");
        for (int k : NO_SCENES) {
            alwaysUnchanged("move(" + k + ", 0)", x -> x.move(k, 0), UNKNOWN);
        }
        unchanged("the first that there is not", Edges::tale, x -> x.move(4, 1), UNKNOWN);
        unchanged("of none", Edges::blank, x -> x.move(0, 0), UNKNOWN);
        due.part("promise 4, OVER: its END above");
        notMoved(10, 5, MAX - 14);
        notMoved(MAX - 1, 1, 1);
        notMoved(0, 1, MAX);
        due.part("promise 4, OVER: its FROM above");
        notMoved(1, 1, MAX);
        notMoved(MAX - 1, 1, MAX);
        due.part("promise 4, OVER: its FROM below");
        notMoved(MIN, 1, -1);
        notMoved(-10, 5, MIN + 9);
        notMoved(-1, 1, MIN);
        notMoved(MIN, 1, MIN);
        due.part("promise 4, OVER: its FROM below, though its END is not");
        notMoved(MIN + 5, 100, -6);
        due.part("promise 4, UNKNOWN ahead of OVER");
        unchanged("far above", Edges::far, x -> x.move(2, MAX), UNKNOWN);
        unchanged("far below", Edges::far, x -> x.move(-1, MIN), UNKNOWN);
    }

    private void shifted(int d, int... froms) {
        ToldScenes x = row(10, froms);
        due.is("shift(" + d + ")", x.shift(d), froms.length);
        for (int k = 0; k < froms.length; k++) {
            sceneIs(x, k, froms[k] + d, 10, 0, 0);
        }
    }

    private void notShifted(int d, int... froms) {
        unchanged("shift(" + d + ")", () -> row(10, froms), x -> x.shift(d), OVER);
    }

    private void shift() {
        due.part("promise 5, of no SCENES none can be OVER");
        for (int d : new int[] {0, 1, -1, MIN, MAX}) {
            unchanged("shift(" + d + ")", Edges::blank, x -> x.shift(d), 0);
        }
        due.part("promise 5, how many there are");
        shifted(0, 5);
        shifted(-3, 0, 10, 20, 30, 40, 50, 60, 70);
        due.part("promise 5, the last that is not OVER");
        shifted(1, 0, MAX - 11, MIN);
        shifted(-1, 0, MAX - 10, MIN + 1);
        shifted(0, MAX - 10, MIN);
        shifted(MIN, 0, MAX - 10);
        shifted(MAX, MIN, -10);
    }

    private void shiftRefused() {
        due.part("promise 5, OVER: END of any of them (then none is moved)");
        notShifted(1, MAX - 10, 0, 5);
        notShifted(1, 0, MAX - 10, 5);
        notShifted(1, 0, 5, MAX - 10);
        notShifted(1, 0, 1, 2, 3, 4, 5, 6, MAX - 10);
        notShifted(MAX, -9);
        due.part("promise 5, OVER: FROM of any of them (then none is moved)");
        notShifted(-1, MIN, 0, 5);
        notShifted(-1, 0, MIN, 5);
        notShifted(-1, 0, 5, MIN);
        notShifted(MIN, 5, -1);
        notShifted(MAX, 5, 1);
        due.part("promise 5, a dropped SCENE is none of them");
        ToldScenes x = row(10, 0, MAX - 10);
        x.drop();
        due.is("shift(1)", x.shift(1), 1);
        sceneIs(x, 0, 1, 10, 0, 0);
    }

    private void stretched(int from, int length, int times) {
        ToldScenes x = row(1, 5, 6, 7);
        x.drop();
        x.scene(from, length, 3, 4);
        due.is("stretch(2, " + times + ")", x.stretch(2, times), 1);
        sceneIs(x, 2, from, (long) length * times, 3, 4);
        sceneIs(x, 0, 5, 1, 0, 0);
    }

    private void notStretched(int from, int length, int times) {
        unchanged("stretch(0, " + times + ") of " + length, () -> told(row(length, from), 0), x -> x.stretch(0, times), OVER);
    }

    private void stretch() {
        due.part("promise 6, times (1 at least)");
        stretched(10, 5, 1);
        stretched(MAX - 5, 5, 1);
        stretched(MIN, MAX, 1);
        due.part("promise 6, the last that is not OVER");
        stretched(0, 1, MAX);
        stretched(MIN, 1, MAX);
        stretched(-5, 2, 1073741823);
        stretched(MAX - 10, 5, 2);
        stretched(MAX - 12, 3, 4);
    }

    private void stretchRefused() {
        due.part("promise 6, UNKNOWN");
        for (int k : NO_SCENES) {
            alwaysUnchanged("stretch(" + k + ", 1)", x -> x.stretch(k, 1), UNKNOWN);
        }
        unchanged("the first that there is not", Edges::tale, x -> x.stretch(4, 2), UNKNOWN);
        due.part("promise 6, OUTSIDE: times (1 at least)");
        for (int times : new int[] {0, -1, MIN}) {
            unchanged("stretch(0, " + times + ")", Edges::tale, x -> x.stretch(0, times), OUTSIDE);
            unchanged("stretch(7, " + times + ")", Edges::crowded, x -> x.stretch(7, times), OUTSIDE);
        }
        due.part("promise 6, OVER: its LONG, though its END is not");
        notStretched(MIN, 1 << 30, 2);
        notStretched(MIN, 2, 1 << 30);
        notStretched(MIN, 715827883, 3);
        due.part("promise 6, OVER: its END, though its LONG is not");
        notStretched(1, 1, MAX);
        notStretched(MAX - 10, 6, 2);
        notStretched(MAX - 1, 1, 2);
        due.part("promise 6, OVER: what an int would wrap to fits");
        notStretched(0, 65536, 65536);
        notStretched(0, 65537, 65537);
        notStretched(-100, MAX, MAX);
        due.part("promise 6, of two that fit the first");
        unchanged("UNKNOWN, OUTSIDE", Edges::tale, x -> x.stretch(4, 0), UNKNOWN);
        unchanged("UNKNOWN, OVER", Edges::far, x -> x.stretch(2, MAX), UNKNOWN);
        unchanged("OUTSIDE, OVER", Edges::tale, x -> x.stretch(0, MIN), OUTSIDE);
    }

    private void clue() {
        due.part("promise 7, a CLUE (true), or does not: 1; 0: it was so");
        int[] edges = {0, 7};
        for (int c : edges) {
            for (int which = 0; which < 2; which++) {
                int set = 1 << c;
                ToldScenes x = crowded();
                due.is("false at first", x.clue(7, c, which, false), 0);
                due.is("true", x.clue(7, c, which, true), 1);
                sceneIs(x, 7, 70, 10, which == 0 ? set : 0, which == 1 ? set : 0);
                sceneIs(x, 6, 60, 10, 0, 0);
                due.is("true again", x.clue(7, c, which, true), 0);
                sceneIs(x, 7, 70, 10, which == 0 ? set : 0, which == 1 ? set : 0);
                due.is("false", x.clue(7, c, which, false), 1);
                sceneIs(x, 7, 70, 10, 0, 0);
                due.is("false again", x.clue(7, c, which, false), 0);
            }
        }
        due.part("promise 7, one of all");
        ToldScenes x = new ToldScenes();
        x.scene(0, 1, 255, 255);
        due.is("gives 7 no more", x.clue(0, 7, 0, false), 1);
        due.is("needs 0 no more", x.clue(0, 0, 1, false), 1);
        sceneIs(x, 0, 0, 1, 127, 254);
    }

    private void clueRefused() {
        due.part("promise 7, UNKNOWN: SCENE");
        for (int k : NO_SCENES) {
            alwaysUnchanged("clue(" + k + ", 0, 0, true)", x -> x.clue(k, 0, 0, true), UNKNOWN);
        }
        unchanged("the first that there is not", Edges::tale, x -> x.clue(4, 0, 0, true), UNKNOWN);
        due.part("promise 7, UNKNOWN: CLUE");
        for (int c : NO_CLUES) {
            alwaysUnchanged("clue(0, " + c + ", 0, true)", x -> x.clue(0, c, 0, true), UNKNOWN);
            alwaysUnchanged("clue(0, " + c + ", 1, false)", x -> x.clue(0, c, 1, false), UNKNOWN);
        }
        due.part("promise 7, OUTSIDE");
        for (int which : NO_WHICH) {
            unchanged("clue(0, 7, " + which + ", true)", Edges::tale, x -> x.clue(0, 7, which, true), OUTSIDE);
            unchanged("clue(0, 0, " + which + ", false)", Edges::tale, x -> x.clue(0, 0, which, false), OUTSIDE);
            due.is("though it was so", tale().clue(0, 0, which, true), OUTSIDE);
        }
        due.part("promise 7, UNKNOWN ahead of OUTSIDE");
        unchanged("SCENE", Edges::tale, x -> x.clue(4, 0, 2, true), UNKNOWN);
        unchanged("CLUE", Edges::tale, x -> x.clue(0, 8, -1, true), UNKNOWN);
        unchanged("both", Edges::tale, x -> x.clue(-1, -1, -1, true), UNKNOWN);
    }

    private void ofClue() {
        due.part("promise 8, none and all");
        for (int c = 0; c < 8; c++) {
            due.is("of no SCENES", blank().ofClue(c, 0), 0);
            due.is("of no SCENES", blank().ofClue(c, 1), 0);
        }
        ToldScenes x = new ToldScenes();
        for (int k = 0; k < 8; k++) {
            x.scene(k, 1, 129, 128);
        }
        due.is("all give 0", x.ofClue(0, 0), 255);
        due.is("all give 7", x.ofClue(7, 0), 255);
        due.is("none gives 6", x.ofClue(6, 0), 0);
        due.is("all need 7", x.ofClue(7, 1), 255);
        due.is("none needs 0", x.ofClue(0, 1), 0);
        x.drop();
        due.is("not the one that was dropped", x.ofClue(7, 1), 127);
        due.part("promise 8, UNKNOWN");
        for (int c : NO_CLUES) {
            alwaysUnchanged("ofClue(" + c + ", 0)", y -> y.ofClue(c, 0), UNKNOWN);
            alwaysUnchanged("ofClue(" + c + ", 2), OUTSIDE too", y -> y.ofClue(c, 2), UNKNOWN);
        }
        due.part("promise 8, OUTSIDE");
        for (int which : NO_WHICH) {
            alwaysUnchanged("ofClue(0, " + which + ")", y -> y.ofClue(0, which), OUTSIDE);
            alwaysUnchanged("ofClue(7, " + which + ")", y -> y.ofClue(7, which), OUTSIDE);
        }
    }

    private void drop() {
        due.part("promise 9, how many are left");
        ToldScenes x = crowded();
        for (int left = 7; left >= 0; left--) {
            due.is("drop()", x.drop(), left);
            due.is("no more", x.ofScene(left, 0), LOST);
            due.is("the one ahead of it", x.ofScene(left - 1, 0), left > 0 ? 10 * (left - 1) : LOST);
            due.is("SIGNS stay", x.many(1), 40);
        }
        due.part("promise 9, STATE: there is none");
        due.is("behind the last", x.drop(), STATE);
        due.is("many(0)", x.many(0), 0);
        due.is("many(1)", x.many(1), 40);
        unchanged("of a new object", Edges::blank, ToldScenes::drop, STATE);
        Supplier<ToldScenes> emptied = () -> {
            ToldScenes y = open();
            for (int i = 0; i < 4; i++) {
                y.drop();
            }
            return y;
        };
        unchanged("with SIGNS", emptied, ToldScenes::drop, STATE);
        due.part("promise 9, a SCENE that comes behind it has its number, and nothing else of it");
        ToldScenes z = tale();
        z.drop();
        due.is("scene", z.scene(1, 2, 0, 0), 3);
        sceneIs(z, 3, 1, 2, 0, 0);
        due.is("its clue is given no more", z.ofClue(7, 0), 0);
    }

    private void fee() {
        due.part("promise 10, FEE: 0 .. 1000000");
        ToldScenes x = new ToldScenes();
        due.is("the least", x.fee(0), 100);
        due.is("the greatest", x.fee(1000000), 0);
        due.is("many(2)", x.many(2), 1000000);
        due.is("the same", x.fee(1000000), 1000000);
        due.part("promise 10, OUTSIDE");
        for (int v : new int[] {-1, 1000001, MIN, MAX}) {
            alwaysUnchanged("fee(" + v + ")", y -> y.fee(v), OUTSIDE);
        }
    }

    private void jump() {
        due.part("promise 11, without a sign");
        ToldScenes x = row(10, 0, 10, 9, 11);
        due.is("none", x.jump(0, 1), 0);
        due.is("one back", x.jump(0, 2), 1);
        due.is("one forth", x.jump(0, 3), 1);
        due.part("promise 11, what is above an int");
        due.is("the greatest", far().jump(1, 0), 4294967295L);
        due.is("forth", far().jump(0, 1), 4294967293L);
        ToldScenes y = new ToldScenes();
        y.scene(-2, 1, 0, 0);
        y.scene(MAX - 1, 1, 0, 0);
        due.is("the greatest int", y.jump(0, 1), MAX);
        y.move(0, -1);
        due.is("one more", y.jump(0, 1), 2147483648L);
        due.part("promise 11, the last SCENES");
        due.is("jump(6, 7)", crowded().jump(6, 7), 0);
        due.is("jump(7, 6)", crowded().jump(7, 6), 20);
        due.is("jump(7, 0)", crowded().jump(7, 0), 80);
    }

    private void jumpRefused() {
        due.part("promise 11, LOST: UNKNOWN");
        for (int k : NO_SCENES) {
            alwaysUnchanged("jump(" + k + ", 0)", x -> x.jump(k, 0), LOST);
            alwaysUnchanged("jump(0, " + k + ")", x -> x.jump(0, k), LOST);
            alwaysUnchanged("jump(" + k + ", " + k + ")", x -> x.jump(k, k), LOST);
        }
        unchanged("the first that there is not", Edges::tale, x -> x.jump(4, 0), LOST);
        unchanged("the first that there is not", Edges::tale, x -> x.jump(0, 4), LOST);
        due.part("promise 11, LOST: STATE: they are one");
        for (int k = 0; k < 8; k++) {
            int one = k;
            unchanged("jump(" + k + ", " + k + ")", Edges::crowded, x -> x.jump(one, one), LOST);
        }
    }

    private void spanIs(ToldScenes x, long all, long untold) {
        due.is("span(0)", x.span(0), all);
        due.is("span(1)", x.span(1), untold);
    }

    private void span() {
        due.part("promise 12, of one");
        spanIs(row(1, 5), 1, 0);
        spanIs(row(MAX, MIN), MAX, 0);
        due.part("promise 12, of eight");
        spanIs(crowded(), 80, 0);
        spanIs(row(1, 0, 2, 4, 6, 8, 10, 12, 14), 15, 7);
        spanIs(row(1, 14, 12, 10, 8, 6, 4, 2, 0), 15, 7);
        due.part("promise 12, above an int");
        spanIs(far(), 4294967295L, 4294967293L);
        ToldScenes x = far();
        x.scene(MIN, MAX, 0, 0);
        spanIs(x, 4294967295L, 2147483647L);
        x.scene(0, MAX, 0, 0);
        spanIs(x, 4294967295L, 1);
        x.scene(-1, 1, 0, 0);
        spanIs(x, 4294967295L, 0);
        due.part("promise 12, one behind the other, over the other, in it");
        spanIs(row(10, 0, 10), 20, 0);
        spanIs(row(10, 0, 11), 21, 1);
        spanIs(row(10, 0, 9), 19, 0);
        spanIs(row(10, -10, 20), 40, 20);
        ToldScenes y = row(100, 0);
        y.scene(10, 5, 0, 0);
        y.scene(20, 5, 0, 0);
        spanIs(y, 100, 0);
        due.part("promise 12, a dropped SCENE counts no more");
        ToldScenes z = row(10, 0, 50);
        z.drop();
        spanIs(z, 10, 0);
    }

    private void spanRefused() {
        due.part("promise 12, LOST: OUTSIDE");
        for (int what : new int[] {-1, 2, MIN, MAX}) {
            alwaysUnchanged("span(" + what + ")", x -> x.span(what), LOST);
        }
        due.part("promise 12, LOST: STATE: there are no SCENES");
        unchanged("span(0)", Edges::blank, x -> x.span(0), LOST);
        unchanged("span(1)", Edges::blank, x -> x.span(1), LOST);
        ToldScenes x = row(10, 0);
        x.drop();
        due.is("dropped", x.span(0), LOST);
        due.is("dropped", x.span(1), LOST);
    }
}
