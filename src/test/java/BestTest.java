/** Promises 18 to 21: the order, the frames, neighbours that should change places, how many. */
public final class BestTest {
    private static final int MIN = Integer.MIN_VALUE;
    private static final int MAX = Integer.MAX_VALUE;
    private static final Due due = new Due("BestTest");

    public static void main(String[] args) {
        order();
        orderByClues();
        orderOfSeveral();
        orderOver();
        orderBehindChanges();
        framed();
        framedOfSeveral();
        framedByTheRowAlone();
        framedRefused();
        framedOver();
        framedBehindChanges();
        untangled();
        untangledByClues();
        many();
        looks();
        due.end();
    }

    private static ToldScenes scenesFrom(int length, int... froms) {
        ToldScenes x = new ToldScenes();
        for (int from : froms) {
            x.scene(from, length, 0, 0);
        }
        return x;
    }

    private static void tell(ToldScenes x, int... signs) {
        x.cut(x.many(1));
        for (int sign : signs) {
            x.add(sign);
        }
    }

    private static void orderIs(String what, ToldScenes x, int jumps, int... row) {
        due.is(what + ": order(-1)", x.order(-1), jumps);
        for (int k = 0; k < 8; k++) {
            due.is(what + ": order(" + k + ")", x.order(k), k < row.length ? row[k] : -9);
        }
    }

    private static void framedIs(String what, ToldScenes x, int jumps, int... row) {
        due.is(what + ": framed(-1)", x.framed(-1), jumps);
        due.is(what + ": framed(-2)", x.framed(-2), row.length);
        for (int k = 0; k < 40; k++) {
            due.is(what + ": framed(" + k + ")", x.framed(k), k < row.length ? row[k] : -9);
        }
    }

    private static void order() {
        due.part("promise 18");
        orderIs("no scenes", new ToldScenes(), -9);
        orderIs("one", scenesFrom(5, 70), 0, 0);
        orderIs("two", scenesFrom(10, 50, 0), 40, 1, 0);
        orderIs("eight", scenesFrom(10, 70, 0, 30, 10, 60, 20, 50, 40), 0, 1, 3, 5, 2, 7, 6, 4, 0);
        ToldScenes x = scenesFrom(10, 0);
        int[] outside = {-2, 8, MIN, MAX};
        for (int k : outside) {
            due.is("order(" + k + ")", x.order(k), -2);
            due.is("order(" + k + ") of none", new ToldScenes().order(k), -2);
        }
        x.add(0);
        x.add(0);
        orderIs("whatever the telling is", x, 0, 0);
    }

    private static void orderByClues() {
        due.part("promise 18, clues");
        ToldScenes x = scenesFrom(10, 0, 10, 20);
        x.clue(0, 5, 1, true);
        orderIs("a clue that none gives", x, -9);
        x.clue(0, 5, 0, true);
        orderIs("its own clue is no help", x, -9);
        x.clue(2, 5, 0, true);
        orderIs("2 ahead of 0", x, 30, 1, 2, 0);
        x.clue(2, 1, 1, true);
        x.clue(1, 1, 0, true);
        orderIs("1, 2, 0", x, 30, 1, 2, 0);
        x.clue(1, 2, 1, true);
        x.clue(0, 2, 0, true);
        orderIs("in a ring", x, -9);
        x.clue(1, 2, 1, false);
        orderIs("not in a ring", x, 30, 1, 2, 0);
        x.clue(1, 5, 0, true);
        orderIs("two give it", x, 30, 1, 0, 2);
        ToldScenes y = scenesFrom(10, 0, 10);
        y.clue(0, 0, 1, true);
        y.clue(0, 1, 1, true);
        y.clue(1, 0, 0, true);
        orderIs("one of two clues", y, -9);
    }

    private static void orderOfSeveral() {
        due.part("promise 18, of several the first");
        ToldScenes x = scenesFrom(10, 0, 0, 0);
        orderIs("all alike", x, 20, 0, 1, 2);
        x.clue(0, 0, 1, true);
        x.clue(2, 0, 0, true);
        orderIs("all alike but for a clue", x, 20, 1, 2, 0);
        orderIs("eight alike", scenesFrom(3, 5, 5, 5, 5, 5, 5, 5, 5), 21, 0, 1, 2, 3, 4, 5, 6, 7);
        orderIs("twins", scenesFrom(10, 10, 0, 10, 0), 20, 1, 0, 3, 2);
    }

    private static void orderOver() {
        due.part("promise 18, over");
        ToldScenes x = new ToldScenes();
        x.scene(MIN, 1, 0, 0);
        x.scene(MAX - 1, 1, 0, 0);
        due.is("far", x.order(-1), -5);
        due.is("its first", x.order(0), 0);
        due.is("its second", x.order(1), 1);
        due.is("no third", x.order(2), -9);
        x.move(0, MAX);
        due.is("nearer", x.order(-1), 2147483646);
        x.move(0, -1);
        due.is("the greatest", x.order(-1), MAX);
        x.move(0, -1);
        due.is("over", x.order(-1), -5);
        x.clue(0, 0, 1, true);
        due.is("none ahead of over", x.order(-1), -9);
    }

    private static void orderBehindChanges() {
        due.part("promise 18, behind changes");
        ToldScenes x = scenesFrom(10, 0, 50);
        orderIs("at first", x, 40, 0, 1);
        x.scene(10, 10, 0, 0);
        orderIs("scene", x, 30, 0, 2, 1);
        x.move(2, 50);
        orderIs("move", x, 40, 0, 1, 2);
        x.stretch(0, 3);
        orderIs("stretch", x, 20, 0, 1, 2);
        x.clue(0, 0, 1, true);
        x.clue(1, 0, 0, true);
        orderIs("clue", x, 70, 1, 2, 0);
        x.drop();
        orderIs("drop", x, 60, 1, 0);
        x.shift(-7);
        orderIs("shift", x, 60, 1, 0);
        x.fee(3);
        orderIs("fee", x, 60, 1, 0);
    }

    private static void framed() {
        due.part("promise 19");
        ToldScenes x = scenesFrom(10, 500, 0, 510, 10);
        tell(x, 0);
        framedIs("one", x, 0, 0);
        tell(x, 0, 1, 2);
        framedIs("a flash back", x, 100, 0, 20, 1, 21, 2);
        tell(x, 0, 2, 1);
        framedIs("at the end", x, 100, 0, 2, 20, 1, 21);
        tell(x, 0, 1, 3, 2);
        framedIs("two in a frame", x, 100, 0, 20, 1, 3, 21, 2);
        x.fee(999);
        framedIs("a frame is worth it yet", x, 999, 0, 20, 1, 3, 21, 2);
        x.fee(1000);
        framedIs("a frame is worth it no more", x, 1000, 0, 1, 3, 2);
        tell(x, 1, 0, 3, 2);
        x.fee(0);
        framedIs("for nothing", x, 0, 1, 20, 0, 20, 3, 21, 2, 21);
    }

    private static void framedOfSeveral() {
        due.part("promise 19, of several");
        ToldScenes x = scenesFrom(10, 0, 10, 20, 30);
        x.fee(0);
        tell(x, 0, 1, 2, 3);
        framedIs("as dear with frames: none", x, 0, 0, 1, 2, 3);
        x = scenesFrom(10, 0, 110);
        tell(x, 0, 1);
        framedIs("a fee as dear as a jump: no frame", x, 100, 0, 1);
        x.fee(99);
        framedIs("a fee a little less: a frame", x, 99, 0, 20, 1, 21);
        x = scenesFrom(10, 1000, 0, 2000);
        tell(x, 0, 1, 2);
        framedIs("two frames: nested ones are the first row", x, 200, 0, 20, 1, 20, 2, 21, 21);
        x = scenesFrom(10, 1000, 0, 995);
        tell(x, 0, 1, 2);
        framedIs("back, and one that is on no side", x, 115, 0, 20, 1, 21, 2);
        x = scenesFrom(10, 1000, 0, 995, 2000);
        tell(x, 0, 1, 2, 3);
        framedIs("four", x, 215, 0, 20, 1, 21, 2, 20, 3, 21);
        x = scenesFrom(1, 1000, 0, 2000, 100, 3000, 200, 4000, 300);
        x.fee(0);
        tell(x, 0, 1, 2, 3, 4, 5, 6, 7);
        framedIs("eight, all within one another", x, 0,
            0, 20, 1, 20, 2, 20, 3, 20, 4, 20, 5, 20, 6, 20, 7, 21, 21, 21, 21, 21, 21, 21);
    }

    private static void framedByTheRowAlone() {
        due.part("promise 19, by the row alone");
        ToldScenes x = scenesFrom(10, 500, 0, 510);
        tell(x, 20, 0, 21, 21, 1, 20, 20, 2);
        due.is("the telling is wrong", x.judge(0), 0);
        framedIs("the row is not", x, 100, 0, 20, 1, 21, 2);
        tell(x, 0, 20, 2, 1);
        due.is("wrong by a side", x.judge(1), 4);
        framedIs("the row is not", x, 100, 0, 2, 20, 1, 21);
        tell(x, 0, 1, 20);
        framedIs("a frame left open", x, 100, 0, 20, 1, 21);
    }

    private static void framedRefused() {
        due.part("promise 19, refused");
        ToldScenes x = scenesFrom(10, 500, 0);
        int[] outside = {-3, 40, MIN, MAX};
        for (int k : outside) {
            due.is("outside ahead of state, " + k, x.framed(k), -2);
        }
        due.is("no scenes in the row", x.framed(0), -3);
        due.is("no scenes in the row", x.framed(-1), -3);
        due.is("no scenes in the row", x.framed(39), -3);
        tell(x, 20, 21);
        due.is("signs, but no scenes", x.framed(-2), -3);
        tell(x, 0, 2);
        due.is("a scene that there is not", x.framed(-1), -3);
        tell(x, 0, 1, 0);
        due.is("a scene twice", x.framed(-1), -3);
        due.is("outside all the same", x.framed(40), -2);
        tell(x, 0, 1);
        x.clue(0, 0, 1, true);
        x.clue(1, 0, 0, true);
        due.is("a clue too late", x.framed(-1), -3);
        tell(x, 1, 0);
        due.is("a clue in time", x.framed(-2), 4);
        for (int k : outside) {
            due.is("outside, " + k, x.framed(k), -2);
        }
        tell(x, 1, 20, 21, 20, 21, 21, 21, 7);
        due.is("a scene that there is not, behind a wrong sign", x.framed(0), -3);
        tell(x, 0, 1, 0, 1, 0, 1, 0, 1, 0, 1, 0, 1, 0, 1, 0, 1, 0, 1, 0, 1,
            0, 1, 0, 1, 0, 1, 0, 1, 0, 1, 0, 1, 0, 1, 0, 1, 0, 1, 0, 1);
        due.is("forty scenes", x.framed(0), -3);
        due.is("forty scenes", x.untangled(), -3);
    }

    private static void framedOver() {
        due.part("promise 19, over");
        ToldScenes x = new ToldScenes();
        x.scene(MIN, MAX, 0, 0);
        x.scene(-1000, MAX, 0, 0);
        x.scene(MIN + 1, 5, 0, 0);
        x.scene(-1001, 5, 0, 0);
        tell(x, 1, 0, 2, 3);
        due.is("on no side of one another, far", x.framed(-1), -5);
        due.is("how many signs", x.framed(-2), 6);
        int[] row = {1, 0, 2, 20, 3, 21};
        for (int k = 0; k < 6; k++) {
            due.is("framed(" + k + ")", x.framed(k), row[k]);
        }
        due.is("framed(6)", x.framed(6), -9);
    }

    private static void framedBehindChanges() {
        due.part("promise 19, behind changes");
        ToldScenes x = scenesFrom(10, 500, 0, 510);
        tell(x, 0, 1);
        framedIs("at first", x, 100, 0, 20, 1, 21);
        x.add(2);
        framedIs("add", x, 100, 0, 20, 1, 21, 2);
        x.fee(40);
        framedIs("fee", x, 40, 0, 20, 1, 21, 2);
        x.move(2, 7);
        framedIs("move", x, 47, 0, 20, 1, 21, 2);
        x.stretch(1, 51);
        framedIs("stretch", x, 517, 0, 1, 2);
        x.clue(0, 1, 1, true);
        due.is("clue", x.framed(-1), -3);
        x.clue(0, 1, 1, false);
        framedIs("clue", x, 517, 0, 1, 2);
        x.shift(1000);
        framedIs("shift", x, 517, 0, 1, 2);
        x.drop();
        due.is("drop", x.framed(-1), -3);
        x.scene(1510, 10, 0, 0);
        framedIs("scene", x, 510, 0, 1, 2);
        x.cut(2);
        framedIs("cut", x, 0, 0);
    }

    private static void untangled() {
        due.part("promise 20");
        ToldScenes x = scenesFrom(10, 0, 10, 20, 30);
        due.is("no row", x.untangled(), -9);
        tell(x, 0);
        due.is("one", x.untangled(), -9);
        tell(x, 0, 1, 2, 3);
        due.is("in order", x.untangled(), -9);
        tell(x, 1, 0);
        due.is("two", x.untangled(), 0);
        tell(x, 0, 2, 1, 3);
        due.is("in the midst", x.untangled(), 1);
        tell(x, 0, 1, 3, 2);
        due.is("at the end", x.untangled(), 2);
        tell(x, 1, 0, 3, 2);
        due.is("of two as good the first", x.untangled(), 0);
        tell(x, 20, 1, 21, 20, 0, 20);
        due.is("by the row alone", x.untangled(), 0);
        due.is("the telling is as it was", x.many(1), 6);
        due.is("the telling is as it was, and as wrong", x.judge(1), 5);
        tell(x, 0, 0);
        due.is("twice", x.untangled(), -3);
        tell(x, 4);
        due.is("no such scene", x.untangled(), -3);
        ToldScenes y = scenesFrom(10, 0, 10, 1000, 500);
        tell(y, 1, 0, 2, 3);
        due.is("the one by which they are the fewest", y.untangled(), 2);
        ToldScenes z = scenesFrom(10, 5, 5);
        tell(z, 1, 0);
        due.is("as many is not fewer", z.untangled(), -9);
        ToldScenes stale = scenesFrom(10, 0, 10, 20);
        tell(stale, 0, 2, 1);
        due.is("the last two", stale.untangled(), 1);
        tell(stale, 0, 2);
        due.is("a scene told before is not of the row", stale.untangled(), -9);
        ToldScenes far = new ToldScenes();
        far.scene(MAX - 1, 1, 0, 0);
        far.scene(MIN, 1, 0, 0);
        tell(far, 0, 1);
        due.is("both over an int, and still fewer", far.untangled(), 0);
    }

    private static void untangledByClues() {
        ToldScenes x = scenesFrom(10, 0, 10, 20, 30);
        tell(x, 1, 0, 3, 2);
        x.clue(0, 4, 1, true);
        x.clue(1, 4, 0, true);
        due.is("the first two would be wrong", x.untangled(), 2);
        x.clue(2, 4, 1, true);
        due.is("the last two would not", x.untangled(), 2);
        x.clue(2, 6, 1, true);
        due.is("the row is wrong", x.untangled(), -3);
        x.clue(3, 6, 0, true);
        due.is("none is left", x.untangled(), -9);
    }

    private static void many() {
        due.part("promise 21");
        ToldScenes x = new ToldScenes();
        x.scene(0, 1, 1, 2);
        x.scene(0, 1, 4, 140);
        x.add(20);
        x.add(21);
        x.add(5);
        x.fee(12);
        due.is("scenes", x.many(0), 2);
        due.is("signs", x.many(1), 3);
        due.is("fee", x.many(2), 12);
        due.is("needed and not given", x.many(4), 3);
        x.clue(0, 7, 0, true);
        due.is("one is given", x.many(4), 2);
        x.drop();
        due.is("those of a dropped one count no more", x.many(4), 1);
        x.clue(0, 1, 0, true);
        due.is("given by the one that needs it", x.many(4), 0);
        x.drop();
        x.scene(0, 1, 0, 255);
        due.is("all eight", x.many(4), 8);
        int[] outside = {-1, 5, MIN, MAX};
        for (int what : outside) {
            due.is("many(" + what + ")", x.many(what), -2);
        }
    }

    private static void looks() {
        due.part("promise 21, looks");
        ToldScenes x = new ToldScenes();
        x.judge(0);
        x.judge(5);
        due.is("judge", x.many(3), 2);
        x.judge(6);
        due.is("judge, refused", x.many(3), 3);
        x.jumps();
        due.is("jumps", x.many(3), 4);
        x.told(0, 0);
        due.is("told, unknown", x.many(3), 5);
        x.scene(0, 1, 0, 0);
        x.told(0, 7);
        due.is("told, outside", x.many(3), 6);
        x.told(0, 0);
        due.is("told", x.many(3), 7);
        x.add(20);
        x.jumps();
        x.told(0, 0);
        due.is("wrong", x.many(3), 9);
        x.framed(0);
        x.untangled();
        x.order(0);
        x.many(3);
        x.many(9);
        x.cut(1);
        x.add(0);
        x.framed(0);
        x.untangled();
        due.is("others do not look", x.many(3), 9);
    }
}
