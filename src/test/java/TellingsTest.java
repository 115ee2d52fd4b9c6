/** Promises 13 to 17: the telling, what is wrong in it, its jumps. */
public final class TellingsTest {
    private static final int MIN = Integer.MIN_VALUE;
    private static final int MAX = Integer.MAX_VALUE;
    private static final Due due = new Due("TellingsTest");

    public static void main(String[] args) {
        add();
        cut();
        reasonsOfScenes();
        reasonsOfSides();
        reasonsOfFrames();
        leastReason();
        aheadOfTheFirstWrong();
        jumps();
        jumpsOver();
        told();
        toldRefused();
        due.end();
    }

    private static ToldScenes tale(int... signs) {
        ToldScenes x = new ToldScenes();
        x.scene(100, 10, 1, 0);
        x.scene(50, 10, 2, 0);
        x.scene(200, 10, 4, 0);
        x.scene(0, 10, 8, 0);
        x.scene(105, 10, 16, 0);
        x.scene(300, 10, 32, 3);
        x.scene(90, 10, 64, 0);
        for (int sign : signs) {
            x.add(sign);
        }
        return x;
    }

    private static void wrong(String what, int place, int reason, int... signs) {
        ToldScenes x = tale(signs);
        due.is(what + ": judge(0)", x.judge(0), place);
        due.is(what + ": judge(1)", x.judge(1), reason);
        due.is(what + ": jumps()", x.jumps() == -3 ? 1 : 0, place == -9 ? 0 : 1);
        due.is(what + ": told(0, 0)", x.told(0, 0) == -3 ? 1 : 0, place == -9 ? 0 : 1);
    }

    private static void fine(String what, int... signs) {
        wrong(what, -9, -9, signs);
    }

    private static void add() {
        due.part("promise 13");
        ToldScenes x = new ToldScenes();
        int[] outside = {-1, 8, 9, 19, 22, MIN, MAX};
        for (int sign : outside) {
            due.is("add(" + sign + ")", x.add(sign), -2);
        }
        due.is("nothing came of these", x.many(1), 0);
        int[] right = {0, 7, 20, 21, 1, 2, 3, 4, 5, 6};
        for (int i = 0; i < 40; i++) {
            due.is("add, the " + i + "th", x.add(right[i % right.length]), i + 1);
        }
        due.is("a 41st", x.add(0), -4);
        due.is("outside ahead of full", x.add(8), -2);
        due.is("many(1)", x.many(1), 40);
        due.is("cut(1)", x.cut(1), 39);
        due.is("room again", x.add(21), 40);
    }

    private static void cut() {
        due.part("promise 14");
        ToldScenes x = tale(0, 1, 2);
        due.is("cut(-1)", x.cut(-1), -2);
        due.is("cut(4)", x.cut(4), -2);
        due.is("cut(MAX)", x.cut(MAX), -2);
        due.is("cut(MIN)", x.cut(MIN), -2);
        due.is("cut(0)", x.cut(0), 3);
        due.is("cut(2)", x.cut(2), 1);
        due.is("the first is left", x.told(0, 0), 0);
        due.is("the second is not", x.told(1, 0), -9);
        due.is("cut(1)", x.cut(1), 0);
        due.is("cut(0) of none", x.cut(0), 0);
        due.is("cut(1) of none", x.cut(1), -2);
    }

    private static void reasonsOfScenes() {
        due.part("promise 15, reasons 1 to 3");
        fine("no signs");
        fine("all", 0, 1, 2, 3, 4, 5, 6);
        wrong("no such scene", 1, 1, 0, 7);
        wrong("told ahead", 2, 2, 0, 1, 0);
        wrong("needs two clues, one is given", 1, 3, 0, 5);
        wrong("needs two clues, the other is given", 1, 3, 1, 5, 0);
        fine("needs two clues, both are given", 0, 1, 5);
        fine("a clue given in a frame that is closed", 0, 20, 1, 21, 5);
        fine("a clue given in a frame that is open", 0, 20, 1, 21, 20, 5, 21);
        ToldScenes x = new ToldScenes();
        x.scene(0, 1, 1, 1);
        x.add(0);
        due.is("its own clue is no help", x.judge(1), 3);
        x.clue(0, 0, 1, false);
        due.is("no need any more", x.judge(1), -9);
    }

    private static void reasonsOfSides() {
        due.part("promise 15, reason 4");
        fine("back", 0, 20, 1, 21);
        fine("back, up to the teller's from", 0, 20, 6, 21);
        fine("forth", 0, 20, 2, 21);
        wrong("on none", 2, 4, 0, 20, 4, 21);
        wrong("the second on none", 3, 4, 0, 20, 1, 4, 21);
        wrong("back, then forth", 3, 4, 0, 20, 1, 2, 21);
        wrong("forth, then back", 3, 4, 0, 20, 2, 1, 21);
        fine("back, then back, though forth of that", 0, 20, 3, 1, 21);
        fine("a frame back, a frame forth, of one teller", 0, 20, 1, 21, 20, 2, 21);
        fine("within a frame the other side", 0, 20, 1, 20, 2, 21, 21);
        wrong("the outer side binds behind the inner frame", 6, 4, 0, 20, 1, 20, 2, 21, 4, 21);
        wrong("and it is the first side", 6, 4, 0, 20, 1, 20, 3, 21, 2, 21);
        fine("back again behind the inner frame", 0, 20, 1, 20, 2, 21, 3, 21);
        fine("on the ground no side binds", 0, 20, 1, 21, 4, 2);
        wrong("the teller is the last of the ground", 8, 4, 0, 20, 1, 20, 2, 21, 21, 20, 4, 21);
        fine("forth of 1, though not of 0", 0, 1, 20, 4, 21);
        wrong("of 0 it is not", 3, 4, 1, 0, 20, 4, 21);
        ToldScenes x = new ToldScenes();
        x.scene(10, 10, 0, 0);
        x.scene(20, 5, 0, 0);
        x.scene(19, 5, 0, 0);
        x.scene(5, 5, 0, 0);
        x.scene(5, 6, 0, 0);
        int[] reasons = {0, -9, 4, -9, 4};
        for (int k = 1; k < 5; k++) {
            x.cut(x.many(1));
            x.add(0);
            x.add(20);
            x.add(k);
            x.add(21);
            due.is("the edges, " + k, x.judge(1), reasons[k]);
        }
    }

    private static void reasonsOfFrames() {
        due.part("promise 15, reasons 5 to 7");
        wrong("opens at once", 0, 5, 20, 0);
        wrong("opens twice", 2, 5, 0, 20, 20, 1, 21, 21);
        fine("opens again behind a frame", 0, 20, 1, 21, 20, 2, 21);
        wrong("closes at once", 0, 6, 21);
        wrong("closes on the ground", 1, 6, 0, 21);
        wrong("closes one of no scene", 2, 6, 0, 20, 21);
        wrong("closes once too often", 4, 6, 0, 20, 1, 21, 21);
        wrong("one is open", 3, 7, 0, 20, 1);
        wrong("one is open, of no scene", 2, 7, 0, 20);
        wrong("one of two is open", 6, 7, 0, 20, 1, 20, 2, 21);
        wrong("ends in the midst of two", 5, 7, 0, 20, 1, 20, 2);
        fine("both are closed", 0, 20, 1, 20, 2, 21, 21);
    }

    private static void leastReason() {
        due.part("promise 15, the least reason");
        wrong("2 ahead of 4", 2, 2, 0, 20, 0);
        wrong("3 ahead of 4", 2, 3, 1, 20, 5);
        ToldScenes x = new ToldScenes();
        x.scene(0, 10, 1, 0);
        x.scene(5, 10, 0, 2);
        x.add(0);
        x.add(20);
        x.add(1);
        due.is("3 ahead of 4, on no side", x.judge(1), 3);
        x.clue(0, 1, 0, true);
        due.is("4 without the need", x.judge(1), 4);
        x.clue(0, 0, 1, true);
        due.is("the first sign that is wrong", x.judge(0), 0);
        due.is("and why", x.judge(1), 3);
        ToldScenes y = new ToldScenes();
        y.scene(0, 10, 1, 0);
        y.scene(50, 10, 2, 4);
        y.scene(90, 10, 4, 0);
        y.add(0);
        y.add(2);
        y.add(1);
        y.add(1);
        due.is("2 ahead of 3", y.judge(1), 2);
        due.is("2 ahead of 3, where", y.judge(0), 3);
    }

    private static void counts(ToldScenes x, int opened, int most, int scenes, int clues) {
        due.is("opened", x.judge(2), opened);
        due.is("open at once", x.judge(3), most);
        due.is("scenes", x.judge(4), scenes);
        due.is("clues", x.judge(5), clues);
    }

    private static void aheadOfTheFirstWrong() {
        due.part("promise 15, what is ahead");
        counts(tale(), 0, 0, 0, 0);
        counts(tale(0, 1, 2), 0, 0, 3, 7);
        counts(tale(0, 20, 1, 21, 20, 2, 21), 2, 1, 3, 7);
        counts(tale(0, 20, 1, 20, 2, 21, 20, 6, 21, 21), 3, 2, 4, 71);
        due.part("promise 15, what is ahead of a wrong sign");
        counts(tale(0, 20, 4, 21, 20, 2), 1, 1, 1, 1);
        counts(tale(0, 7, 1, 20), 0, 0, 1, 1);
        counts(tale(0, 20, 1, 20, 20), 2, 2, 2, 3);
        counts(tale(0, 20, 1, 20), 2, 2, 2, 3);
        counts(tale(20, 0, 20, 1), 0, 0, 0, 0);
        counts(tale(0, 20, 1, 21, 21, 2), 1, 1, 2, 3);
        due.part("promise 15, outside");
        ToldScenes x = tale(0);
        due.is("judge(6)", x.judge(6), -2);
        due.is("judge(-1)", x.judge(-1), -2);
        due.is("judge(MAX)", x.judge(MAX), -2);
        due.is("judge(MIN)", x.judge(MIN), -2);
    }

    private static void jumps() {
        due.part("promise 16");
        due.is("no signs", tale().jumps(), 0);
        due.is("one scene", tale(0).jumps(), 0);
        due.is("two scenes", tale(0, 1).jumps(), 60);
        due.is("a frame alone", tale(0, 20, 1, 21).jumps(), 100);
        due.is("within a frame", tale(0, 20, 1, 3, 21).jumps(), 160);
        due.is("past a frame", tale(0, 20, 1, 21, 2).jumps(), 190);
        due.is("past two", tale(0, 20, 1, 20, 2, 21, 3, 21, 4).jumps(), 265);
        due.is("wrong", tale(0, 0).jumps(), -3);
        due.is("open", tale(0, 20, 1).jumps(), -3);
        ToldScenes x = tale(0, 20, 1, 21, 20, 2, 21);
        due.is("two frames", x.jumps(), 200);
        x.fee(7);
        due.is("two frames, for less", x.jumps(), 14);
        x.fee(1000000);
        due.is("two frames, for more", x.jumps(), 2000000);
        x.move(1, -40);
        due.is("into a frame there is no jump", x.jumps(), 2000000);
        x.add(4);
        due.is("past them there is", x.jumps(), 2000005);
    }

    private static void jumpsOver() {
        due.part("promise 16, over");
        ToldScenes x = new ToldScenes();
        x.scene(-1, 1, 0, 0);
        x.scene(MAX - 1, 1, 0, 0);
        x.scene(MAX - 2, 1, 0, 0);
        x.add(0);
        x.add(1);
        due.is("just below", x.jumps(), MAX - 1);
        x.move(0, -1);
        due.is("the greatest", x.jumps(), MAX);
        x.move(0, -1);
        due.is("one more", x.jumps(), -5);
        due.is("it is not wrong", x.judge(0), -9);
        due.is("told all the same", x.told(1, 0), 1);
        x.move(0, 2);
        due.is("below again", x.jumps(), MAX - 1);
        x.add(2);
        due.is("two together", x.jumps(), -5);
        x.add(2);
        due.is("wrong ahead of over", x.jumps(), -3);
        x.cut(2);
        x.add(20);
        x.add(2);
        x.add(21);
        x.fee(1);
        due.is("with a fee, the greatest", x.jumps(), MAX);
        x.fee(2);
        due.is("with a fee, over", x.jumps(), -5);
    }

    private static void of(ToldScenes x, int k, int turn, int depth, int teller, int side) {
        due.is("told(" + k + ", 0)", x.told(k, 0), turn);
        due.is("told(" + k + ", 1)", x.told(k, 1), depth);
        due.is("told(" + k + ", 2)", x.told(k, 2), teller);
        due.is("told(" + k + ", 3)", x.told(k, 3), side);
    }

    private static void told() {
        due.part("promise 17");
        ToldScenes x = tale(0, 20, 1, 20, 2, 21, 3, 21, 20, 5, 21, 4);
        due.is("judge(0)", x.judge(0), -9);
        of(x, 0, 0, 0, -9, -9);
        of(x, 1, 1, 1, 0, 0);
        of(x, 2, 2, 2, 1, 1);
        of(x, 3, 3, 1, 0, 0);
        of(x, 5, 4, 1, 0, 1);
        of(x, 4, 5, 0, -9, -9);
        of(x, 6, -9, -9, -9, -9);
        x = tale(2, 1, 20, 3, 20, 6, 21, 21);
        of(x, 2, 0, 0, -9, -9);
        of(x, 1, 1, 0, -9, -9);
        of(x, 3, 2, 1, 1, 0);
        of(x, 6, 3, 2, 3, 1);
        of(tale(), 0, -9, -9, -9, -9);
    }

    private static void toldRefused() {
        due.part("promise 17, refused");
        ToldScenes x = tale(0, 20, 1);
        due.is("wrong", x.told(0, 0), -3);
        due.is("wrong, of one not told", x.told(4, 0), -3);
        due.is("unknown ahead of all", x.told(7, 9), -1);
        due.is("unknown", x.told(-1, 0), -1);
        due.is("unknown", x.told(MAX, 0), -1);
        due.is("outside ahead of state", x.told(0, 4), -2);
        due.is("outside", x.told(0, -1), -2);
        x.add(21);
        due.is("right now", x.told(1, 3), 0);
        due.is("outside", x.told(1, 4), -2);
    }
}
