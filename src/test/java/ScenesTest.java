/** Promises 1 to 12: a new object, and the scenes. */
public final class ScenesTest {
    private static final long LOST = Long.MIN_VALUE;
    private static final int MIN = Integer.MIN_VALUE;
    private static final int MAX = Integer.MAX_VALUE;
    private static final Due due = new Due("ScenesTest");

    public static void main(String[] args) {
        newObject();
        scene();
        ofScene();
        move();
        shift();
        stretch();
        clue();
        ofClue();
        drop();
        fee();
        jump();
        spanOfAll();
        spanUntold();
        due.end();
    }

    private static void newObject() {
        due.part("promise 1");
        ToldScenes x = new ToldScenes();
        due.is("many(0)", x.many(0), 0);
        due.is("many(1)", x.many(1), 0);
        due.is("many(2)", x.many(2), 100);
        due.is("many(3)", x.many(3), 0);
        due.is("many(4)", x.many(4), 0);
        due.is("judge(0)", x.judge(0), -9);
        due.is("judge(1)", x.judge(1), -9);
        for (int what = 2; what <= 5; what++) {
            due.is("judge(" + what + ")", x.judge(what), 0);
        }
        due.is("jumps()", x.jumps(), 0);
        due.is("told(0, 0)", x.told(0, 0), -1);
        due.is("order(-1)", x.order(-1), -9);
        due.is("framed(-2)", x.framed(-2), -3);
        due.is("untangled()", x.untangled(), -9);
        due.is("ofScene(0, 0)", x.ofScene(0, 0), LOST);
        ToldScenes other = new ToldScenes();
        other.scene(0, 1, 0, 0);
        other.add(0);
        due.is("many(0) beside another object", x.many(0), 0);
        due.is("many(1) beside another object", x.many(1), 0);
    }

    private static void scene() {
        due.part("promise 2");
        ToldScenes x = new ToldScenes();
        due.is("length 0", x.scene(0, 0, 0, 0), -2);
        due.is("length -1", x.scene(0, -1, 0, 0), -2);
        due.is("least length", x.scene(0, MIN, 0, 0), -2);
        due.is("gives -1", x.scene(0, 1, -1, 0), -2);
        due.is("gives 256", x.scene(0, 1, 256, 0), -2);
        due.is("needs -1", x.scene(0, 1, 0, -1), -2);
        due.is("needs 256", x.scene(0, 1, 0, 256), -2);
        due.is("outside ahead of over", x.scene(MAX, 1, 256, 0), -2);
        due.is("end one too far", x.scene(MAX, 1, 0, 0), -5);
        due.is("end far too far", x.scene(MAX, MAX, 0, 0), -5);
        due.is("nothing came of these", x.many(0), 0);
        due.is("latest end", x.scene(MAX - 1, 1, 0, 0), 0);
        due.is("earliest from", x.scene(MIN, 1, 255, 255), 1);
        due.is("longest", x.scene(0, MAX, 0, 0), 2);
        for (int k = 3; k < 8; k++) {
            due.is("number " + k, x.scene(k, 1, 1, 2), k);
        }
        due.is("a ninth", x.scene(0, 1, 0, 0), -4);
        due.is("full ahead of over", x.scene(MAX, 1, 0, 0), -4);
        due.is("outside ahead of full", x.scene(0, 0, 0, 0), -2);
        due.is("eight stay", x.many(0), 8);
        due.is("drop()", x.drop(), 7);
        due.is("over again", x.scene(MAX, 1, 0, 0), -5);
        due.is("room again", x.scene(9, 1, 0, 0), 7);
        due.is("of the new one", x.ofScene(7, 0), 9);
        due.is("gives nothing of the dropped one", x.ofScene(7, 3), 0);
    }

    private static void ofScene() {
        due.part("promise 3");
        ToldScenes x = new ToldScenes();
        x.scene(-7, 3, 129, 64);
        x.scene(MIN, MAX, 255, 0);
        long[] first = {-7, 3, -4, 129, 64};
        long[] second = {MIN, MAX, -1, 255, 0};
        for (int what = 0; what < 5; what++) {
            due.is("ofScene(0, " + what + ")", x.ofScene(0, what), first[what]);
            due.is("ofScene(1, " + what + ")", x.ofScene(1, what), second[what]);
        }
        due.is("ofScene(0, 5)", x.ofScene(0, 5), LOST);
        due.is("ofScene(0, -1)", x.ofScene(0, -1), LOST);
        due.is("ofScene(2, 0)", x.ofScene(2, 0), LOST);
        due.is("ofScene(-1, 0)", x.ofScene(-1, 0), LOST);
        due.is("ofScene(MAX, 0)", x.ofScene(MAX, 0), LOST);
        due.is("ofScene(MIN, 0)", x.ofScene(MIN, 0), LOST);
        x.drop();
        due.is("of a dropped one", x.ofScene(1, 0), LOST);
    }

    private static void move() {
        due.part("promise 4");
        ToldScenes x = new ToldScenes();
        x.scene(10, 5, 0, 0);
        x.scene(20, 5, 0, 0);
        due.is("move(0, 7)", x.move(0, 7), 1);
        due.is("from", x.ofScene(0, 0), 17);
        due.is("length", x.ofScene(0, 1), 5);
        due.is("end", x.ofScene(0, 2), 22);
        due.is("the other stays", x.ofScene(1, 0), 20);
        due.is("move(0, -30)", x.move(0, -30), 1);
        due.is("from", x.ofScene(0, 0), -13);
        due.is("move(2, 1)", x.move(2, 1), -1);
        due.is("move(-1, 1)", x.move(-1, 1), -1);
        due.is("unknown ahead of over", x.move(8, MAX), -1);
        due.is("to the last end", x.move(1, MAX - 25), 1);
        due.is("end", x.ofScene(1, 2), MAX);
        due.is("one more", x.move(1, 1), -5);
        due.is("from stays", x.ofScene(1, 0), MAX - 5);
        due.is("far more", x.move(1, MAX), -5);
        due.is("to the first from, a part", x.move(0, MIN + 13), 1);
        due.is("from", x.ofScene(0, 0), MIN);
        due.is("one less", x.move(0, -1), -5);
        due.is("far less", x.move(0, MIN), -5);
        due.is("from stays", x.ofScene(0, 0), MIN);
        ToldScenes y = new ToldScenes();
        y.scene(-3, 5, 0, 0);
        due.is("from fits, end is one above", y.move(0, MAX - 1), -5);
        due.is("from fits, end too", y.move(0, MAX - 2), 1);
    }

    private static void shift() {
        due.part("promise 5");
        ToldScenes x = new ToldScenes();
        due.is("of none", x.shift(5), 0);
        due.is("of none, far", x.shift(MAX), 0);
        x.scene(0, 10, 0, 0);
        x.scene(MAX - 20, 10, 0, 0);
        x.scene(MIN + 5, 10, 0, 0);
        due.is("shift(10)", x.shift(10), 3);
        due.is("0", x.ofScene(0, 0), 10);
        due.is("1", x.ofScene(1, 0), MAX - 10);
        due.is("2", x.ofScene(2, 0), MIN + 15);
        due.is("end over", x.shift(1), -5);
        due.is("from over", x.shift(-16), -5);
        due.is("none is moved: 0", x.ofScene(0, 0), 10);
        due.is("none is moved: 1", x.ofScene(1, 0), MAX - 10);
        due.is("none is moved: 2", x.ofScene(2, 0), MIN + 15);
        due.is("shift(-15)", x.shift(-15), 3);
        due.is("0", x.ofScene(0, 0), -5);
        due.is("2", x.ofScene(2, 0), MIN);
        due.is("2's length", x.ofScene(2, 1), 10);
        ToldScenes y = new ToldScenes();
        y.scene(MAX - 5, 5, 0, 0);
        y.scene(0, 5, 0, 0);
        due.is("the first alone is over", y.shift(1), -5);
        due.is("the last is not moved", y.ofScene(1, 0), 0);
    }

    private static void stretch() {
        due.part("promise 6");
        ToldScenes x = new ToldScenes();
        x.scene(-100, 10, 0, 0);
        x.scene(0, 3, 0, 0);
        due.is("stretch(0, 4)", x.stretch(0, 4), 1);
        due.is("length", x.ofScene(0, 1), 40);
        due.is("from", x.ofScene(0, 0), -100);
        due.is("end", x.ofScene(0, 2), -60);
        due.is("the other stays", x.ofScene(1, 1), 3);
        due.is("by 1", x.stretch(0, 1), 1);
        due.is("length", x.ofScene(0, 1), 40);
        due.is("by 0", x.stretch(0, 0), -2);
        due.is("by -1", x.stretch(0, -1), -2);
        due.is("by the least", x.stretch(0, MIN), -2);
        due.is("unknown", x.stretch(2, 2), -1);
        due.is("unknown ahead of outside", x.stretch(-1, 0), -1);
        due.is("length over, and far", x.stretch(0, MAX), -5);
        due.is("length a little over", x.stretch(1, 715827883), -5);
        due.is("length stays", x.ofScene(1, 1), 3);
        due.is("the longest", x.stretch(1, 715827882), 1);
        due.is("length", x.ofScene(1, 1), 2147483646);
        ToldScenes y = new ToldScenes();
        y.scene(MIN, 1 << 30, 0, 0);
        due.is("length over though the end is not", y.stretch(0, 2), -5);
        y.scene(MAX - 10, 5, 0, 0);
        due.is("end at the last", y.stretch(1, 2), 1);
        y.scene(MAX - 10, 6, 0, 0);
        due.is("end over", y.stretch(2, 2), -5);
    }

    private static void clue() {
        due.part("promise 7");
        ToldScenes x = new ToldScenes();
        x.scene(0, 1, 0, 0);
        x.scene(1, 1, 255, 255);
        due.is("gives 7", x.clue(0, 7, 0, true), 1);
        due.is("again", x.clue(0, 7, 0, true), 0);
        due.is("gives", x.ofScene(0, 3), 128);
        due.is("needs nothing yet", x.ofScene(0, 4), 0);
        due.is("needs 0", x.clue(0, 0, 1, true), 1);
        due.is("needs", x.ofScene(0, 4), 1);
        due.is("does not give 3: it was so", x.clue(0, 3, 0, false), 0);
        due.is("gives 7 no more", x.clue(0, 7, 0, false), 1);
        due.is("gives", x.ofScene(0, 3), 0);
        due.is("1 needs 4 no more", x.clue(1, 4, 1, false), 1);
        due.is("needs of 1", x.ofScene(1, 4), 239);
        due.is("gives of 1", x.ofScene(1, 3), 255);
        due.is("no such scene", x.clue(2, 0, 0, true), -1);
        due.is("no such scene", x.clue(-1, 0, 0, true), -1);
        due.is("no such clue", x.clue(0, 8, 0, true), -1);
        due.is("no such clue", x.clue(0, -1, 0, true), -1);
        due.is("which 2", x.clue(0, 0, 2, true), -2);
        due.is("which -1", x.clue(0, 0, -1, true), -2);
        due.is("unknown ahead of outside", x.clue(0, 8, 2, true), -1);
        due.is("unknown ahead of outside", x.clue(2, 0, 2, true), -1);
        due.is("refusals change nothing", x.ofScene(0, 3), 0);
    }

    private static void ofClue() {
        due.part("promise 8");
        ToldScenes x = new ToldScenes();
        due.is("of no scenes", x.ofClue(0, 0), 0);
        x.scene(0, 1, 1, 128);
        x.scene(0, 1, 129, 0);
        x.scene(0, 1, 0, 129);
        due.is("give 0", x.ofClue(0, 0), 3);
        due.is("give 7", x.ofClue(7, 0), 2);
        due.is("need 0", x.ofClue(0, 1), 4);
        due.is("need 7", x.ofClue(7, 1), 5);
        due.is("give 3", x.ofClue(3, 0), 0);
        due.is("clue 8", x.ofClue(8, 0), -1);
        due.is("clue -1", x.ofClue(-1, 1), -1);
        due.is("which 2", x.ofClue(0, 2), -2);
        due.is("which -1", x.ofClue(0, -1), -2);
        due.is("unknown ahead of outside", x.ofClue(8, 2), -1);
        x.drop();
        due.is("need 7, one less", x.ofClue(7, 1), 1);
        for (int k = 2; k < 8; k++) {
            x.scene(0, 1, 128, 0);
        }
        due.is("give 7, to the eighth", x.ofClue(7, 0), 254);
    }

    private static void drop() {
        due.part("promise 9");
        ToldScenes x = new ToldScenes();
        due.is("of none", x.drop(), -3);
        x.scene(1, 1, 0, 0);
        x.scene(2, 1, 0, 0);
        x.add(0);
        x.add(1);
        due.is("drop()", x.drop(), 1);
        due.is("the first stays", x.ofScene(0, 0), 1);
        due.is("signs stay", x.many(1), 2);
        due.is("wrong now", x.judge(0), 1);
        due.is("wrong now, why", x.judge(1), 1);
        due.is("a new one", x.scene(50, 1, 0, 0), 1);
        due.is("told again", x.judge(0), -9);
        due.is("with its own jump", x.jumps(), 48);
        due.is("drop()", x.drop(), 1);
        due.is("drop()", x.drop(), 0);
        due.is("of none", x.drop(), -3);
        due.is("many(0)", x.many(0), 0);
    }

    private static void fee() {
        due.part("promise 10");
        ToldScenes x = new ToldScenes();
        due.is("at first", x.fee(7), 100);
        due.is("below", x.fee(-1), -2);
        due.is("above", x.fee(1000001), -2);
        due.is("far below", x.fee(MIN), -2);
        due.is("far above", x.fee(MAX), -2);
        due.is("it stays", x.many(2), 7);
        due.is("the greatest", x.fee(1000000), 7);
        due.is("the least", x.fee(0), 1000000);
        due.is("many(2)", x.many(2), 0);
    }

    private static void jump() {
        due.part("promise 11");
        ToldScenes x = new ToldScenes();
        x.scene(0, 10, 0, 0);
        x.scene(25, 5, 0, 0);
        x.scene(5, 100, 0, 0);
        due.is("forth", x.jump(0, 1), 15);
        due.is("back", x.jump(1, 0), 30);
        due.is("into the midst", x.jump(0, 2), 5);
        due.is("out of it", x.jump(2, 0), 105);
        due.is("one", x.jump(1, 1), LOST);
        due.is("unknown", x.jump(3, 0), LOST);
        due.is("unknown", x.jump(0, 3), LOST);
        due.is("unknown", x.jump(-1, 0), LOST);
        due.is("unknown", x.jump(0, -1), LOST);
        due.is("unknown, one", x.jump(5, 5), LOST);
        ToldScenes y = new ToldScenes();
        y.scene(MIN, 1, 0, 0);
        y.scene(MAX - 1, 1, 0, 0);
        due.is("the greatest", y.jump(1, 0), 4294967295L);
        due.is("the other way", y.jump(0, 1), 4294967293L);
    }

    private static void spanOfAll() {
        due.part("promise 12");
        ToldScenes x = new ToldScenes();
        due.is("no scenes", x.span(0), LOST);
        due.is("no scenes", x.span(1), LOST);
        x.scene(10, 5, 0, 0);
        due.is("of one", x.span(0), 5);
        due.is("of one, untold", x.span(1), 0);
        due.is("what 2", x.span(2), LOST);
        due.is("what -1", x.span(-1), LOST);
        x.scene(-10, 100, 0, 0);
        due.is("of one around it", x.span(0), 100);
        due.is("of one around it, untold", x.span(1), 0);
        ToldScenes y = new ToldScenes();
        y.scene(MIN, 1, 0, 0);
        y.scene(MAX - 1, 1, 0, 0);
        due.is("the widest", y.span(0), 4294967295L);
        due.is("the widest, untold", y.span(1), 4294967293L);
    }

    private static void spanUntold() {
        ToldScenes x = new ToldScenes();
        x.scene(40, 10, 0, 0);
        x.scene(0, 10, 0, 0);
        due.is("one gap", x.span(1), 30);
        x.scene(5, 5, 0, 0);
        due.is("two end where the gap begins", x.span(1), 30);
        x.scene(10, 5, 0, 0);
        due.is("one that begins where two end", x.span(1), 25);
        x.scene(20, 5, 0, 0);
        due.is("two gaps", x.span(1), 20);
        x.scene(22, 10, 0, 0);
        due.is("overlapping", x.span(1), 13);
        x.scene(41, 2, 0, 0);
        due.is("one within another", x.span(1), 13);
        x.scene(15, 25, 0, 0);
        due.is("no gap is left", x.span(1), 0);
        due.is("all", x.span(0), 50);
        ToldScenes y = new ToldScenes();
        y.scene(0, 10, 0, 0);
        y.scene(5, 5, 0, 0);
        y.scene(30, 1, 0, 0);
        due.is("the first two end together", y.span(1), 20);
    }
}
