import java.util.function.ToLongFunction;

/** The edges that promises 18 to 21 and the terms of what is best name. */
public final class BestEdgesTest extends Edges {
    private BestEdgesTest() {
        super("BestEdgesTest");
    }

    public static void main(String[] args) {
        BestEdgesTest test = new BestEdgesTest();
        test.orderOfNone();
        test.orderOfSome();
        test.orderBehindDrop();
        test.orderOver();
        test.orderRefused();
        test.framedOfSome();
        test.framedOfSeveral();
        test.framedSides();
        test.framedBound();
        test.framedOver();
        test.framedRefused();
        test.framedByTheRow();
        test.untangledOfNone();
        test.untangledPlaces();
        test.untangledByWhatIsWrong();
        test.untangledFar();
        test.untangledRefused();
        test.many();
        test.manyClues();
        test.looks();
        test.manyRefused();
        test.due.end();
    }

    private void orderIs(String what, ToldScenes x, int jumps, int... row) {
        due.is(what + ": order(-1)", x.order(-1), jumps);
        for (int k = 0; k < 8; k++) {
            due.is(what + ": order(" + k + ")", x.order(k), k < row.length ? row[k] : NONE);
        }
    }

    private void framedIs(String what, ToldScenes x, int jumps, int... signs) {
        due.is(what + ": framed(-1)", x.framed(-1), jumps);
        due.is(what + ": framed(-2)", x.framed(-2), signs.length);
        for (int k = 0; k < 40; k++) {
            due.is(what + ": framed(" + k + ")", x.framed(k), k < signs.length ? signs[k] : NONE);
        }
    }

    /** One scene needs the last clue, another (or the same one) gives it or does not. */
    private static ToldScenes needing(ToldScenes x, int needs, int k, boolean gives) {
        x.clue(needs, 7, 1, true);
        x.clue(k, 7, 0, gives);
        return x;
    }

    private void orderOfNone() {
        due.part("promise 18, NONE: there are no SCENES");
        orderIs("a new object", blank(), NONE);
        ToldScenes x = row(1, 5);
        x.drop();
        orderIs("dropped", x, NONE);
        due.part("promise 18, NONE: there is none");
        orderIs("one that NEEDS what none GIVES", needing(row(1, 5), 0, 0, false), NONE);
        orderIs("one that NEEDS what it GIVES", needing(row(1, 5), 0, 0, true), NONE);
        orderIs("the last of eight", needing(crowded(), 7, 0, false), NONE);
        ToldScenes ring = needing(row(1, 5, 9), 0, 1, true);
        ring.clue(1, 0, 1, true);
        ring.clue(0, 0, 0, true);
        orderIs("each NEEDS the other", ring, NONE);
    }

    private void orderOfSome() {
        due.part("promise 18, one, and as many as there may be");
        orderIs("one", row(1, 5), 0, 0);
        orderIs("one, the longest", row(MAX, MIN), 0, 0);
        orderIs("eight", crowded(), 0, 0, 1, 2, 3, 4, 5, 6, 7);
        orderIs("eight, the last first", row(10, 70, 60, 50, 40, 30, 20, 10, 0), 0, 7, 6, 5, 4, 3, 2, 1, 0);
        due.part("promise 18, not WRONG");
        orderIs("the last ahead of the first", needing(crowded(), 0, 7, true), 80, 1, 2, 3, 4, 5, 6, 7, 0);
        due.part("promise 18, of several the first as a row");
        orderIs("two alike", row(5, 0, 0), 5, 0, 1);
        orderIs("eight alike", row(5, 0, 0, 0, 0, 0, 0, 0, 0), 35, 0, 1, 2, 3, 4, 5, 6, 7);
        orderIs("the second ahead of the others", needing(needing(row(5, 0, 0, 0), 0, 1, true), 2, 1, true), 10, 1, 0, 2);
        due.part("promise 18, by SCENES alone");
        ToldScenes x = told(row(10, 20, 0), 21, 21);
        x.fee(0);
        orderIs("neither SIGNS nor FEE", x, 10, 1, 0);
    }

    private void orderBehindDrop() {
        due.part("promise 18, of all SCENES, but of no dropped one");
        ToldScenes x = row(10, 0, 50, 200);
        orderIs("three", x, 180, 0, 1, 2);
        x.drop();
        orderIs("two of three", x, 40, 0, 1);
        x.drop();
        orderIs("one of two", x, 0, 0);
        x.drop();
        orderIs("none of one", x, NONE);
        ToldScenes y = needing(row(10, 0, 50), 1, 1, false);
        orderIs("there is none", y, NONE);
        y.drop();
        orderIs("the other had the need", y, 0, 0);
    }

    private void orderOver() {
        due.part("promise 18, OVER: JUMPS (of k -1 alone)");
        ToldScenes x = row(1, -2, MAX - 1);
        orderIs("the greatest", x, MAX, 0, 1);
        x.move(0, -1);
        orderIs("one more", x, OVER, 0, 1);
        orderIs("as far as can be", far(), OVER, 0, 1);
        due.part("promise 18, OVER: together");
        orderIs("the greatest", row(MAX, MIN, MIN), MAX, 0, 1);
        orderIs("twice that", row(MAX, MIN, MIN, MIN), OVER, 0, 1, 2);
        orderIs("seven times that", row(MAX, MIN, MIN, MIN, MIN, MIN, MIN, MIN, MIN), OVER, 0, 1, 2, 3, 4, 5, 6, 7);
        due.part("promise 18, NONE where it would be OVER");
        orderIs("there is none", needing(far(), 0, 1, false), NONE);
    }

    private void orderRefused() {
        due.part("promise 18, OUTSIDE: k");
        for (int k : new int[] {-2, 8, MIN, MAX}) {
            alwaysUnchanged("order(" + k + ")", x -> x.order(k), OUTSIDE);
            unchanged("order(" + k + "), where there is none", () -> needing(tale(), 0, 0, true), x -> x.order(k), OUTSIDE);
        }
        due.part("promise 18, OVER changes nothing");
        unchanged("far", Edges::far, x -> x.order(-1), OVER);
        due.part("promise 18, asking changes nothing, and is no look");
        unchanged("order(-1)", Edges::tale, x -> x.order(-1), tale().order(-1));
        unchanged("order(7)", Edges::crowded, x -> x.order(7), 7);
        unchanged("order(0) of none", Edges::blank, x -> x.order(0), NONE);
    }

    private void framedOfSome() {
        due.part("promise 19, one, and as many as there may be");
        framedIs("one", told(row(1, 5), 0), 0, 0);
        framedIs("eight", told(crowded(), 0, 1, 2, 3, 4, 5, 6, 7), 0, 0, 1, 2, 3, 4, 5, 6, 7);
        ToldScenes x = row(1, 1000, 0, 2000, 100, 3000, 200, 4000, 300);
        x.fee(0);
        tell(x, 0, 1, 2, 3, 4, 5, 6, 7);
        framedIs("the most SIGNS that there can be", x, 0,
            0, 20, 1, 20, 2, 20, 3, 20, 4, 20, 5, 20, 6, 20, 7, 21, 21, 21, 21, 21, 21, 21);
        due.part("promise 19, where no FRAME can be");
        framedIs("on no SIDE", told(row(1000, 0, 500, 999), 2, 1, 0), 1499 + 1500, 2, 1, 0);
        due.part("promise 19, FRAMES with the same TELLER");
        framedIs("back, back, on", told(row(10, 100, 50, 45, 110), 0, 1, 2, 3), 115, 0, 20, 1, 2, 21, 3);
        ToldScenes y = told(row(10, 1000, 0, 5, 1010), 0, 1, 2, 3);
        y.fee(1);
        framedIs("two that are on no SIDE of one another", y, 2, 0, 20, 1, 21, 20, 2, 21, 3);
    }

    private void framedOfSeveral() {
        due.part("promise 19, of several that of the fewest FRAMES");
        ToldScenes x = told(row(10, 0, 10, 20, 30), 0, 1, 2, 3);
        x.fee(0);
        framedIs("FRAMES for nothing, and no JUMPS without", x, 0, 0, 1, 2, 3);
        x = told(row(10, 0, 50), 0, 1);
        x.fee(40);
        framedIs("a FEE as a JUMP", x, 40, 0, 1);
        x.fee(39);
        framedIs("a FEE below a JUMP", x, 39, 0, 20, 1, 21);
        x.fee(41);
        framedIs("a FEE above a JUMP", x, 40, 0, 1);
        due.part("promise 19, of these the first as a row of SIGNS");
        x = told(row(10, 1000, 0, 2000), 0, 1, 2);
        framedIs("OPENS is ahead of CLOSES", x, 200, 0, 20, 1, 20, 2, 21, 21);
        x = told(row(10, 1000, 0, 10, 1010), 0, 1, 2, 3);
        framedIs("a SCENE is ahead of OPENS", x, 100, 0, 20, 1, 2, 21, 3);
        x = told(row(10, 100, 200, 300), 0, 1, 2);
        x.fee(90);
        framedIs("JUMPS as dear as FEES", x, 180, 0, 1, 2);
        x = told(row(10, 100, 195, 300), 0, 1, 2);
        x.fee(90);
        framedIs("the first a JUMP, the second a FRAME", x, 175, 0, 1, 20, 2, 21);
    }

    private static ToldScenes flash(int from, int length) {
        ToldScenes x = row(1, 100);
        x.scene(0, 90, 0, 0);
        x.scene(from, length, 0, 0);
        x.scene(101, 1, 0, 0);
        x.fee(50);
        return told(x, 0, 1, 2, 3);
    }

    private void framedSides() {
        due.part("promise 19, of all TELLINGS that are not WRONG, by reason 4");
        framedIs("BACK, BACK", flash(91, 9), 51, 0, 20, 1, 2, 21, 3);
        framedIs("BACK, FORTH", flash(105, 1000), 100, 0, 20, 1, 20, 2, 21, 21, 3);
        framedIs("BACK, and on no SIDE", flash(95, 1000), 100, 0, 20, 1, 20, 2, 21, 21, 3);
        framedIs("BACK, and one over it", flash(80, 20), 60, 0, 20, 1, 2, 21, 3);
        ToldScenes x = told(row(10, 0, 100, 110, 120, 10), 0, 1, 2, 3, 4);
        framedIs("FORTH, FORTH, FORTH", x, 100, 0, 20, 1, 2, 3, 21, 4);
        x = told(row(10, 500, 100, 110, 120, 510), 0, 1, 2, 3, 4);
        framedIs("BACK, BACK, BACK", x, 100, 0, 20, 1, 2, 3, 21, 4);
    }

    private void framedBound() {
        due.part("promise 19, FEE at its bounds");
        ToldScenes x = told(row(10, 0, 1000009, 20), 0, 1);
        x.fee(1000000);
        framedIs("a JUMP of one less than the greatest FEE", x, 999999, 0, 1);
        x.move(1, 1);
        framedIs("as much", x, 1000000, 0, 1);
        x.move(1, 1);
        framedIs("one more", x, 1000000, 0, 20, 1, 21);
        x = told(row(10, 0, 11), 0, 1);
        x.fee(0);
        framedIs("no FEE, and a JUMP of one", x, 0, 0, 20, 1, 21);
        x.move(1, -1);
        framedIs("no FEE, and a JUMP of none", x, 0, 0, 1);
        x.move(1, -1);
        framedIs("no FEE, and on no SIDE", x, 1, 0, 1);
    }

    private void framedOver() {
        due.part("promise 19, OVER: JUMPS (of k -1 alone)");
        framedIs("the greatest", told(row(MAX, MIN, MIN, MIN), 2, 0), MAX, 2, 0);
        framedIs("twice that", told(row(MAX, MIN, MIN, MIN), 2, 0, 1), OVER, 2, 0, 1);
        framedIs("seven times that", told(row(MAX, MIN, MIN, MIN, MIN, MIN, MIN, MIN, MIN), 7, 6, 5, 4, 3, 2, 1, 0),
            OVER, 7, 6, 5, 4, 3, 2, 1, 0);
        ToldScenes x = told(row(MAX, MIN, MIN, 0), 0, 1, 2);
        x.fee(0);
        framedIs("a FRAME for nothing", x, MAX, 0, 1, 20, 2, 21);
        x.fee(1);
        framedIs("the JUMP costs as much", x, OVER, 0, 1, 2);
        unchanged("OVER changes nothing", () -> told(row(MAX, MIN, MIN, MIN), 2, 0, 1), y -> y.framed(-1), OVER);
        due.part("promise 19, far, but not OVER");
        framedIs("far", far(), 100, 1, 20, 0, 21);
    }

    private void framedState(String what, ToldScenes x) {
        for (int k : new int[] {-2, -1, 0, 39}) {
            due.is(what + ": framed(" + k + ")", x.framed(k), STATE);
        }
        due.is(what + ": OUTSIDE comes first", x.framed(-3), OUTSIDE);
        due.is(what + ": OUTSIDE comes first", x.framed(40), OUTSIDE);
    }

    private void framedRefused() {
        due.part("promise 19, OUTSIDE: k");
        for (int k : new int[] {-3, 40, MIN, MAX}) {
            alwaysUnchanged("framed(" + k + ")", x -> x.framed(k), OUTSIDE);
        }
        due.part("promise 19, STATE: THE ROW has no SCENES");
        framedState("a new object", blank());
        framedState("no SIGNS", told(tale()));
        framedState("FRAMES alone", told(tale(), 20, 21, 21));
        unchanged("changes nothing", Edges::blank, x -> x.framed(-1), STATE);
        due.part("promise 19, STATE: THE ROW is WRONG");
        framedState("a SCENE that there is not", told(tale(), 0, 4));
        framedState("a SCENE told twice", broken());
        framedState("a CLUE too late", told(tale(), 1, 0));
        framedState("its own CLUE", told(needing(tale(), 3, 3, true), 3));
        framedState("40 SIGNS", crowded());
        unchanged("changes nothing", Edges::broken, x -> x.framed(0), STATE);
        unchanged("changes nothing", Edges::crowded, x -> x.framed(-2), STATE);
        due.part("promise 19, STATE ahead of OVER");
        due.is("far, and told twice", told(row(MAX, MIN, MIN, MIN), 0, 1, 2, 0).framed(-1), STATE);
        due.part("promise 19, asking changes nothing, and is no look");
        unchanged("framed(-1)", Edges::tale, x -> x.framed(-1), tale().framed(-1));
        unchanged("framed(39)", Edges::tale, x -> x.framed(39), NONE);
    }

    private void framedByTheRow() {
        due.part("promise 19, THE ROW: as they follow one another, without FRAMES");
        int[] want = {0, 20, 1, 21, 2};
        ToldScenes x = row(10, 500, 0, 510);
        framedIs("no FRAMES", told(x, 0, 1, 2), 100, want);
        framedIs("other FRAMES", told(x, 0, 20, 1, 20, 2, 21, 21), 100, want);
        framedIs("one left open", told(x, 0, 20, 1, 20, 2), 100, want);
        framedIs("CLOSED too often", told(x, 21, 0, 21, 1, 21, 2, 21), 100, want);
        framedIs("on a wrong SIDE", told(x, 0, 20, 1, 2, 21), 100, want);
        framedIs("OPENED at once", told(x, 20, 20, 0, 1, 2), 100, want);
    }

    private void untangledOfNone() {
        due.part("promise 20, NONE: there are none");
        due.is("(A row of no SIGNS is not WRONG.)", blank().untangled(), NONE);
        due.is("no SCENES told", told(tale()).untangled(), NONE);
        due.is("FRAMES alone", told(tale(), 20, 21).untangled(), NONE);
        due.is("one", told(tale(), 0).untangled(), NONE);
        due.is("two in order", told(row(10, 0, 10), 0, 1).untangled(), NONE);
        due.is("eight in order", told(crowded(), 0, 1, 2, 3, 4, 5, 6, 7).untangled(), NONE);
        due.part("promise 20, fewer than they are");
        due.is("as many", told(row(10, 0, 0), 1, 0).untangled(), NONE);
        ToldScenes x = new ToldScenes();
        x.scene(0, 10, 0, 0);
        x.scene(0, 9, 0, 0);
        due.is("one fewer", told(x, 0, 1).untangled(), 0);
        due.is("one more", told(x, 1, 0).untangled(), NONE);
    }

    private void untangledPlaces() {
        due.part("promise 20, which place the first of the two has (from 0 on)");
        due.is("the first two", told(crowded(), 1, 0, 2, 3, 4, 5, 6, 7).untangled(), 0);
        due.is("in the midst", told(crowded(), 0, 1, 2, 4, 3, 5, 6, 7).untangled(), 3);
        due.is("the last two", told(crowded(), 0, 1, 2, 3, 4, 5, 7, 6).untangled(), 6);
        due.part("promise 20, the one by which they are the fewest");
        ToldScenes x = row(10, 0, 10, 500, 300);
        due.is("the later one", told(x, 1, 0, 2, 3).untangled(), 2);
        due.is("the earlier one", told(row(10, 300, 500, 1000, 1010), 1, 0, 3, 2).untangled(), 0);
        due.part("promise 20, of several the first");
        due.is("two", told(crowded(), 1, 0, 3, 2).untangled(), 0);
        due.is("two, and two that are not so good", told(crowded(), 1, 0, 3, 2, 5, 4, 7, 6).untangled(), 2);
        due.part("promise 20, neighbours in THE ROW");
        due.is("a FRAME between", told(row(10, 0, 10, 20), 0, 20, 2, 21, 1).untangled(), 1);
        due.is("as the TELLING is WRONG by its FRAMES", told(row(10, 0, 10, 20), 21, 0, 20, 2, 1).untangled(), 1);
        ToldScenes y = told(row(10, 1000, 0), 0, 20, 1, 21);
        y.fee(0);
        due.is("JUMPS of THE ROW, not of the TELLING", y.untangled(), 0);
    }

    private void untangledByWhatIsWrong() {
        due.part("promise 20, by whose change of places THE ROW is not WRONG");
        due.is("it would be", told(needing(row(10, 0, 10), 0, 1, true), 1, 0).untangled(), NONE);
        due.is("it would not be", told(needing(row(10, 0, 10, 20), 2, 0, true), 0, 2, 1).untangled(), 1);
        ToldScenes x = told(needing(row(10, 0, 10, 500, 300), 3, 2, true), 1, 0, 2, 3);
        due.is("the next best", x.untangled(), 0);
        ToldScenes y = told(needing(needing(row(10, 0, 10, 20), 0, 2, true), 1, 2, true), 2, 1, 0);
        due.is("a CLUE given by one further ahead", y.untangled(), 1);
    }

    private void untangledFar() {
        due.part("promise 20, JUMPS above an int");
        due.is("both ways", far().untangled(), 0);
        due.is("the other way", told(far(), 0, 1).untangled(), NONE);
        ToldScenes x = row(1, MIN, MAX - 1, MIN, MAX - 1, MIN, MAX - 1, MIN, MAX - 1);
        due.is("seven, to and fro", told(x, 0, 1, 2, 3, 4, 5, 6, 7).untangled(), 1);
        unchanged("no OVER, and nothing changes", Edges::far, ToldScenes::untangled, 0);
    }

    private void untangledRefused() {
        due.part("promise 20, STATE: THE ROW is WRONG");
        unchanged("a SCENE that there is not", () -> told(tale(), 4), ToldScenes::untangled, STATE);
        unchanged("a SCENE told twice", Edges::broken, ToldScenes::untangled, STATE);
        unchanged("40 SIGNS", Edges::crowded, ToldScenes::untangled, STATE);
        unchanged("a CLUE too late, though a change would mend it", () -> told(tale(), 1, 0), ToldScenes::untangled, STATE);
        due.part("promise 20, asking changes nothing, and is no look");
        unchanged("of none", Edges::blank, ToldScenes::untangled, NONE);
        unchanged("tale", Edges::tale, ToldScenes::untangled, tale().untangled());
        unchanged("one to change", () -> told(row(10, 10, 0), 0, 1), ToldScenes::untangled, 0);
    }

    private void many() {
        due.part("promise 21, none, and as many as there may be");
        due.is("no SCENES", blank().many(0), 0);
        due.is("all SCENES", crowded().many(0), 8);
        due.is("no SIGNS", blank().many(1), 0);
        due.is("all SIGNS", crowded().many(1), 40);
        ToldScenes x = new ToldScenes();
        x.fee(0);
        due.is("no FEE", x.many(2), 0);
        x.fee(1000000);
        due.is("the greatest FEE", x.many(2), 1000000);
    }

    private void manyClues() {
        due.part("promise 21, CLUES that some SCENE NEEDS and none GIVES");
        due.is("of no SCENES", blank().many(4), 0);
        ToldScenes x = new ToldScenes();
        x.scene(0, 1, 0, 255);
        due.is("all", x.many(4), 8);
        x.scene(0, 1, 0, 255);
        due.is("none counts twice", x.many(4), 8);
        x.scene(0, 1, 127, 0);
        due.is("one is left", x.many(4), 1);
        x.clue(0, 7, 0, true);
        due.is("one that NEEDS it GIVES it", x.many(4), 0);
        x.clue(0, 7, 0, false);
        x.drop();
        due.is("the dropped one GIVES none", x.many(4), 8);
        x.drop();
        x.drop();
        due.is("the dropped ones NEED none", x.many(4), 0);
        ToldScenes y = new ToldScenes();
        y.scene(0, 1, 255, 0);
        due.is("none NEEDS what is given", y.many(4), 0);
        for (int k = 1; k < 7; k++) {
            y.scene(0, 1, 0, 255);
        }
        y.clue(0, 0, 0, false);
        due.is("the first CLUE", y.many(4), 1);
        y.scene(0, 1, 1, 0);
        due.is("the eighth GIVES it", y.many(4), 0);
    }

    private void isLook(String call, ToLongFunction<ToldScenes> asked, int looks) {
        for (int i = 0; i < KINDS.size(); i++) {
            ToldScenes x = KINDS.get(i).get();
            asked.applyAsLong(x);
            due.is(call + ", kind " + i, x.many(3), looks);
            asked.applyAsLong(x);
            due.is(call + " again, kind " + i, x.many(3), 2 * looks);
        }
    }

    private void looks() {
        due.part("promise 21, how often the TELLING was looked at (by judge(), jumps(), told(): each call counts)");
        isLook("judge(0)", x -> x.judge(0), 1);
        isLook("judge(6)", x -> x.judge(6), 1);
        isLook("jumps()", ToldScenes::jumps, 1);
        isLook("told(0, 0)", x -> x.told(0, 0), 1);
        isLook("told(0, 4)", x -> x.told(0, 4), 1);
        isLook("told(8, 0)", x -> x.told(8, 0), 1);
        due.part("promise 21, no other call is a look");
        isLook("order(0)", x -> x.order(0), 0);
        isLook("framed(0)", x -> x.framed(0), 0);
        isLook("untangled()", ToldScenes::untangled, 0);
        isLook("many(3)", x -> x.many(3), 0);
        isLook("add(0)", x -> x.add(0), 0);
        isLook("cut(0)", x -> x.cut(0), 0);
        isLook("drop()", ToldScenes::drop, 0);
        isLook("scene(0, 1, 0, 0)", x -> x.scene(0, 1, 0, 0), 0);
        isLook("span(0)", x -> x.span(0), 0);
        due.part("An object is used for at most 512 calls");
        ToldScenes x = new ToldScenes();
        for (int i = 0; i < 511; i++) {
            x.jumps();
        }
        due.is("the 512th", x.many(3), 511);
    }

    private void manyRefused() {
        due.part("promise 21, OUTSIDE");
        for (int what : new int[] {-1, 5, MIN, MAX}) {
            alwaysUnchanged("many(" + what + ")", x -> x.many(what), OUTSIDE);
        }
        due.part("promise 21, asking changes nothing");
        for (int what = 0; what < 5; what++) {
            int asked = what;
            unchanged("many(" + what + ")", Edges::tale, x -> x.many(asked), tale().many(what));
        }
    }
}
