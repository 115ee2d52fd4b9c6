/** The edges that promises 13 to 17 and the terms of a telling name. */
public final class TellingEdgesTest extends Edges {
    private static final int[] NO_SCENES = {-1, 8, MIN, MAX};
    private static final int[] NO_SIGNS = {-1, 8, 9, 19, 22, MIN, MAX};

    private TellingEdgesTest() {
        super("TellingEdgesTest");
    }

    public static void main(String[] args) {
        TellingEdgesTest test = new TellingEdgesTest();
        test.add();
        test.cut();
        test.noSuchScene();
        test.toldAhead();
        test.needs();
        test.sides();
        test.sidesAtTheEnds();
        test.sameSide();
        test.opens();
        test.closes();
        test.leftOpen();
        test.leastReason();
        test.firstWrong();
        test.aheadOfIt();
        test.judgeRefused();
        test.jumps();
        test.jumpsOfFrames();
        test.jumpsRefused();
        test.told();
        test.toldRefused();
        test.due.end();
    }

    private void add() {
        due.part("promise 13, a row of at most 40 SIGNS");
        ToldScenes x = new ToldScenes();
        for (int count = 1; count <= 40; count++) {
            due.is("add(21)", x.add(21), count);
        }
        due.is("a 41st", x.add(21), FULL);
        due.is("many(1)", x.many(1), 40);
        due.part("promise 13, 0 .. 7, 20, 21");
        for (int sign : new int[] {0, 1, 2, 3, 4, 5, 6, 7, 20, 21}) {
            due.is("add(" + sign + "), there are no SCENES", blank().add(sign), 1);
        }
        due.part("promise 13, OUTSIDE: it is not 0 .. 7, 20, 21");
        for (int sign : NO_SIGNS) {
            alwaysUnchanged("add(" + sign + ")", y -> y.add(sign), OUTSIDE);
        }
        due.part("promise 13, FULL");
        for (int sign : new int[] {0, 7, 20, 21}) {
            unchanged("add(" + sign + ")", Edges::crowded, y -> y.add(sign), FULL);
        }
        due.part("promise 13, behind the others");
        ToldScenes z = told(row(1, 0, 10, 20), 2, 0, 1);
        due.is("the first", z.told(2, 0), 0);
        due.is("the second", z.told(0, 0), 1);
        due.is("the third", z.told(1, 0), 2);
    }

    private void cut() {
        due.part("promise 14, n (0 .. as many as there are)");
        unchanged("cut(0) of none", Edges::blank, x -> x.cut(0), 0);
        unchanged("cut(0)", Edges::tale, x -> x.cut(0), 8);
        unchanged("cut(0) of 40", Edges::crowded, x -> x.cut(0), 40);
        due.is("all 40", crowded().cut(40), 0);
        due.is("all but one", crowded().cut(39), 1);
        ToldScenes y = tale();
        due.is("all", y.cut(8), 0);
        due.is("none is told", y.told(0, 0), NONE);
        due.part("promise 14, the last n");
        y = tale();
        due.is("cut(7)", y.cut(7), 1);
        due.is("the first stays", y.told(0, 0), 0);
        due.is("the others don't", y.judge(4), 1);
        due.part("promise 14, OUTSIDE");
        for (int n : new int[] {-1, 41, MIN, MAX}) {
            alwaysUnchanged("cut(" + n + ")", x -> x.cut(n), OUTSIDE);
        }
        unchanged("one more than none", Edges::blank, x -> x.cut(1), OUTSIDE);
        unchanged("one more than there are", Edges::tale, x -> x.cut(9), OUTSIDE);
    }

    private void is(String what, ToldScenes x, int place, int reason) {
        due.is(what + ": judge(0)", x.judge(0), place);
        due.is(what + ": judge(1)", x.judge(1), reason);
    }

    private void fine(String what, ToldScenes x) {
        is(what, x, NONE, NONE);
    }

    private void noSuchScene() {
        due.part("reason 1, a SIGN tells a SCENE that there is not");
        for (int k = 0; k < 8; k++) {
            is("of none", told(blank(), k), 0, 1);
        }
        fine("the last of four", told(row(1, 0, 10, 20, 30), 3));
        is("the fifth of four", told(row(1, 0, 10, 20, 30), 3, 4), 1, 1);
        fine("the eighth of eight", told(crowded(), 7));
        ToldScenes x = told(crowded(), 7);
        x.drop();
        is("the eighth was dropped", x, 0, 1);
        x.scene(0, 1, 0, 0);
        fine("it came again", x);
    }

    private void toldAhead() {
        due.part("reason 2, one that was told ahead of it");
        is("at once", told(row(1, 0, 10), 0, 0), 1, 2);
        is("later", told(row(1, 0, 10), 0, 1, 0), 2, 2);
        is("in a FRAME that is closed", told(row(1, 0, 10), 0, 20, 1, 21, 1), 4, 2);
        is("out of this FRAME", told(row(1, 0, 10, 20), 1, 0, 20, 1), 3, 2);
        is("the eighth", told(crowded(), 7, 0, 7), 2, 2);
        fine("all eight once", told(crowded(), 7, 6, 5, 4, 3, 2, 1, 0));
    }

    private static ToldScenes needing(int gives, int needs, int... signs) {
        ToldScenes x = new ToldScenes();
        x.scene(0, 10, gives, 0);
        x.scene(100, 10, 255, needs);
        x.scene(200, 10, 0, 0);
        return told(x, signs);
    }

    private void needs() {
        due.part("reason 3, one that NEEDS a CLUE that no SCENE told ahead of it GIVES");
        fine("it needs none", needing(0, 0, 1));
        is("none was told", needing(255, 1, 1), 0, 3);
        is("its own", needing(0, 255, 0, 1), 1, 3);
        is("given behind it", needing(255, 128, 1, 0), 0, 3);
        fine("all eight", needing(255, 255, 0, 1));
        is("all but the first", needing(254, 255, 0, 1), 1, 3);
        is("all but the last", needing(127, 255, 0, 1), 1, 3);
        fine("the last alone", needing(128, 128, 0, 1));
        due.part("reason 3, (in a FRAME or not)");
        fine("given in a FRAME that is closed", needing(9, 9, 2, 20, 0, 21, 1));
        fine("given in the FRAME", needing(9, 9, 2, 20, 0, 1, 21));
        fine("given out of the FRAME", needing(9, 9, 0, 20, 1, 21));
        is("in a FRAME, too late", needing(9, 9, 2, 20, 1, 0, 21), 2, 3);
    }

    /** A frame with this scene in it, told by one from 100 to 110. */
    private static ToldScenes flash(int from, int length) {
        ToldScenes x = row(10, 100);
        x.scene(from, length, 0, 0);
        return told(x, 0, 20, 1, 21);
    }

    private void sides() {
        due.part("reason 4, BACK: its END is not above FROM of the TELLER");
        fine("below", flash(90, 9));
        fine("the same", flash(90, 10));
        is("above", flash(90, 11), 2, 4);
        due.is("its SIDE", flash(90, 10).told(1, 3), 0);
        due.part("reason 4, FORTH: its FROM is not below END of the TELLER");
        fine("above", flash(111, 1));
        fine("the same", flash(110, 1));
        is("below", flash(109, 1), 2, 4);
        due.is("its SIDE", flash(110, 1).told(1, 3), 1);
        due.part("reason 4, on no SIDE");
        is("the same times", flash(100, 10), 2, 4);
        is("within", flash(101, 1), 2, 4);
        is("around", flash(90, 30), 2, 4);
        is("from its FROM on", flash(100, 100), 2, 4);
        is("up to its END", flash(50, 60), 2, 4);
    }

    private void sidesAtTheEnds() {
        due.part("reason 4, where an int would wrap around");
        ToldScenes x = far();
        x.scene(MIN + 1, 1, 0, 0);
        x.scene(MAX - 2, 1, 0, 0);
        tell(x, 1, 20, 0, 21);
        fine("the earliest, of the latest", x);
        due.is("BACK", x.told(0, 3), 0);
        tell(x, 0, 20, 1, 21);
        fine("the latest, of the earliest", x);
        due.is("FORTH", x.told(1, 3), 1);
        tell(x, 0, 20, 2, 21);
        fine("next to the earliest", x);
        due.is("FORTH", x.told(2, 3), 1);
        tell(x, 1, 20, 3, 21);
        fine("next to the latest", x);
        due.is("BACK", x.told(3, 3), 0);
        x.scene(MIN, MAX, 0, 0);
        tell(x, 0, 20, 4, 21);
        is("the longest, of the earliest", x, 2, 4);
        x.scene(0, MAX, 0, 0);
        tell(x, 1, 20, 5, 21);
        is("the longest, of the latest", x, 2, 4);
        tell(x, 4, 20, 5, 21);
        fine("the longest, of the longest", x);
        due.is("FORTH", x.told(5, 3), 1);
    }

    private void sameSide() {
        due.part("reason 4, each other one of that FRAME on the same SIDE of the TELLER as the first one");
        ToldScenes x = row(10, 100, 90, 110, 80, 120, 95);
        fine("BACK, BACK", told(x, 0, 20, 3, 1, 21));
        fine("FORTH, FORTH", told(x, 0, 20, 4, 2, 21));
        is("BACK, FORTH", told(x, 0, 20, 1, 2, 21), 3, 4);
        is("FORTH, BACK", told(x, 0, 20, 2, 1, 21), 3, 4);
        is("BACK, none", told(x, 0, 20, 3, 5, 21), 3, 4);
        is("BACK, BACK, FORTH", told(x, 0, 20, 3, 1, 4, 21), 4, 4);
        fine("another FRAME of the TELLER", told(x, 0, 20, 1, 21, 20, 2, 21));
        due.part("reason 4, the TELLER: told last of what the FRAME is in");
        fine("not the first of the GROUND", told(x, 0, 3, 20, 5, 21));
        is("the last of the GROUND", told(x, 3, 0, 20, 5, 21), 3, 4);
        is("not what a FRAME told last", told(x, 0, 20, 3, 21, 20, 5, 21), 5, 4);
        fine("within a FRAME the last of that", told(x, 0, 20, 3, 20, 5, 21, 21));
        due.part("reason 4, what is in none is of the GROUND");
        fine("no SIDE binds it", told(x, 0, 5));
        fine("nor behind a FRAME", told(x, 0, 20, 1, 21, 5, 2));
        due.part("reason 4, the SIDE behind a FRAME within");
        fine("the same", told(x, 0, 20, 1, 20, 2, 21, 3, 21));
        is("the other", told(x, 0, 20, 1, 20, 2, 21, 4, 21), 6, 4);
    }

    private void opens() {
        due.part("reason 5, it OPENS a FRAME, and of what that would be in no SCENE was told yet");
        is("the first SIGN", told(tale(), 20), 0, 5);
        is("there are no SCENES", told(blank(), 20), 0, 5);
        is("at once within a FRAME", told(tale(), 0, 20, 20), 2, 5);
        is("at once within one behind another", told(tale(), 0, 20, 1, 21, 20, 20), 5, 5);
        is("two deep", told(tale(), 0, 20, 1, 20, 20), 4, 5);
        is("behind one", told(tale(), 0, 20), 2, 7);
        is("behind one within", told(tale(), 0, 20, 1, 20), 4, 7);
    }

    private void closes() {
        due.part("reason 6, it CLOSES one, and none is open");
        is("the first SIGN", told(tale(), 21), 0, 6);
        is("there are no SCENES", told(blank(), 21), 0, 6);
        is("behind a SCENE", told(tale(), 0, 21), 1, 6);
        is("behind the last that was open", told(tale(), 0, 20, 1, 21, 21), 4, 6);
        is("behind both", told(tale(), 0, 20, 1, 20, 2, 21, 21, 21), 7, 6);
        due.part("reason 6, or no SCENE of it was told");
        is("at once", told(tale(), 0, 20, 21), 2, 6);
        is("at once, behind another FRAME", told(tale(), 0, 20, 1, 21, 20, 21), 5, 6);
        is("at once, within a FRAME", told(tale(), 0, 20, 1, 20, 21), 4, 6);
        fine("one is enough", told(tale(), 0, 20, 3, 21));
    }

    private void leftOpen() {
        due.part("reason 7, the row ends, and a FRAME is open: how many SIGNS there are");
        is("one of no SCENE", told(tale(), 0, 20), 2, 7);
        is("one of one", told(tale(), 0, 20, 1), 3, 7);
        is("one of two", told(tale(), 0, 20, 1, 20, 2, 21), 6, 7);
        is("both", told(tale(), 0, 20, 1, 20, 2), 5, 7);
        is("the second", told(tale(), 0, 20, 1, 21, 20), 5, 7);
        due.part("reason 7, a SIGN ahead that is WRONG comes first");
        is("reason 1", told(tale(), 0, 20, 7), 2, 1);
        is("reason 5", told(tale(), 0, 20, 20), 2, 5);
    }

    private void leastReason() {
        due.part("Of one SIGN the least reason counts");
        ToldScenes x = row(10, 100, 95, 105);
        x.clue(1, 0, 1, true);
        is("1, not 4", told(x, 0, 20, 3), 2, 1);
        is("2, not 4", told(x, 0, 20, 0), 2, 2);
        is("3, not 4", told(x, 0, 20, 1), 2, 3);
        x.clue(0, 0, 0, true);
        is("4 alone", told(x, 0, 20, 1), 2, 4);
        tell(x, 0, 20, 1);
        x.clue(0, 0, 0, false);
        x.clue(0, 1, 1, true);
        is("3 of the first SIGN", x, 0, 3);
    }

    private void firstWrong() {
        due.part("FIRST WRONG: the place (from 0 on) of the first SIGN that is WRONG");
        is("the first of two", told(tale(), 0, 7, 0), 1, 1);
        is("the first of all", told(tale(), 21, 20, 7, 7), 0, 6);
        due.part("(A row of no SIGNS is not WRONG.)");
        fine("there are SCENES", told(tale()));
        fine("there are none", blank());
        due.part("FIRST WRONG, as far behind as it can be");
        ToldScenes x = row(1, 0, 10, 20, 30, 40, 50, 60, 70);
        tell(x, 0, 20, 1, 20, 2, 20, 3, 20, 4, 20, 5, 20, 6, 20, 7, 21, 21, 21, 21, 21, 21, 21);
        fine("the longest that is not WRONG", x);
        x.add(21);
        is("one more", x, 22, 6);
        x.cut(1);
        x.add(20);
        is("one opened behind it", x, 23, 7);
        x.add(0);
        is("told in it", x, 23, 2);
    }

    private void counts(String what, ToldScenes x, int... want) {
        for (int i = 0; i < want.length; i++) {
            due.is(what + ": judge(" + (i + 2) + ")", x.judge(i + 2), want[i]);
        }
    }

    private void aheadOfIt() {
        due.part("promise 15, 2 to 5, of none");
        counts("no SIGNS", blank(), 0, 0, 0, 0);
        counts("the first is WRONG", told(tale(), 20, 0, 1), 0, 0, 0, 0);
        due.part("promise 15, 2 to 5, of all where it is not WRONG");
        counts("two FRAMES", tale(), 2, 2, 4, 135);
        counts("one FRAME behind the other", told(tale(), 0, 20, 1, 21, 20, 2, 21, 3), 2, 1, 4, 135);
        due.part("promise 15, 2 to 5, not the one that is WRONG");
        counts("a SCENE by its SIDE", told(tale(), 0, 20, 1, 2, 21), 1, 1, 2, 3);
        counts("a FRAME", told(tale(), 0, 20, 20), 1, 1, 1, 1);
        counts("a need", told(tale(), 3, 1, 0), 0, 0, 1, 128);
        counts("told twice", broken(), 2, 2, 4, 135);
        due.part("promise 15, 2 to 5, by reason 7 all of them");
        counts("open", open(), 3, 2, 4, 135);
        counts("open, two deep", told(tale(), 0, 20, 1, 20), 2, 2, 2, 3);
        due.part("promise 15, 2 and 3, as many FRAMES as there can be");
        ToldScenes x = row(1, 0, 10, 20, 30, 40, 50, 60, 70);
        tell(x, 0, 20, 1, 20, 2, 20, 3, 20, 4, 20, 5, 20, 6, 20, 7, 20);
        counts("eight are open", x, 8, 8, 8, 0);
        x.cut(1);
        counts("seven are open", x, 7, 7, 8, 0);
        tell(x, 0, 20, 1, 21, 20, 2, 21, 20, 3, 21, 20, 4, 21, 20, 5, 21, 20, 6, 21, 20, 7, 21);
        counts("seven, and never two open", x, 7, 1, 8, 0);
        due.part("promise 15, 5, all CLUES");
        counts("one GIVES all", needing(255, 0, 0), 0, 0, 1, 255);
        counts("two GIVE the same", needing(128, 0, 0, 1), 0, 0, 2, 255);
        counts("what it NEEDS is not what it GIVES", needing(1, 1, 0, 2), 0, 0, 2, 1);
    }

    private void judgeRefused() {
        due.part("promise 15, OUTSIDE; promise 21, refused or not");
        for (int what : new int[] {-1, 6, MIN, MAX}) {
            alwaysUnchanged("judge(" + what + ")", x -> x.judge(what), OUTSIDE, 1);
        }
        due.part("promise 15, looking changes nothing but many(3)");
        for (int what = 0; what < 6; what++) {
            int asked = what;
            unchanged("judge(" + what + ")", Edges::tale, x -> x.judge(asked), tale().judge(what), 1);
            unchanged("judge(" + what + ")", Edges::broken, x -> x.judge(asked), broken().judge(what), 1);
        }
    }

    private void jumps() {
        due.part("promise 16, none");
        due.is("no SIGNS", blank().jumps(), 0);
        due.is("no SIGNS, but SCENES", told(tale()).jumps(), 0);
        due.is("one", told(tale(), 0).jumps(), 0);
        due.part("promise 16, OVER: above 2147483647");
        ToldScenes x = new ToldScenes();
        x.scene(-2, 1, 0, 0);
        x.scene(MAX - 1, 1, 0, 0);
        tell(x, 0, 1);
        due.is("the greatest", x.jumps(), MAX);
        x.move(0, -1);
        due.is("one more", x.jumps(), OVER);
        due.is("as far as can be", far().jumps(), OVER);
        due.part("promise 16, OVER: together");
        ToldScenes y = row(1, 0, 1 << 30, 0);
        tell(y, 0, 1, 2);
        due.is("one more than the greatest", y.jumps(), OVER);
        y.move(2, 1);
        due.is("the greatest", y.jumps(), MAX);
        y.move(2, 1);
        due.is("one less", y.jumps(), MAX - 1);
        due.part("promise 16, OVER: what would wrap around to an int");
        ToldScenes z = row(1, MIN, MAX - 1, MIN, MAX - 1, MIN, MAX - 1, MIN, MAX - 1);
        tell(z, 1, 0, 3, 2, 5, 4, 7, 6);
        due.is("eight, to and fro", z.jumps(), OVER);
    }

    private void jumpsOfFrames() {
        due.part("JUMPS: one FEE for each FRAME, and OVER by it");
        ToldScenes x = row(1, -2, MAX - 1, 5);
        tell(x, 0, 1, 20, 2, 21);
        x.fee(0);
        due.is("for nothing", x.jumps(), MAX);
        x.fee(1);
        due.is("for one", x.jumps(), OVER);
        ToldScenes y = row(1, 0, 10, 20, 30, 40, 50, 60, 70);
        y.fee(1000000);
        tell(y, 0, 20, 1, 20, 2, 20, 3, 20, 4, 20, 5, 20, 6, 20, 7, 21, 21, 21, 21, 21, 21, 21);
        due.is("the most FRAMES for the most", y.jumps(), 7000000);
        due.part("JUMPS: to come into a FRAME, out of it, is no JUMP");
        ToldScenes z = far();
        tell(z, 0, 20, 1, 21);
        due.is("into it, as far as can be", z.jumps(), 100);
        z.scene(MIN + 1, 1, 0, 0);
        z.add(2);
        due.is("and out of it", z.jumps(), 100);
        due.part("JUMPS: of each FRAME, the JUMPS from each SCENE of it to the next one of it");
        ToldScenes w = row(10, 100, 0, 200, 50, 300);
        tell(w, 0, 20, 1, 20, 2, 4, 21, 3, 21);
        due.is("past the FRAME within", w.jumps(), 90 + 40 + 200);
    }

    private void jumpsRefused() {
        due.part("promise 16, STATE: it is WRONG; promise 21, refused or not");
        unchanged("its FRAMES", Edges::open, ToldScenes::jumps, STATE, 1);
        unchanged("its row", Edges::broken, ToldScenes::jumps, STATE, 1);
        unchanged("40 SIGNS", Edges::crowded, ToldScenes::jumps, STATE, 1);
        due.part("promise 16, OVER; promise 21, refused or not");
        unchanged("far", Edges::far, ToldScenes::jumps, OVER, 1);
        due.part("promise 16, STATE ahead of OVER");
        unchanged("far, and open", () -> told(far(), 1, 0, 20), ToldScenes::jumps, STATE, 1);
        unchanged("far, and told twice", () -> told(far(), 1, 0, 1), ToldScenes::jumps, STATE, 1);
        due.part("promise 16, not refused");
        unchanged("tale", Edges::tale, ToldScenes::jumps, 74, 1);
    }

    private void of(ToldScenes x, int k, int... want) {
        for (int what = 0; what < want.length; what++) {
            due.is("told(" + k + ", " + what + ")", x.told(k, what), want[what]);
        }
    }

    private void told() {
        due.part("promise 17, NONE: it is not told");
        of(told(tale()), 0, NONE, NONE, NONE, NONE);
        of(told(tale(), 0, 20, 1, 21), 3, NONE, NONE, NONE, NONE);
        due.part("promise 17, NONE: of the GROUND");
        of(tale(), 0, 0, 0, NONE, NONE);
        of(told(tale(), 0, 20, 1, 21, 3), 3, 2, 0, NONE, NONE);
        due.part("promise 17, as deep as can be");
        ToldScenes x = row(1, 0, 10, 20, 30, 40, 50, 60, 70);
        tell(x, 0, 20, 1, 20, 2, 20, 3, 20, 4, 20, 5, 20, 6, 20, 7, 21, 21, 21, 21, 21, 21, 21);
        for (int k = 1; k < 8; k++) {
            of(x, k, k, k, k - 1, 1);
        }
        due.part("promise 17, the last of eight");
        of(told(crowded(), 7, 6, 5, 4, 3, 2, 1, 0), 0, 7, 0, NONE, NONE);
        of(told(crowded(), 7, 6, 5, 4, 3, 2, 1, 0), 7, 0, 0, NONE, NONE);
        due.part("promise 17, the TELLER's number, 0 too");
        of(tale(), 1, 1, 1, 0, 0);
        of(tale(), 2, 2, 2, 1, 1);
        of(tale(), 3, 3, 1, 0, 0);
    }

    private void toldRefused() {
        due.part("promise 17, UNKNOWN; promise 21, refused or not");
        for (int k : NO_SCENES) {
            alwaysUnchanged("told(" + k + ", 0)", x -> x.told(k, 0), UNKNOWN, 1);
            alwaysUnchanged("told(" + k + ", 4), OUTSIDE too", x -> x.told(k, 4), UNKNOWN, 1);
        }
        unchanged("the first that there is not", Edges::tale, x -> x.told(4, 0), UNKNOWN, 1);
        unchanged("told, but there is not", () -> told(tale(), 4), x -> x.told(4, 0), UNKNOWN, 1);
        due.part("promise 17, OUTSIDE; promise 21, refused or not");
        for (int what : new int[] {-1, 4, MIN, MAX}) {
            unchanged("told(0, " + what + ")", Edges::tale, x -> x.told(0, what), OUTSIDE, 1);
            unchanged("told(3, " + what + "), STATE too", Edges::open, x -> x.told(3, what), OUTSIDE, 1);
            unchanged("told(7, " + what + "), STATE too", Edges::crowded, x -> x.told(7, what), OUTSIDE, 1);
        }
        unchanged("of one that is not told", () -> told(tale()), x -> x.told(0, 4), OUTSIDE, 1);
        due.part("promise 17, STATE: it is WRONG; promise 21, refused or not");
        for (int what = 0; what < 4; what++) {
            int asked = what;
            unchanged("told ahead of it", Edges::open, x -> x.told(0, asked), STATE, 1);
            unchanged("its row", Edges::broken, x -> x.told(3, asked), STATE, 1);
            unchanged("of one that is not told", () -> told(tale(), 0, 20), x -> x.told(3, asked), STATE, 1);
        }
    }
}
