import java.util.List;
import java.util.function.Supplier;
import java.util.function.ToLongFunction;

/** What the tests of the document's edges share: objects in several states, and whether a call changed one. */
abstract class Edges {
    static final int MIN = Integer.MIN_VALUE, MAX = Integer.MAX_VALUE;
    static final int UNKNOWN = -1, OUTSIDE = -2, STATE = -3, FULL = -4, OVER = -5, NONE = -9;
    static final long LOST = Long.MIN_VALUE;
    private static final int LEFT_OUT = -6;

    final Due due;

    Edges(String name) {
        due = new Due(name);
    }

    static ToldScenes blank() {
        return new ToldScenes();
    }

    /** Four scenes, told with two frames, and nothing wrong in it. */
    static ToldScenes tale() {
        ToldScenes x = new ToldScenes();
        x.scene(100, 10, 1, 0);
        x.scene(50, 10, 2, 1);
        x.scene(200, 10, 4, 2);
        x.scene(0, 10, 128, 0);
        x.fee(7);
        tell(x, 0, 20, 1, 20, 2, 21, 3, 21);
        return x;
    }

    /** Wrong by its frames alone. */
    static ToldScenes open() {
        ToldScenes x = tale();
        x.add(20);
        return x;
    }

    /** Wrong by its row. */
    static ToldScenes broken() {
        ToldScenes x = tale();
        x.add(0);
        return x;
    }

    /** As many scenes and signs as there may be. */
    static ToldScenes crowded() {
        ToldScenes x = row(10, 0, 10, 20, 30, 40, 50, 60, 70);
        for (int i = 0; i < 40; i++) {
            x.add(i % 8);
        }
        return x;
    }

    /** The earliest and the latest scene that there can be; its jumps are over an int. */
    static ToldScenes far() {
        ToldScenes x = new ToldScenes();
        x.scene(MIN, 1, 0, 0);
        x.scene(MAX - 1, 1, 0, 0);
        tell(x, 1, 0);
        return x;
    }

    static final List<Supplier<ToldScenes>> KINDS =
        List.of(Edges::blank, Edges::tale, Edges::open, Edges::broken, Edges::crowded, Edges::far);

    /** Scenes without clues, all as long as one another. */
    static ToldScenes row(int length, int... froms) {
        ToldScenes x = new ToldScenes();
        for (int from : froms) {
            x.scene(from, length, 0, 0);
        }
        return x;
    }

    static ToldScenes told(ToldScenes x, int... signs) {
        tell(x, signs);
        return x;
    }

    static void tell(ToldScenes x, int... signs) {
        x.cut(x.many(1));
        for (int sign : signs) {
            x.add(sign);
        }
    }

    /** All that an object answers when asked; how often it was looked at comes first, for asking looks at it. */
    static long[] whole(ToldScenes x) {
        long[] all = new long[220];
        int n = 0;
        all[n++] = x.many(3);
        for (int what = 0; what < 5; what++) {
            all[n++] = what == 3 ? LEFT_OUT : x.many(what);
            for (int k = 0; k < 8; k++) {
                all[n++] = x.ofScene(k, what);
            }
        }
        for (int k = 0; k < 8; k++) {
            all[n++] = x.ofClue(k, 0);
            all[n++] = x.ofClue(k, 1);
            for (int other = 0; other < 8; other++) {
                all[n++] = k == other ? LEFT_OUT : x.jump(k, other);
            }
            for (int what = 0; what < 4; what++) {
                all[n++] = x.told(k, what);
            }
        }
        for (int what = 0; what < 6; what++) {
            all[n++] = x.judge(what);
        }
        all[n++] = x.jumps();
        all[n++] = x.span(0);
        all[n++] = x.span(1);
        for (int k = -1; k < 8; k++) {
            all[n++] = x.order(k);
        }
        int count = Math.max(0, x.framed(-2));
        for (int k = -2; k < count; k++) {
            all[n++] = x.framed(k);
        }
        all[n] = x.untangled();
        return all;
    }

    /** The call is answered so; behind it the object is as one of its kind that was not asked, but for these looks. */
    void unchanged(String call, Supplier<ToldScenes> kind, ToLongFunction<ToldScenes> asked, long want, int looks) {
        ToldScenes x = kind.get();
        due.is(call, asked.applyAsLong(x), want);
        long[] now = whole(x);
        long[] before = whole(kind.get());
        due.is(call + " is a look", now[0] - before[0], looks);
        for (int i = 1; i < now.length; i++) {
            due.is(call + " changed what is asked " + i + "th", now[i], before[i]);
        }
    }

    void unchanged(String call, Supplier<ToldScenes> kind, ToLongFunction<ToldScenes> asked, long want) {
        unchanged(call, kind, asked, want, 0);
    }

    /** In whatever state the object is. */
    void alwaysUnchanged(String call, ToLongFunction<ToldScenes> asked, long want, int looks) {
        for (Supplier<ToldScenes> kind : KINDS) {
            unchanged(call, kind, asked, want, looks);
        }
    }

    void alwaysUnchanged(String call, ToLongFunction<ToldScenes> asked, long want) {
        alwaysUnchanged(call, asked, want, 0);
    }

    void sceneIs(ToldScenes x, int k, long from, long length, long gives, long needs) {
        long[] want = {from, length, from + length, gives, needs};
        for (int what = 0; what < want.length; what++) {
            due.is("ofScene(" + k + ", " + what + ")", x.ofScene(k, what), want[what]);
        }
    }
}
