import java.util.ArrayList;
import java.util.List;

/**
 * The document's words once more, in the slowest and plainest way: every row of scenes and every row of
 * signs is tried. It shares no idea with the class but the document.
 */
final class Model {
    static final int UNKNOWN = -1, OUTSIDE = -2, STATE = -3, FULL = -4, OVER = -5, NONE = -9;
    static final long LOST = Long.MIN_VALUE;

    record Scene(long from, long length, int gives, int needs) {
        long end() {
            return from + length;
        }
    }

    /** A frame, or the ground (whose teller is null). */
    static final class Frame {
        final Frame outer;
        final Integer teller;
        final List<Integer> scenes = new ArrayList<>();

        Frame(Frame outer) {
            this.outer = outer;
            this.teller = outer == null ? null : outer.scenes.get(outer.scenes.size() - 1);
        }

        int depth() {
            return outer == null ? 0 : outer.depth() + 1;
        }
    }

    /** What a look at a row of signs shows. */
    static final class View {
        int place = NONE;
        int reason = NONE;
        int mostOpen = 0;
        final List<Frame> frames = new ArrayList<>();
        final List<Integer> told = new ArrayList<>();
        final List<Frame> homes = new ArrayList<>();

        boolean wrong() {
            return place != NONE;
        }
    }

    private List<Scene> scenes = new ArrayList<>();
    private final List<Integer> signs = new ArrayList<>();
    private long fee = 100;
    private int looks = 0;

    private static boolean fits(long v) {
        return v == (int) v;
    }

    private static int intOrOver(long v) {
        return fits(v) ? (int) v : OVER;
    }

    private boolean known(int k) {
        return k >= 0 && k < scenes.size();
    }

    int scene(int from, int length, int gives, int needs) {
        if (length < 1 || gives < 0 || gives > 255 || needs < 0 || needs > 255) return OUTSIDE;
        if (scenes.size() == 8) return FULL;
        if (!fits((long) from + length)) return OVER;
        scenes.add(new Scene(from, length, gives, needs));
        return scenes.size() - 1;
    }

    long ofScene(int k, int what) {
        if (!known(k) || what < 0 || what > 4) return LOST;
        Scene s = scenes.get(k);
        return List.of(s.from(), s.length(), s.end(), (long) s.gives(), (long) s.needs()).get(what);
    }

    private static Scene moved(Scene s, long d) {
        return new Scene(s.from() + d, s.length(), s.gives(), s.needs());
    }

    private static boolean stands(Scene s) {
        return fits(s.from()) && fits(s.length()) && fits(s.end());
    }

    int move(int k, int d) {
        if (!known(k)) return UNKNOWN;
        Scene then = moved(scenes.get(k), d);
        if (!stands(then)) return OVER;
        scenes.set(k, then);
        return 1;
    }

    int shift(int d) {
        List<Scene> then = new ArrayList<>();
        for (Scene s : scenes) then.add(moved(s, d));
        for (Scene s : then) if (!stands(s)) return OVER;
        scenes = then;
        return then.size();
    }

    int stretch(int k, int times) {
        if (!known(k)) return UNKNOWN;
        if (times < 1) return OUTSIDE;
        Scene s = scenes.get(k);
        Scene then = new Scene(s.from(), s.length() * times, s.gives(), s.needs());
        if (!stands(then)) return OVER;
        scenes.set(k, then);
        return 1;
    }

    int clue(int k, int c, int which, boolean is) {
        if (!known(k) || c < 0 || c > 7) return UNKNOWN;
        if (which < 0 || which > 1) return OUTSIDE;
        Scene s = scenes.get(k);
        int old = which == 0 ? s.gives() : s.needs();
        if (((old & (1 << c)) != 0) == is) return 0;
        int now = old ^ (1 << c);
        scenes.set(k, new Scene(s.from(), s.length(), which == 0 ? now : s.gives(), which == 0 ? s.needs() : now));
        return 1;
    }

    int ofClue(int c, int which) {
        if (c < 0 || c > 7) return UNKNOWN;
        if (which < 0 || which > 1) return OUTSIDE;
        int set = 0;
        for (int k = 0; k < scenes.size(); k++) {
            int of = which == 0 ? scenes.get(k).gives() : scenes.get(k).needs();
            if ((of & (1 << c)) != 0) set += 1 << k;
        }
        return set;
    }

    int drop() {
        if (scenes.isEmpty()) return STATE;
        scenes.remove(scenes.size() - 1);
        return scenes.size();
    }

    int fee(int v) {
        if (v < 0 || v > 1000000) return OUTSIDE;
        int was = (int) fee;
        fee = v;
        return was;
    }

    private long jumpOf(int a, int b) {
        long end = scenes.get(a).end();
        long from = scenes.get(b).from();
        return end > from ? end - from : from - end;
    }

    long jump(int a, int b) {
        return known(a) && known(b) && a != b ? jumpOf(a, b) : LOST;
    }

    /** Between two neighbours of all times that a scene begins or ends at, all is told or nothing. */
    long span(int what) {
        if (what < 0 || what > 1 || scenes.isEmpty()) return LOST;
        List<Long> times = new ArrayList<>();
        for (Scene s : scenes) {
            times.add(s.from());
            times.add(s.end());
        }
        times.sort(null);
        if (what == 0) return times.get(times.size() - 1) - times.get(0);
        long sum = 0;
        for (int i = 0; i + 1 < times.size(); i++) {
            long a = times.get(i);
            long b = times.get(i + 1);
            boolean told = false;
            for (Scene s : scenes) told |= s.from() <= a && b <= s.end();
            if (!told) sum += b - a;
        }
        return sum;
    }

    int add(int sign) {
        if (!((sign >= 0 && sign <= 7) || sign == 20 || sign == 21)) return OUTSIDE;
        if (signs.size() == 40) return FULL;
        signs.add(sign);
        return signs.size();
    }

    int cut(int n) {
        if (n < 0 || n > signs.size()) return OUTSIDE;
        for (int i = 0; i < n; i++) signs.remove(signs.size() - 1);
        return signs.size();
    }

    private int sideOf(int k, int teller) {
        if (scenes.get(k).end() <= scenes.get(teller).from()) return 0;
        if (scenes.get(k).from() >= scenes.get(teller).end()) return 1;
        return NONE;
    }

    private int cluesOf(List<Integer> told) {
        int set = 0;
        for (int k : told) set |= scenes.get(k).gives();
        return set;
    }

    private int reasonOf(int sign, Frame now, View view) {
        if (sign == 20) return now.scenes.isEmpty() ? 5 : NONE;
        if (sign == 21) return now.outer == null || now.scenes.isEmpty() ? 6 : NONE;
        if (!known(sign)) return 1;
        if (view.told.contains(sign)) return 2;
        int needs = scenes.get(sign).needs();
        if ((needs & cluesOf(view.told)) != needs) return 3;
        if (now.teller == null) return NONE;
        int side = sideOf(sign, now.teller);
        int due = now.scenes.isEmpty() ? side : sideOf(now.scenes.get(0), now.teller);
        return side == NONE || side != due ? 4 : NONE;
    }

    View look(List<Integer> row) {
        View view = new View();
        Frame now = new Frame(null);
        view.frames.add(now);
        for (int i = 0; i < row.size(); i++) {
            int sign = row.get(i);
            int reason = reasonOf(sign, now, view);
            if (reason != NONE) {
                view.place = i;
                view.reason = reason;
                return view;
            }
            if (sign == 20) {
                now = new Frame(now);
                view.frames.add(now);
                view.mostOpen = Math.max(view.mostOpen, now.depth());
            } else if (sign == 21) {
                now = now.outer;
            } else {
                now.scenes.add(sign);
                view.told.add(sign);
                view.homes.add(now);
            }
        }
        if (now.outer != null) {
            view.place = row.size();
            view.reason = 7;
        }
        return view;
    }

    private long jumpsOf(View view) {
        long sum = fee * (view.frames.size() - 1);
        for (Frame f : view.frames) {
            for (int i = 0; i + 1 < f.scenes.size(); i++) sum += jumpOf(f.scenes.get(i), f.scenes.get(i + 1));
        }
        return sum;
    }

    int judge(int what) {
        looks++;
        if (what < 0 || what > 5) return OUTSIDE;
        View view = look(signs);
        int[] answers = {view.place, view.reason, view.frames.size() - 1, view.mostOpen, view.told.size(), cluesOf(view.told)};
        return answers[what];
    }

    int jumps() {
        looks++;
        View view = look(signs);
        return view.wrong() ? STATE : intOrOver(jumpsOf(view));
    }

    int told(int k, int what) {
        looks++;
        if (!known(k)) return UNKNOWN;
        if (what < 0 || what > 3) return OUTSIDE;
        View view = look(signs);
        if (view.wrong()) return STATE;
        int turn = view.told.indexOf(k);
        if (turn < 0) return NONE;
        Frame home = view.homes.get(turn);
        if (what == 0) return turn;
        if (what == 1) return home.depth();
        if (home.teller == null) return NONE;
        return what == 2 ? home.teller : sideOf(k, home.teller);
    }

    private List<Integer> bestRow;
    private long bestJumps;
    private int bestFrames;
    private Object bestOf;

    /** Trying all takes long: it's done again only where what it was done for is not the same, by its whole content. */
    private boolean isNew(Object of) {
        boolean changed = !of.equals(bestOf);
        if (changed) {
            bestOf = of;
            bestRow = null;
        }
        return changed;
    }

    private void tryOrders(List<Integer> row) {
        View view = look(row);
        if (view.wrong()) return;
        if (row.size() == scenes.size()) {
            long sum = jumpsOf(view);
            if (bestRow == null || sum < bestJumps) {
                bestRow = new ArrayList<>(row);
                bestJumps = sum;
            }
            return;
        }
        for (int k = 0; k < scenes.size(); k++) {
            row.add(k);
            tryOrders(row);
            row.remove(row.size() - 1);
        }
    }

    int order(int k) {
        if (k < -1 || k > 7) return OUTSIDE;
        if (isNew(List.copyOf(scenes)) && !scenes.isEmpty()) tryOrders(new ArrayList<>());
        if (bestRow == null) return NONE;
        if (k == -1) return intOrOver(bestJumps);
        return k < bestRow.size() ? bestRow.get(k) : NONE;
    }

    private List<Integer> theRow() {
        List<Integer> row = new ArrayList<>();
        for (int sign : signs) if (sign < 8) row.add(sign);
        return row;
    }

    /** Signs are tried from the greatest on, so that it's the comparison, not the order of trying, that finds the first. */
    private void tryFrames(List<Integer> tried, List<Integer> row, int at) {
        View view = look(tried);
        if (view.wrong() && view.reason != 7) return;
        if (at == row.size() && !view.wrong()) {
            long sum = jumpsOf(view);
            int frames = view.frames.size() - 1;
            if (bestRow == null || sum < bestJumps || (sum == bestJumps
                && (frames < bestFrames || (frames == bestFrames && isAhead(tried, bestRow))))) {
                bestRow = new ArrayList<>(tried);
                bestJumps = sum;
                bestFrames = frames;
            }
        }
        for (int sign : new int[] {21, 20, at < row.size() ? row.get(at) : NONE}) {
            if (sign == NONE || (sign == 20 && at == row.size())) continue;
            tried.add(sign);
            tryFrames(tried, row, sign < 20 ? at + 1 : at);
            tried.remove(tried.size() - 1);
        }
    }

    private static boolean isAhead(List<Integer> a, List<Integer> b) {
        for (int i = 0; i < a.size() && i < b.size(); i++) {
            if (!a.get(i).equals(b.get(i))) return a.get(i) < b.get(i);
        }
        return a.size() < b.size();
    }

    int framed(int k) {
        if (k < -2 || k > 39) return OUTSIDE;
        List<Integer> row = theRow();
        if (row.isEmpty() || look(row).wrong()) return STATE;
        if (isNew(List.of(List.copyOf(scenes), row, fee))) tryFrames(new ArrayList<>(), row, 0);
        if (k == -2) return bestRow.size();
        if (k == -1) return intOrOver(bestJumps);
        return k < bestRow.size() ? bestRow.get(k) : NONE;
    }

    int untangled() {
        List<Integer> row = theRow();
        View view = look(row);
        if (view.wrong()) return STATE;
        int found = NONE;
        long least = jumpsOf(view);
        for (int i = 0; i + 1 < row.size(); i++) {
            List<Integer> other = new ArrayList<>(row);
            other.set(i, row.get(i + 1));
            other.set(i + 1, row.get(i));
            View then = look(other);
            if (!then.wrong() && jumpsOf(then) < least) {
                least = jumpsOf(then);
                found = i;
            }
        }
        return found;
    }

    int many(int what) {
        int missing = 0;
        for (int c = 0; c < 8; c++) {
            if (ofClue(c, 1) != 0 && ofClue(c, 0) == 0) missing++;
        }
        int[] answers = {scenes.size(), signs.size(), (int) fee, looks, missing};
        return what < 0 || what > 4 ? OUTSIDE : answers[what];
    }

    List<Integer> signs() {
        return signs;
    }

    int sceneCount() {
        return scenes.size();
    }
}
