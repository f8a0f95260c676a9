import java.util.ArrayList;
import java.util.Arrays;
import java.util.List;
import java.util.Map;
import java.util.TreeMap;
import java.util.function.Function;

/**
 * The document once more, as slowly and plainly as it reads, with trees that never change and a copy
 * of all for each call that may be refused. ModelTest holds WindowDesk against it.
 */
final class PlainDesk {
    static final int BAD = -1000000001, NO = -1000000002, FULL = -1000000003, NONE = -1000000005;

    /** A call is refused: what was changed in the copy is thrown away. */
    private static final class Refused extends RuntimeException {
        private static final long serialVersionUID = 1L;
        final int answer;

        Refused(int answer) {
            super(null, null, false, false);
            this.answer = answer;
        }
    }

    private sealed interface Part permits Leaf, Cut { }

    private record Leaf(List<Integer> tabs, int shown) implements Part { }

    private record Cut(boolean across, int share, Part first, Part second) implements Part { }

    private record Win(int kind, int w, int h, int owner, int screen, int x, int y) {
        Win on(int s) {
            return new Win(kind, w, h, owner, s, x, y);
        }

        Win lying(int newX, int newY) {
            return new Win(kind, w, h, owner, screen, newX, newY);
        }
    }

    private record Kept(Part tree, Map<Integer, int[]> places) { }

    private record Size(int w, int h) { }

    private static final class State {
        TreeMap<Integer, Win> wins = new TreeMap<>();
        Size[] sizes = new Size[3];
        Part[] trees = new Part[3];
        Kept[] kept = new Kept[3];
        List<Integer> row = new ArrayList<>();
        List<Integer> stack = new ArrayList<>();

        State copy() {
            State c = new State();
            c.wins = new TreeMap<>(wins);
            c.sizes = sizes.clone();
            c.trees = trees.clone();
            c.kept = kept.clone();
            c.row = new ArrayList<>(row);
            c.stack = new ArrayList<>(stack);
            return c;
        }
    }

    private State st = new State();

    private int attempt(java.util.function.IntSupplier call) {
        State before = st;
        st = before.copy();
        try {
            return call.getAsInt();
        } catch (Refused r) {
            st = before;
            return r.answer;
        }
    }

    private static void refuse(boolean when, int answer) {
        if (when) {
            throw new Refused(answer);
        }
    }

    // ---- trees

    private static List<Leaf> leaves(Part p) {
        List<Leaf> all = new ArrayList<>();
        if (p instanceof Leaf leaf) {
            all.add(leaf);
        } else if (p instanceof Cut cut) {
            all.addAll(leaves(cut.first()));
            all.addAll(leaves(cut.second()));
        }
        return all;
    }

    private static List<Integer> tabs(Part p) {
        List<Integer> all = new ArrayList<>();
        leaves(p).forEach(leaf -> all.addAll(leaf.tabs()));
        return all;
    }

    private int least(Part p, boolean width) {
        if (p instanceof Leaf leaf) {
            return leaf.tabs().stream().mapToInt(t -> width ? st.wins.get(t).w() : st.wins.get(t).h()).max().orElse(0);
        }
        if (p instanceof Cut cut) {
            int a = least(cut.first(), width);
            int b = least(cut.second(), width);
            return cut.across() == width ? a + b : Math.max(a, b);
        }
        return 0;
    }

    private boolean fits(Part p, Size size) {
        return least(p, true) <= size.w() && least(p, false) <= size.h();
    }

    private void areas(Part p, int[] box, Map<Integer, int[]> into) {
        if (p instanceof Leaf leaf) {
            leaf.tabs().forEach(t -> into.put(t, box));
        } else if (p instanceof Cut cut) {
            int whole = cut.across() ? box[2] : box[3];
            int part = whole * cut.share() / 100;
            part = Math.min(part, whole - least(cut.second(), cut.across()));
            part = Math.max(part, least(cut.first(), cut.across()));
            if (cut.across()) {
                areas(cut.first(), new int[] {box[0], box[1], part, box[3]}, into);
                areas(cut.second(), new int[] {box[0] + part, box[1], box[2] - part, box[3]}, into);
            } else {
                areas(cut.first(), new int[] {box[0], box[1], box[2], part}, into);
                areas(cut.second(), new int[] {box[0], box[1] + part, box[2], box[3] - part}, into);
            }
        }
    }

    private Map<Integer, int[]> areasOn(int s) {
        Map<Integer, int[]> all = new TreeMap<>();
        if (st.sizes[s] != null && st.trees[s] != null) {
            areas(st.trees[s], new int[] {0, 0, st.sizes[s].w(), st.sizes[s].h()}, all);
        }
        return all;
    }

    private static Part without(Part p, int window) {
        if (p instanceof Leaf leaf) {
            int at = leaf.tabs().indexOf(window);
            if (at < 0) {
                return leaf;
            }
            List<Integer> rest = new ArrayList<>(leaf.tabs());
            rest.remove(at);
            if (rest.isEmpty()) {
                return null;
            }
            int shown = leaf.shown() != window ? leaf.shown() : rest.get(Math.min(at, rest.size() - 1));
            return new Leaf(rest, shown);
        }
        if (p instanceof Cut cut) {
            Part a = without(cut.first(), window);
            Part b = without(cut.second(), window);
            return a == null ? b : b == null ? a : new Cut(cut.across(), cut.share(), a, b);
        }
        return null;
    }

    private static Part change(Part p, int window, Function<Leaf, Part> how) {
        if (p instanceof Leaf leaf) {
            return leaf.tabs().contains(window) ? how.apply(leaf) : leaf;
        }
        if (p instanceof Cut cut) {
            return new Cut(cut.across(), cut.share(), change(cut.first(), window, how), change(cut.second(), window, how));
        }
        return null;
    }

    private static Part shown(Part p, int window) {
        return change(p, window, leaf -> new Leaf(leaf.tabs(), window));
    }

    private static Part withTab(Part p, int beside, int window) {
        return change(p, beside, leaf -> {
            List<Integer> more = new ArrayList<>(leaf.tabs());
            more.add(window);
            return new Leaf(more, leaf.shown());
        });
    }

    private static Leaf single(int window) {
        return new Leaf(List.of(window), window);
    }

    private static Part withCut(Part p, int beside, int window, boolean across, boolean ahead) {
        return change(p, beside, leaf -> ahead
                ? new Cut(across, 50, single(window), leaf) : new Cut(across, 50, leaf, single(window)));
    }

    /** Null if there is no such cut; the old share stands in was[0]. */
    private static Part withShare(Part p, int window, boolean across, int v, int[] was) {
        if (!(p instanceof Cut cut) || !tabs(p).contains(window)) {
            return null;
        }
        Part a = withShare(cut.first(), window, across, v, was);
        if (a != null) {
            return new Cut(cut.across(), cut.share(), a, cut.second());
        }
        Part b = withShare(cut.second(), window, across, v, was);
        if (b != null) {
            return new Cut(cut.across(), cut.share(), cut.first(), b);
        }
        if (cut.across() != across) {
            return null;
        }
        was[0] = cut.share();
        return new Cut(across, v, cut.first(), cut.second());
    }

    // ---- small questions

    private boolean is(int window) {
        return st.wins.containsKey(window);
    }

    private boolean tiled(int window) {
        return st.wins.get(window).kind() == 1;
    }

    private boolean sticky(int window) {
        return st.wins.get(window).kind() == 4;
    }

    private boolean shownTile(int window) {
        return tiled(window) && leaves(st.trees[st.wins.get(window).screen()]).stream().anyMatch(l -> l.shown() == window);
    }

    private boolean loose(int window) {
        return !tiled(window) && !sticky(window);
    }

    private List<Integer> on(int s) {
        return new ArrayList<>(st.wins.keySet().stream().filter(w -> !sticky(w) && st.wins.get(w).screen() == s).toList());
    }

    private List<Integer> dialogs(int window) {
        return st.wins.keySet().stream().filter(w -> st.wins.get(w).owner() == window).toList();
    }

    private List<Integer> withDialogs(List<Integer> some) {
        List<Integer> all = new ArrayList<>(some);
        for (int i = 0; i < all.size(); i++) {
            for (int d : dialogs(all.get(i))) {
                if (!all.contains(d)) {
                    all.add(d);
                }
            }
        }
        return all;
    }

    private boolean whole(int window, int s) {
        return st.wins.get(window).w() <= st.sizes[s].w() && st.wins.get(window).h() <= st.sizes[s].h();
    }

    private static int clamp(int v, int most) {
        return v < 0 ? 0 : v > most ? most : v;
    }

    private void put(int window, int s, int x, int y) {
        Win w = st.wins.get(window);
        st.wins.put(window, w.on(s).lying(clamp(x, st.sizes[s].w() - w.w()), clamp(y, st.sizes[s].h() - w.h())));
    }

    private void putAtItsPlace(int window, int s) {
        put(window, s, st.wins.get(window).x(), st.wins.get(window).y());
    }

    private int[] box(int window) {
        Win w = st.wins.get(window);
        return tiled(window) ? areasOn(w.screen()).get(window) : new int[] {w.x(), w.y(), w.w(), w.h()};
    }

    private void raise(int window) {
        if (!tiled(window)) {
            st.stack.remove((Integer) window);
            st.stack.add(window);
        }
        List<Integer> mine = new ArrayList<>(st.stack);
        mine.retainAll(dialogs(window));
        mine.forEach(this::raise);
    }

    private void focused(int window) {
        st.row.remove((Integer) window);
        st.row.add(0, window);
        if (tiled(window)) {
            int s = st.wins.get(window).screen();
            st.trees[s] = shown(st.trees[s], window);
        }
        raise(window);
    }

    private void unkeep(int window) {
        for (int s = 0; s < 3; s++) {
            if (st.kept[s] != null && (tabs(st.kept[s].tree()).contains(window) || st.kept[s].places().containsKey(window))) {
                st.kept[s] = null;
            }
        }
    }

    private int leastScreen(int but) {
        for (int s = 0; s < 3; s++) {
            if (s != but && st.sizes[s] != null) {
                return s;
            }
        }
        return -1;
    }

    // ---- screens

    int screen(int s, int w, int h) {
        return attempt(() -> {
            refuse(s < 0 || s > 2 || w < 40 || w > 400 || h < 40 || h > 400, BAD);
            boolean missing = st.sizes[s] == null;
            st.sizes[s] = new Size(w, h);
            if (missing) {
                int came = comesBack(s);
                st.kept[s] = null;
                return came;
            }
            refuse(!fits(st.trees[s], st.sizes[s]), NO);
            for (int window : on(s)) {
                refuse(loose(window) && !whole(window, s), NO);
                if (loose(window)) {
                    putAtItsPlace(window, s);
                }
            }
            return 0;
        });
    }

    private int comesBack(int s) {
        Kept kept = st.kept[s];
        if (kept == null || !fits(kept.tree(), st.sizes[s])) {
            return 0;
        }
        List<Integer> them = tabs(kept.tree());
        them.addAll(kept.places().keySet());
        List<Integer> all = withDialogs(them);
        for (int window : all) {
            if (!tiled(window) && !whole(window, s)) {
                return 0;
            }
        }
        for (int window : all) {
            int from = st.wins.get(window).screen();
            if (tiled(window)) {
                st.trees[from] = without(st.trees[from], window);
                st.wins.put(window, st.wins.get(window).on(s));
            } else if (them.contains(window)) {
                put(window, s, kept.places().get(window)[0], kept.places().get(window)[1]);
            } else {
                putAtItsPlace(window, s);
            }
        }
        all.forEach(this::unkeep);
        st.trees[s] = kept.tree();
        return them.size();
    }

    int gone(int s) {
        return attempt(() -> {
            refuse(s < 0 || s > 2, BAD);
            refuse(st.sizes[s] == null, NO);
            int to = leastScreen(s);
            refuse(to < 0, NO);
            List<Integer> all = on(s);
            Map<Integer, int[]> places = new TreeMap<>();
            for (int window : all) {
                if (loose(window)) {
                    places.put(window, new int[] {st.wins.get(window).x(), st.wins.get(window).y()});
                    refuse(!whole(window, to), NO);
                    putAtItsPlace(window, to);
                }
            }
            for (int window : tabs(st.trees[s])) {
                st.wins.put(window, st.wins.get(window).on(to));
                st.trees[to] = st.trees[to] == null ? single(window)
                        : withTab(st.trees[to], leaves(st.trees[to]).get(0).shown(), window);
            }
            refuse(!fits(st.trees[to], st.sizes[to]), NO);
            st.kept[s] = all.isEmpty() ? null : new Kept(st.trees[s], places);
            st.trees[s] = null;
            st.sizes[s] = null;
            return all.size();
        });
    }

    // ---- windows

    int open(int kind, int w, int h, int owner) {
        return attempt(() -> {
            refuse(kind < 1 || kind > 4 || w < 1 || w > 200 || h < 1 || h > 200, BAD);
            refuse(kind == 3 ? !is(owner) : owner != -1, BAD);
            int n = 0;
            while (is(n)) {
                n++;
            }
            refuse(n > 9, FULL);
            refuse(kind == 3 && sticky(owner), NO);
            int s = leastScreen(-1);
            for (int i = st.row.size() - 1; i >= 0; i--) {
                s = sticky(st.row.get(i)) ? s : st.wins.get(st.row.get(i)).screen();
            }
            s = kind == 3 ? st.wins.get(owner).screen() : s;
            refuse(s < 0, NO);
            int[] ownerBox = kind == 3 ? box(owner) : null;
            st.wins.put(n, new Win(kind, w, h, owner, kind == 4 ? -1 : s, 10 * n, 10 * n));
            if (kind == 1) {
                tile(n, s);
            } else if (kind != 4) {
                refuse(!whole(n, s), NO);
                if (kind == 3) {
                    put(n, s, ownerBox[0] + Math.floorDiv(ownerBox[2] - w, 2), ownerBox[1] + Math.floorDiv(ownerBox[3] - h, 2));
                } else {
                    put(n, s, 10 * n, 10 * n);
                }
            }
            focused(n);
            return n;
        });
    }

    private void tile(int n, int s) {
        Part tree = st.trees[s];
        if (tree == null) {
            refuse(!fits(single(n), st.sizes[s]), NO);
            st.trees[s] = single(n);
            return;
        }
        int beside = st.row.stream().filter(w -> tiled(w) && st.wins.get(w).screen() == s).findFirst().orElseThrow();
        int[] box = box(beside);
        boolean across = box[2] >= box[3];
        for (Part way : new Part[] {withCut(tree, beside, n, across, false), withCut(tree, beside, n, !across, false),
            withTab(tree, beside, n)}) {
            if (fits(way, st.sizes[s])) {
                st.trees[s] = way;
                return;
            }
        }
        refuse(true, NO);
    }

    int close(int window) {
        return attempt(() -> {
            refuse(!is(window), BAD);
            List<Integer> all = withDialogs(List.of(window));
            all.forEach(this::unkeep);
            if (tiled(window)) {
                int s = st.wins.get(window).screen();
                st.trees[s] = without(st.trees[s], window);
            }
            st.row.removeAll(all);
            st.stack.removeAll(all);
            all.forEach(st.wins::remove);
            return all.size();
        });
    }

    int focus(int window) {
        return attempt(() -> {
            refuse(!is(window), BAD);
            int before = st.row.get(0);
            focused(window);
            return before;
        });
    }

    int back() {
        return attempt(() -> {
            refuse(st.row.size() < 2, NO);
            focused(st.row.get(1));
            return st.row.get(0);
        });
    }

    int toward(int side) {
        return attempt(() -> {
            refuse(side < 0 || side > 3, BAD);
            refuse(st.row.isEmpty() || !shownTile(st.row.get(0)), NO);
            int next = neighbourOf(st.row.get(0), side);
            if (next != NONE) {
                focused(next);
            }
            return next;
        });
    }

    private int neighbourOf(int window, int side) {
        int s = st.wins.get(window).screen();
        Map<Integer, int[]> areas = areasOn(s);
        int[] me = areas.get(window);
        int best = NONE;
        int most = 0;
        for (Leaf leaf : leaves(st.trees[s])) {
            int[] it = areas.get(leaf.shown());
            boolean touch = switch (side) {
                case 0 -> it[0] + it[2] == me[0];
                case 1 -> me[0] + me[2] == it[0];
                case 2 -> it[1] + it[3] == me[1];
                default -> me[1] + me[3] == it[1];
            };
            int points = 0;
            for (int p = 0; p < 400 && touch; p++) {
                int from = side < 2 ? 1 : 0;
                if (p >= me[from] && p < me[from] + me[from + 2] && p >= it[from] && p < it[from] + it[from + 2]) {
                    points++;
                }
            }
            if (points > most || points == most && points > 0 && leaf.shown() < best) {
                most = points;
                best = leaf.shown();
            }
        }
        return best;
    }

    int steps(int a, int b) {
        return attempt(() -> {
            refuse(!is(a) || !is(b), BAD);
            refuse(!shownTile(a) || !shownTile(b), NO);
            List<Integer> there = List.of(a);
            for (int n = 0; n <= 10; n++) {
                if (there.contains(b)) {
                    return n;
                }
                List<Integer> next = new ArrayList<>();
                for (int from : there) {
                    for (int side = 0; side < 4; side++) {
                        int to = neighbourOf(from, side);
                        if (to != NONE && !next.contains(to)) {
                            next.add(to);
                        }
                    }
                }
                there = next;
            }
            return NONE;
        });
    }

    int drag(int window, int other, int side) {
        return attempt(() -> {
            refuse(!is(window) || !is(other) || window == other || side < 0 || side > 4, BAD);
            refuse(!tiled(window) || !tiled(other), NO);
            int from = st.wins.get(window).screen();
            int to = st.wins.get(other).screen();
            st.trees[from] = without(st.trees[from], window);
            st.trees[to] = side == 4 ? withTab(st.trees[to], other, window)
                    : withCut(st.trees[to], other, window, side < 2, side == 0 || side == 2);
            st.wins.put(window, st.wins.get(window).on(to));
            refuse(!fits(st.trees[to], st.sizes[to]), NO);
            for (int d : withDialogs(List.of(window))) {
                if (d != window && from != to) {
                    refuse(!whole(d, to), NO);
                    putAtItsPlace(d, to);
                }
            }
            unkeep(window);
            focused(window);
            return 0;
        });
    }

    int move(int window, int x, int y) {
        return attempt(() -> {
            refuse(!is(window) || x > 1000 || x < -1000 || y > 1000 || y < -1000, BAD);
            refuse(tiled(window), NO);
            unkeep(window);
            if (sticky(window)) {
                st.wins.put(window, st.wins.get(window).lying(clamp(x, 400), clamp(y, 400)));
            } else {
                put(window, st.wins.get(window).screen(), x, y);
            }
            return 0;
        });
    }

    int share(int window, int how, int v) {
        return attempt(() -> {
            refuse(!is(window) || how < 0 || how > 1 || v < 10 || v > 90, BAD);
            refuse(!tiled(window), NO);
            int s = st.wins.get(window).screen();
            int[] was = {NONE};
            Part changed = withShare(st.trees[s], window, how == 0, v, was);
            refuse(changed == null, NO);
            st.trees[s] = changed;
            return was[0];
        });
    }

    // ---- what is where

    int area(int window, int what) {
        if (!is(window) || what < 0 || what > 4) {
            return BAD;
        }
        return what > 0 ? box(window)[what - 1] : sticky(window) ? NONE : st.wins.get(window).screen();
    }

    int about(int window, int what) {
        if (!is(window) || what < 0 || what > 6) {
            return BAD;
        }
        Win w = st.wins.get(window);
        return new int[] {w.kind(), w.w(), w.h(), w.kind() == 3 ? w.owner() : NONE,
            !tiled(window) || shownTile(window) ? 1 : 0, st.row.indexOf(window),
            tiled(window) ? NONE : st.stack.indexOf(window)}[what];
    }

    int isOf(int window, int kind) {
        if (!is(window) || kind < 0 || kind > 4) {
            return BAD;
        }
        List<List<Integer>> kinds = Arrays.asList(null, List.of(0, 1), List.of(0, 2), List.of(0, 2, 3), List.of(0, 2, 4));
        return kinds.get(st.wins.get(window).kind()).contains(kind) ? 1 : 0;
    }

    int at(int s, int x, int y) {
        if (s < 0 || s > 2) {
            return BAD;
        }
        if (st.sizes[s] == null) {
            return NO;
        }
        if (x < 0 || y < 0 || x >= st.sizes[s].w() || y >= st.sizes[s].h()) {
            return BAD;
        }
        for (int i = st.stack.size() - 1; i >= 0; i--) {
            int window = st.stack.get(i);
            Win w = st.wins.get(window);
            if (sticky(window) ? whole(window, s) : w.screen() == s) {
                int left = clamp(w.x(), st.sizes[s].w() - w.w());
                int top = clamp(w.y(), st.sizes[s].h() - w.h());
                if (x >= left && x < left + w.w() && y >= top && y < top + w.h()) {
                    return window;
                }
            }
        }
        for (Leaf leaf : leaves(st.trees[s])) {
            int[] box = areasOn(s).get(leaf.shown());
            if (x >= box[0] && x < box[0] + box[2] && y >= box[1] && y < box[1] + box[3]) {
                return leaf.shown();
            }
        }
        return NONE;
    }

    int neighbour(int window, int side) {
        if (!is(window) || side < 0 || side > 3) {
            return BAD;
        }
        return shownTile(window) ? neighbourOf(window, side) : NO;
    }

    int told(int s, int what) {
        if (s < 0 || s > 2 || what < 0 || what > 6) {
            return BAD;
        }
        if (st.sizes[s] == null) {
            return NO;
        }
        int leaves = leaves(st.trees[s]).size();
        return new int[] {st.sizes[s].w(), st.sizes[s].h(), leaves, Math.max(0, leaves - 1),
            least(st.trees[s], true), least(st.trees[s], false), (int) on(s).stream().filter(this::loose).count()}[what];
    }

    int tab(int s, int i, int k) {
        if (s < 0 || s > 2 || i < 0 || k < -2) {
            return BAD;
        }
        if (st.sizes[s] == null) {
            return NO;
        }
        List<Leaf> leaves = leaves(st.trees[s]);
        if (i >= leaves.size() || k >= leaves.get(i).tabs().size()) {
            return NONE;
        }
        Leaf leaf = leaves.get(i);
        return k == -1 ? leaf.tabs().size() : k == -2 ? leaf.shown() : leaf.tabs().get(k);
    }

    int count(int what) {
        switch (what) {
            case 0:
                return (int) Arrays.stream(st.sizes).filter(s -> s != null).count();
            case 1:
                return st.wins.size();
            case 2:
                return (int) st.wins.keySet().stream().filter(this::tiled).count();
            case 3:
                return (int) st.wins.keySet().stream().filter(w -> !tiled(w)).count();
            case 4:
                return st.row.isEmpty() ? NONE : st.row.get(0);
            case 5:
                return (int) Arrays.stream(st.kept).filter(k -> k != null).count();
            default:
                return BAD;
        }
    }
}
