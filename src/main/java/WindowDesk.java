import java.util.Arrays;

/**
 * Windows in order on up to three screens: tiled in trees of cuts and tabs, floating, dialogs and
 * sticky ones. Answers are whole numbers; a refused call answers BAD, NO or FULL and changes nothing.
 */
public final class WindowDesk {
    public static final int BAD = -1000000001, NO = -1000000002, FULL = -1000000003, NONE = -1000000005;

    private static final int SCREENS = 3, WINDOWS = 10;
    private static final int LEAST_SCREEN = 40, MOST_SCREEN = 400, MOST_WINDOW = 200;
    private static final int MOST_PLACE = 1000, MOST_STICKY_PLACE = 400, FLOATING_STEP = 10;
    private static final int LEAST_SHARE = 10, EVEN_SHARE = 50, MOST_SHARE = 90, WHOLE_SHARE = 100;
    private static final int WINDOW = 0, TILED = 1, FLOATING = 2, DIALOG = 3, STICKY = 4;
    private static final int AXES = 2, ACROSS = 0, DOWN = 1;
    private static final int SIDES = 4, AS_TAB = 4;

    /** No window, leaf, cut or screen, where NONE is not yet an answer. */
    private static final int NOTHING = -1;

    private final Window[] windows = new Window[WINDOWS];
    private final Screen[] screens = new Screen[SCREENS];
    private final Row focusRow = new Row();
    private final Row stack = new Row();

    // Made once and used again by each call, so that a long run makes no more objects.
    private final Tree trial = new Tree();
    private final boolean[] group = new boolean[WINDOWS];
    private final int[] asked = new int[AXES];
    private final int[] distances = new int[WINDOWS];
    private final Row reached = new Row();

    public WindowDesk() {
        for (int i = 0; i < WINDOWS; i++) {
            windows[i] = new Window();
        }
        for (int i = 0; i < SCREENS; i++) {
            screens[i] = new Screen();
        }
    }

    // ---- screens

    public int screen(int s, int w, int h) {
        if (!isScreen(s) || !isScreenSize(w) || !isScreenSize(h)) {
            return BAD;
        }
        asked[ACROSS] = w;
        asked[DOWN] = h;
        Screen screen = screens[s];
        if (!screen.there) {
            screen.there = true;
            screen.setSize(asked);
            int came = bringBack(s);
            screen.kept.forget();
            return came;
        }
        if (!screen.tree.fits(asked) || !looseOnesFit(s, asked)) {
            return NO;
        }
        screen.setSize(asked);
        sendAll(s, s);
        return 0;
    }

    public int gone(int s) {
        if (!isScreen(s)) {
            return BAD;
        }
        int to = leastScreenBut(s);
        if (!screens[s].there || to < 0) {
            return NO;
        }
        Screen old = screens[s];
        trial.copyFrom(screens[to].tree);
        trial.addAllTabs(old.tree);
        if (!trial.fits(screens[to].size) || !looseOnesFit(s, screens[to].size)) {
            return NO;
        }
        int moved = windowsOn(s);
        keepAll(s);
        sendAll(s, to);
        screens[to].tree.copyFrom(trial);
        old.tree.clear();
        old.there = false;
        return moved;
    }

    // ---- windows

    public int open(int kind, int w, int h, int owner) {
        boolean rightOwner = kind == DIALOG ? isWindow(owner) : owner == -1;
        if (kind < TILED || kind > STICKY || !isWindowSize(w) || !isWindowSize(h) || !rightOwner) {
            return BAD;
        }
        int number = leastFreeNumber();
        if (number < 0) {
            return FULL;
        }
        if (kind == DIALOG && windows[owner].isSticky()) {
            return NO;
        }
        int s = kind == DIALOG ? windows[owner].screen : screenAtHand();
        if (s < 0) {
            return NO;
        }
        layTrees();
        windows[number].prepare(kind, w, h, owner);
        if (!findRoom(number, s)) {
            return NO;
        }
        windows[number].there = true;
        giveFocus(number);
        return number;
    }

    public int close(int window) {
        if (!isWindow(window)) {
            return BAD;
        }
        gatherWithDialogs(window);
        int closed = 0;
        for (int i = 0; i < WINDOWS; i++) {
            if (group[i]) {
                end(i);
                closed++;
            }
        }
        return closed;
    }

    public int focus(int window) {
        if (!isWindow(window)) {
            return BAD;
        }
        int before = focusRow.get(0);
        giveFocus(window);
        return before;
    }

    public int back() {
        if (focusRow.size() < 2) {
            return NO;
        }
        int second = focusRow.get(1);
        giveFocus(second);
        return second;
    }

    public int toward(int side) {
        if (!isSide(side)) {
            return BAD;
        }
        int window = focusRow.get(0);
        if (!isShownTile(window)) {
            return NO;
        }
        layTrees();
        int next = treeOf(window).neighbourTo(window, side);
        if (isWindow(next)) {
            giveFocus(next);
        }
        return next;
    }

    public int steps(int a, int b) {
        if (!isWindow(a) || !isWindow(b)) {
            return BAD;
        }
        if (!isShownTile(a) || !isShownTile(b)) {
            return NO;
        }
        layTrees();
        Arrays.fill(distances, NOTHING);
        distances[a] = 0;
        reached.clear();
        reached.append(a);
        for (int i = 0; i < WINDOWS && i < reached.size(); i++) {
            reachFrom(reached.get(i));
        }
        return distances[b] < 0 ? NONE : distances[b];
    }

    public int drag(int window, int other, int side) {
        if (!isWindow(window) || !isWindow(other) || window == other || !isSide(side) && side != AS_TAB) {
            return BAD;
        }
        if (!windows[window].isTiled() || !windows[other].isTiled()) {
            return NO;
        }
        int from = windows[window].screen;
        int to = windows[other].screen;
        tryDrag(window, other, side);
        gatherWithDialogs(window);
        if (!trial.fits(screens[to].size) || from != to && !groupCanBeWhole(to)) {
            return NO;
        }
        forgetKeptWith(window);
        screens[from].tree.takeOut(window);
        screens[to].tree.copyFrom(trial);
        if (from != to) {
            sendGroup(to);
        }
        giveFocus(window);
        return 0;
    }

    public int move(int window, int x, int y) {
        if (!isWindow(window) || !isPlace(x) || !isPlace(y)) {
            return BAD;
        }
        Window moved = windows[window];
        if (!moved.isFloating()) {
            return NO;
        }
        forgetKeptWith(window);
        if (moved.isSticky()) {
            moved.place[ACROSS] = between(0, x, MOST_STICKY_PLACE);
            moved.place[DOWN] = between(0, y, MOST_STICKY_PLACE);
        } else {
            moved.putAt(x, y, screens[moved.screen].size);
        }
        return 0;
    }

    public int share(int window, int how, int v) {
        if (!isWindow(window) || !isAxis(how) || v < LEAST_SHARE || v > MOST_SHARE) {
            return BAD;
        }
        if (!windows[window].isTiled()) {
            return NO;
        }
        Tree tree = treeOf(window);
        int cut = tree.nearestCut(window, how);
        return cut < 0 ? NO : tree.changeShare(cut, v);
    }

    // ---- what is where

    public int area(int window, int what) {
        if (!isWindow(window)) {
            return BAD;
        }
        layTrees();
        switch (what) {
            case 0:
                return windows[window].isSticky() ? NONE : windows[window].screen;
            case 1:
            case 2:
                return startOf(window, what - 1);
            case 3:
            case 4:
                return lengthOf(window, what - 3);
            default:
                return BAD;
        }
    }

    public int about(int window, int what) {
        if (!isWindow(window)) {
            return BAD;
        }
        Window subject = windows[window];
        switch (what) {
            case 0:
                return subject.kind;
            case 1:
            case 2:
                return subject.least[what - 1];
            case 3:
                return subject.owner < 0 ? NONE : subject.owner;
            case 4:
                return subject.isFloating() || isShownTile(window) ? 1 : 0;
            case 5:
                return focusRow.placeOf(window);
            case 6:
                return subject.isFloating() ? stack.placeOf(window) : NONE;
            default:
                return BAD;
        }
    }

    public int isOf(int window, int kind) {
        if (!isWindow(window) || kind < WINDOW || kind > STICKY) {
            return BAD;
        }
        return windows[window].fallsUnder(kind) ? 1 : 0;
    }

    public int at(int s, int x, int y) {
        if (!isScreen(s)) {
            return BAD;
        }
        Screen screen = screens[s];
        if (!screen.there) {
            return NO;
        }
        if (x < 0 || x >= screen.size[ACROSS] || y < 0 || y >= screen.size[DOWN]) {
            return BAD;
        }
        for (int i = stack.size() - 1; i >= 0; i--) {
            if (windows[stack.get(i)].coversPoint(x, y, s, screen.size)) {
                return stack.get(i);
            }
        }
        layTrees();
        return screen.tree.shownAt(x, y);
    }

    public int neighbour(int window, int side) {
        if (!isWindow(window) || !isSide(side)) {
            return BAD;
        }
        if (!isShownTile(window)) {
            return NO;
        }
        layTrees();
        return treeOf(window).neighbourTo(window, side);
    }

    public int told(int s, int what) {
        if (!isScreen(s) || what < 0 || what > 6) {
            return BAD;
        }
        Screen screen = screens[s];
        if (!screen.there) {
            return NO;
        }
        switch (what) {
            case 0:
            case 1:
                return screen.size[what];
            case 2:
                return screen.tree.leaves();
            case 3:
                return screen.tree.cuts();
            case 4:
            case 5:
                return screen.tree.leastOf(what - 4);
            default:
                return looseOnes(s);
        }
    }

    public int tab(int s, int i, int k) {
        if (!isScreen(s) || i < 0 || k < -2) {
            return BAD;
        }
        if (!screens[s].there) {
            return NO;
        }
        Tree tree = screens[s].tree;
        int leaf = tree.leafNumber(i);
        if (leaf < 0) {
            return NONE;
        }
        switch (k) {
            case -1:
                return tree.tabsIn(leaf);
            case -2:
                return tree.shownIn(leaf);
            default:
                return tree.tabIn(leaf, k);
        }
    }

    public int count(int what) {
        switch (what) {
            case 0:
                return screensThere();
            case 1:
                return windowsUnder(WINDOW);
            case 2:
                return windowsUnder(TILED);
            case 3:
                return windowsUnder(FLOATING);
            case 4:
                return focusRow.size() == 0 ? NONE : focusRow.get(0);
            case 5:
                return screensWithKept();
            default:
                return BAD;
        }
    }

    // ---- what arguments may be

    private static boolean isScreen(int s) {
        return s >= 0 && s < SCREENS;
    }

    private static boolean isScreenSize(int size) {
        return size >= LEAST_SCREEN && size <= MOST_SCREEN;
    }

    private static boolean isWindowSize(int size) {
        return size >= 1 && size <= MOST_WINDOW;
    }

    private static boolean isSide(int side) {
        return side >= 0 && side < SIDES;
    }

    private static boolean isAxis(int how) {
        return how == ACROSS || how == DOWN;
    }

    // Both ends are compared, as the absolute value of the least int is below 0.
    private static boolean isPlace(int place) {
        return place >= -MOST_PLACE && place <= MOST_PLACE;
    }

    private boolean isWindow(int window) {
        return window >= 0 && window < WINDOWS && windows[window].there;
    }

    private boolean isShownTile(int window) {
        return isWindow(window) && windows[window].isTiled() && treeOf(window).isShown(window);
    }

    private static int between(int low, int value, int high) {
        return Math.max(low, Math.min(value, high));
    }

    // ---- screens, and which windows are on them

    private int leastScreenBut(int but) {
        for (int s = 0; s < SCREENS; s++) {
            if (s != but && screens[s].there) {
                return s;
            }
        }
        return NOTHING;
    }

    private int screenAtHand() {
        for (int i = 0; i < focusRow.size(); i++) {
            Window window = windows[focusRow.get(i)];
            if (!window.isSticky()) {
                return window.screen;
            }
        }
        return leastScreenBut(NOTHING);
    }

    private int screensThere() {
        int there = 0;
        for (int s = 0; s < SCREENS; s++) {
            there += screens[s].there ? 1 : 0;
        }
        return there;
    }

    private int screensWithKept() {
        int kept = 0;
        for (int s = 0; s < SCREENS; s++) {
            kept += screens[s].kept.there ? 1 : 0;
        }
        return kept;
    }

    private int windowsUnder(int kind) {
        int found = 0;
        for (int i = 0; i < WINDOWS; i++) {
            found += windows[i].fallsUnder(kind) ? 1 : 0;
        }
        return found;
    }

    private int looseOnes(int s) {
        int found = 0;
        for (int i = 0; i < WINDOWS; i++) {
            found += windows[i].isLooseOn(s) ? 1 : 0;
        }
        return found;
    }

    private int windowsOn(int s) {
        int found = 0;
        for (int i = 0; i < WINDOWS; i++) {
            found += windows[i].isOn(s) ? 1 : 0;
        }
        return found;
    }

    private boolean looseOnesFit(int s, int[] size) {
        for (int i = 0; i < WINDOWS; i++) {
            if (windows[i].isLooseOn(s) && !windows[i].canBeWhole(size)) {
                return false;
            }
        }
        return true;
    }

    private void sendAll(int from, int to) {
        for (int i = 0; i < WINDOWS; i++) {
            if (windows[i].isOn(from)) {
                windows[i].sendTo(to, screens[to].size);
            }
        }
    }

    private Tree treeOf(int tiled) {
        return screens[windows[tiled].screen].tree;
    }

    /** Whoever asks for areas calls this first: between the calls no tree is laid. */
    private void layTrees() {
        for (int s = 0; s < SCREENS; s++) {
            screens[s].tree.lay(screens[s].size);
        }
    }

    private int startOf(int window, int axis) {
        return windows[window].isTiled()
                ? treeOf(window).startOf(window, axis) : windows[window].place[axis];
    }

    private int lengthOf(int window, int axis) {
        return windows[window].isTiled()
                ? treeOf(window).lengthOf(window, axis) : windows[window].least[axis];
    }

    // ---- opening and ending

    private int leastFreeNumber() {
        for (int i = 0; i < WINDOWS; i++) {
            if (!windows[i].there) {
                return i;
            }
        }
        return NOTHING;
    }

    /** Answers false if there is no room for the new window. */
    private boolean findRoom(int number, int s) {
        Window window = windows[number];
        if (window.kind == TILED) {
            window.screen = s;
            return tile(number, screens[s]);
        }
        if (window.kind == STICKY) {
            window.place[ACROSS] = FLOATING_STEP * number;
            window.place[DOWN] = FLOATING_STEP * number;
            return true;
        }
        if (!window.canBeWhole(screens[s].size)) {
            return false;
        }
        window.screen = s;
        int x = window.kind == DIALOG ? middleOf(window, ACROSS) : FLOATING_STEP * number;
        int y = window.kind == DIALOG ? middleOf(window, DOWN) : FLOATING_STEP * number;
        window.putAt(x, y, screens[s].size);
        return true;
    }

    private int middleOf(Window dialog, int axis) {
        int room = lengthOf(dialog.owner, axis) - dialog.least[axis];
        return startOf(dialog.owner, axis) + Math.floorDiv(room, 2);
    }

    private boolean tile(int number, Screen screen) {
        int leaf = leafAtHand(screen.tree);
        int axis = leaf >= 0 && screen.tree.isWide(leaf) ? ACROSS : DOWN;
        boolean found = tryCut(number, screen, leaf, axis)
                || tryCut(number, screen, leaf, 1 - axis)
                || tryTab(number, screen, leaf);
        if (found) {
            screen.tree.copyFrom(trial);
        }
        return found;
    }

    private int leafAtHand(Tree tree) {
        for (int i = 0; i < focusRow.size(); i++) {
            int leaf = tree.leafOf(focusRow.get(i));
            if (leaf >= 0) {
                return leaf;
            }
        }
        return tree.leafNumber(0);
    }

    private boolean tryCut(int number, Screen screen, int leaf, int axis) {
        if (leaf < 0) {
            return false;
        }
        int[] least = windows[number].least;
        trial.copyFrom(screen.tree);
        trial.cutLeaf(leaf, axis, false, number, least[ACROSS], least[DOWN]);
        return trial.fits(screen.size);
    }

    private boolean tryTab(int number, Screen screen, int leaf) {
        int[] least = windows[number].least;
        trial.copyFrom(screen.tree);
        trial.addTab(leaf, number, least[ACROSS], least[DOWN]);
        return trial.fits(screen.size);
    }

    private void end(int window) {
        forgetKeptWith(window);
        if (windows[window].isTiled()) {
            treeOf(window).takeOut(window);
        }
        focusRow.takeOut(window);
        stack.takeOut(window);
        windows[window].there = false;
    }

    // ---- focus

    private void giveFocus(int window) {
        focusRow.putFirst(window);
        if (windows[window].isTiled()) {
            treeOf(window).show(window);
        }
        raise(window, 0);
    }

    /** A dialog that is raised leaves the lowest place to the next one: so each has its turn, in order. */
    private void raise(int window, int depth) {
        if (depth >= WINDOWS || !isWindow(window)) {
            return;
        }
        if (windows[window].isFloating()) {
            stack.putLast(window);
        }
        int dialogs = dialogsOf(window);
        for (int i = 0; i < dialogs; i++) {
            raise(lowestDialogOf(window), depth + 1);
        }
    }

    private int dialogsOf(int window) {
        int found = 0;
        for (int i = 0; i < stack.size(); i++) {
            found += windows[stack.get(i)].owner == window ? 1 : 0;
        }
        return found;
    }

    private int lowestDialogOf(int window) {
        for (int i = 0; i < stack.size(); i++) {
            if (windows[stack.get(i)].owner == window) {
                return stack.get(i);
            }
        }
        return NOTHING;
    }

    private void reachFrom(int window) {
        for (int side = 0; side < SIDES; side++) {
            int next = treeOf(window).neighbourTo(window, side);
            if (isWindow(next) && distances[next] < 0) {
                distances[next] = distances[window] + 1;
                reached.append(next);
            }
        }
    }

    // ---- dragging, and windows that go with their owners

    /** Leaves in the trial tree what the other window's tree would be. */
    private void tryDrag(int window, int other, int side) {
        int[] least = windows[window].least;
        trial.copyFrom(treeOf(other));
        trial.takeOut(window);
        int leaf = trial.leafOf(other);
        if (side == AS_TAB) {
            trial.addTab(leaf, window, least[ACROSS], least[DOWN]);
        } else {
            trial.cutLeaf(leaf, axisOf(side), !isAfter(side), window, least[ACROSS], least[DOWN]);
        }
    }

    private static int axisOf(int side) {
        return side < 2 ? ACROSS : DOWN;
    }

    private static boolean isAfter(int side) {
        return side % 2 == 1;
    }

    private void gatherWithDialogs(int window) {
        for (int i = 0; i < WINDOWS; i++) {
            group[i] = i == window;
        }
        gatherDialogs();
    }

    /** Goes round as often as dialogs can be owned by dialogs, as an owner may have the greater number. */
    private void gatherDialogs() {
        for (int round = 0; round < WINDOWS; round++) {
            for (int i = 0; i < WINDOWS; i++) {
                if (isWindow(i) && isWindow(windows[i].owner) && group[windows[i].owner]) {
                    group[i] = true;
                }
            }
        }
    }

    private boolean groupCanBeWhole(int s) {
        for (int i = 0; i < WINDOWS; i++) {
            if (group[i] && windows[i].isFloating() && !windows[i].canBeWhole(screens[s].size)) {
                return false;
            }
        }
        return true;
    }

    private void sendGroup(int s) {
        for (int i = 0; i < WINDOWS; i++) {
            if (group[i]) {
                windows[i].sendTo(s, screens[s].size);
            }
        }
    }

    // ---- what is kept with a screen that went

    private void keepAll(int s) {
        Kept kept = screens[s].kept;
        kept.there = windowsOn(s) > 0;
        kept.tree.copyFrom(screens[s].tree);
        for (int i = 0; i < WINDOWS; i++) {
            kept.keepPlace(i, windows[i].isLooseOn(s), windows[i].place);
        }
    }

    private void forgetKeptWith(int window) {
        for (int s = 0; s < SCREENS; s++) {
            if (screens[s].kept.has(window)) {
                screens[s].kept.forget();
            }
        }
    }

    /** Answers how many windows came back; the dialogs that only came along are not among them. */
    private int bringBack(int s) {
        Kept kept = screens[s].kept;
        if (!kept.there || !kept.tree.fits(screens[s].size)) {
            return 0;
        }
        for (int i = 0; i < WINDOWS; i++) {
            group[i] = kept.has(i);
        }
        gatherDialogs();
        if (!groupCanBeWhole(s)) {
            return 0;
        }
        int came = 0;
        for (int i = 0; i < WINDOWS; i++) {
            if (kept.has(i)) {
                takeBack(i, kept);
                came++;
            }
        }
        sendGroup(s);
        screens[s].tree.copyFrom(kept.tree);
        forgetKeptWithGroup();
        return came;
    }

    private void takeBack(int window, Kept kept) {
        if (windows[window].isTiled()) {
            treeOf(window).takeOut(window);
        } else {
            windows[window].place[ACROSS] = kept.places[ACROSS][window];
            windows[window].place[DOWN] = kept.places[DOWN][window];
        }
    }

    private void forgetKeptWithGroup() {
        for (int i = 0; i < WINDOWS; i++) {
            if (group[i]) {
                forgetKeptWith(i);
            }
        }
    }

    /** Window numbers in an order, each at most once. */
    private static final class Row {
        private final int[] items = new int[WINDOWS];
        private int size = 0;

        int size() {
            return size;
        }

        int get(int i) {
            return i >= 0 && i < size ? items[i] : NOTHING;
        }

        int placeOf(int window) {
            for (int i = 0; i < size; i++) {
                if (items[i] == window) {
                    return i;
                }
            }
            return NOTHING;
        }

        void clear() {
            size = 0;
        }

        void append(int window) {
            if (size < WINDOWS) {
                items[size] = window;
                size++;
            }
        }

        void takeOut(int window) {
            int place = placeOf(window);
            if (place < 0) {
                return;
            }
            size--;
            for (int i = place; i < size; i++) {
                items[i] = items[i + 1];
            }
        }

        void putLast(int window) {
            takeOut(window);
            append(window);
        }

        void putFirst(int window) {
            putLast(window);
            for (int i = size - 1; i > 0; i--) {
                items[i] = items[i - 1];
            }
            items[0] = window;
        }

        void copyFrom(Row other) {
            System.arraycopy(other.items, 0, items, 0, WINDOWS);
            size = other.size;
        }
    }

    /** One of the ten numbers, whether a window has it now or not. */
    private static final class Window {
        final int[] least = new int[AXES];
        final int[] place = new int[AXES];
        boolean there = false;
        int kind = WINDOW;
        int owner = NOTHING;
        int screen = NOTHING;

        /** The number stays free until the window has found its room. */
        void prepare(int newKind, int w, int h, int newOwner) {
            kind = newKind;
            least[ACROSS] = w;
            least[DOWN] = h;
            owner = newOwner;
            screen = NOTHING;
        }

        boolean isTiled() {
            return there && kind == TILED;
        }

        boolean isFloating() {
            return there && kind != TILED;
        }

        boolean isSticky() {
            return there && kind == STICKY;
        }

        /** Sticky ones are on no screen more than on another. */
        boolean isOn(int s) {
            return there && kind != STICKY && screen == s;
        }

        boolean isLooseOn(int s) {
            return isOn(s) && kind != TILED;
        }

        boolean fallsUnder(int asked) {
            boolean byKindAbove = asked == WINDOW || asked == FLOATING && kind != TILED;
            return there && (kind == asked || byKindAbove);
        }

        boolean canBeWhole(int[] size) {
            return least[ACROSS] <= size[ACROSS] && least[DOWN] <= size[DOWN];
        }

        private int nearest(int wanted, int axis, int[] size) {
            return between(0, wanted, size[axis] - least[axis]);
        }

        void putAt(int x, int y, int[] size) {
            place[ACROSS] = nearest(x, ACROSS, size);
            place[DOWN] = nearest(y, DOWN, size);
        }

        void sendTo(int s, int[] size) {
            screen = s;
            if (isFloating()) {
                putAt(place[ACROSS], place[DOWN], size);
            }
        }

        boolean coversPoint(int x, int y, int s, int[] size) {
            boolean lies = isLooseOn(s) || isSticky() && canBeWhole(size);
            return lies && spans(x, ACROSS, size) && spans(y, DOWN, size);
        }

        private boolean spans(int point, int axis, int[] size) {
            int start = nearest(place[axis], axis, size);
            return point >= start && point < start + least[axis];
        }
    }

    private static final class Screen {
        final int[] size = new int[AXES];
        final Tree tree = new Tree();
        final Kept kept = new Kept();
        boolean there = false;

        void setSize(int[] asked) {
            size[ACROSS] = asked[ACROSS];
            size[DOWN] = asked[DOWN];
        }
    }

    /** What a screen had when it went. */
    private static final class Kept {
        final Tree tree = new Tree();
        final int[][] places = new int[AXES][WINDOWS];
        private final boolean[] placed = new boolean[WINDOWS];
        boolean there = false;

        boolean has(int window) {
            return there && (placed[window] || tree.leafOf(window) >= 0);
        }

        void keepPlace(int window, boolean wasPlaced, int[] place) {
            placed[window] = wasPlaced;
            places[ACROSS][window] = place[ACROSS];
            places[DOWN][window] = place[DOWN];
        }

        void forget() {
            there = false;
        }
    }

    /**
     * A tree of cuts and leaves. It has its tabs' least sizes itself, so that a copy can be tried and
     * a kept one measured without the desk.
     */
    private static final class Tree {
        /** Ten leaves with a tab each, and the cuts between them. */
        private static final int NODES = 2 * WINDOWS - 1;
        /** A node's form is ACROSS or DOWN for a cut, or one of these. */
        private static final int LEAF = 2, UNUSED = 3;

        /** All tabs; those of one leaf stand in it in their order. */
        private final Row tabs = new Row();
        /** The leaf of each window. */
        private final int[] homes = new int[WINDOWS];
        private final int[][] tabLeast = new int[AXES][WINDOWS];
        private final int[] forms = new int[NODES];
        private final int[] shares = new int[NODES];
        private final int[] firsts = new int[NODES];
        private final int[] seconds = new int[NODES];
        private final int[] aboves = new int[NODES];
        private final int[] shown = new int[NODES];
        private int root = NOTHING;

        // Found anew from the fields above: the nodes, each ahead of those below it, and their sizes.
        private final int[] order = new int[NODES];
        private final int[] waiting = new int[NODES];
        private int nodes = 0;
        private final int[][] least = new int[AXES][NODES];
        private final int[][] starts = new int[AXES][NODES];
        private final int[][] lengths = new int[AXES][NODES];

        Tree() {
            clear();
        }

        void clear() {
            tabs.clear();
            Arrays.fill(homes, NOTHING);
            Arrays.fill(forms, UNUSED);
            root = NOTHING;
            nodes = 0;
        }

        void copyFrom(Tree other) {
            tabs.copyFrom(other.tabs);
            System.arraycopy(other.homes, 0, homes, 0, WINDOWS);
            for (int axis = 0; axis < AXES; axis++) {
                System.arraycopy(other.tabLeast[axis], 0, tabLeast[axis], 0, WINDOWS);
            }
            System.arraycopy(other.forms, 0, forms, 0, NODES);
            System.arraycopy(other.shares, 0, shares, 0, NODES);
            System.arraycopy(other.firsts, 0, firsts, 0, NODES);
            System.arraycopy(other.seconds, 0, seconds, 0, NODES);
            System.arraycopy(other.aboves, 0, aboves, 0, NODES);
            System.arraycopy(other.shown, 0, shown, 0, NODES);
            root = other.root;
            settle();
        }

        // ---- what it has

        int leafOf(int window) {
            return window >= 0 && window < WINDOWS ? homes[window] : NOTHING;
        }

        boolean isShown(int window) {
            int leaf = leafOf(window);
            return leaf >= 0 && shown[leaf] == window;
        }

        int leaves() {
            return (nodes + 1) / 2;
        }

        int cuts() {
            return nodes / 2;
        }

        /** Leaf i in the order of leaves. */
        int leafNumber(int i) {
            int seen = 0;
            for (int k = 0; k < nodes; k++) {
                if (forms[order[k]] == LEAF) {
                    if (seen == i) {
                        return order[k];
                    }
                    seen++;
                }
            }
            return NOTHING;
        }

        int shownIn(int leaf) {
            return shown[leaf];
        }

        int tabsIn(int leaf) {
            int found = 0;
            for (int i = 0; i < tabs.size(); i++) {
                found += homes[tabs.get(i)] == leaf ? 1 : 0;
            }
            return found;
        }

        int tabIn(int leaf, int k) {
            int seen = 0;
            for (int i = 0; i < tabs.size(); i++) {
                if (homes[tabs.get(i)] == leaf) {
                    if (seen == k) {
                        return tabs.get(i);
                    }
                    seen++;
                }
            }
            return NONE;
        }

        int leastOf(int axis) {
            return root < 0 ? 0 : least[axis][root];
        }

        boolean fits(int[] size) {
            return leastOf(ACROSS) <= size[ACROSS] && leastOf(DOWN) <= size[DOWN];
        }

        int nearestCut(int window, int axis) {
            int node = leafOf(window);
            for (int i = 0; i < NODES && node >= 0; i++) {
                if (forms[node] == axis) {
                    return node;
                }
                node = aboves[node];
            }
            return NOTHING;
        }

        // ---- changes

        int changeShare(int cut, int v) {
            int before = shares[cut];
            shares[cut] = v;
            return before;
        }

        void show(int window) {
            int leaf = leafOf(window);
            if (leaf >= 0) {
                shown[leaf] = window;
            }
        }

        /** A last tab of the leaf; of a new one, if there is no leaf as the tree is empty. */
        void addTab(int leaf, int window, int w, int h) {
            int home = leaf;
            if (leaf < 0) {
                home = newNode(LEAF);
                root = home;
                aboves[home] = NOTHING;
                shown[home] = window;
            }
            enter(home, window, w, h);
            settle();
        }

        /** Takes the other tree's tabs, in order of leaves and tabs, to the first leaf. */
        void addAllTabs(Tree other) {
            for (int i = 0; i < other.leaves(); i++) {
                int leaf = other.leafNumber(i);
                for (int k = 0; k < other.tabsIn(leaf); k++) {
                    int window = other.tabIn(leaf, k);
                    addTab(leafNumber(0), window, other.tabLeast[ACROSS][window], other.tabLeast[DOWN][window]);
                }
            }
        }

        void cutLeaf(int leaf, int axis, boolean newIsFirst, int window, int w, int h) {
            int cut = newNode(axis);
            int fresh = newNode(LEAF);
            putInPlaceOf(leaf, cut);
            shares[cut] = EVEN_SHARE;
            firsts[cut] = newIsFirst ? fresh : leaf;
            seconds[cut] = newIsFirst ? leaf : fresh;
            aboves[leaf] = cut;
            aboves[fresh] = cut;
            shown[fresh] = window;
            enter(fresh, window, w, h);
            settle();
        }

        void takeOut(int window) {
            int leaf = leafOf(window);
            if (leaf < 0) {
                return;
            }
            if (shown[leaf] == window) {
                shown[leaf] = nextShown(window, leaf);
            }
            tabs.takeOut(window);
            homes[window] = NOTHING;
            if (shown[leaf] < 0) {
                dropLeaf(leaf);
            }
            settle();
        }

        /** The tab behind the one that goes, or else the last one. */
        private int nextShown(int going, int leaf) {
            int next = NOTHING;
            boolean behind = false;
            for (int i = 0; i < tabs.size(); i++) {
                int tab = tabs.get(i);
                if (tab == going) {
                    behind = true;
                } else if (homes[tab] == leaf) {
                    next = tab;
                    if (behind) {
                        return next;
                    }
                }
            }
            return next;
        }

        private void dropLeaf(int leaf) {
            int cut = aboves[leaf];
            forms[leaf] = UNUSED;
            if (cut < 0) {
                root = NOTHING;
                return;
            }
            putInPlaceOf(cut, firsts[cut] == leaf ? seconds[cut] : firsts[cut]);
            forms[cut] = UNUSED;
        }

        private void putInPlaceOf(int old, int fresh) {
            int above = aboves[old];
            aboves[fresh] = above;
            if (above < 0) {
                root = fresh;
            } else if (firsts[above] == old) {
                firsts[above] = fresh;
            } else {
                seconds[above] = fresh;
            }
        }

        private void enter(int leaf, int window, int w, int h) {
            tabs.append(window);
            homes[window] = leaf;
            tabLeast[ACROSS][window] = w;
            tabLeast[DOWN][window] = h;
        }

        /** There is always one: each leaf has one of the ten windows. */
        private int newNode(int form) {
            int node = 0;
            while (node < NODES - 1 && forms[node] != UNUSED) {
                node++;
            }
            forms[node] = form;
            return node;
        }

        // ---- sizes

        private void settle() {
            listNodes();
            for (int axis = 0; axis < AXES; axis++) {
                measureLeaves(axis);
                measureCuts(axis);
            }
        }

        private void listNodes() {
            nodes = 0;
            int left = 0;
            if (root >= 0) {
                waiting[left] = root;
                left++;
            }
            for (int i = 0; i < NODES && left > 0; i++) {
                left--;
                int node = waiting[left];
                order[nodes] = node;
                nodes++;
                if (forms[node] != LEAF) {
                    waiting[left] = seconds[node];
                    waiting[left + 1] = firsts[node];
                    left += 2;
                }
            }
        }

        private void measureLeaves(int axis) {
            Arrays.fill(least[axis], 0);
            for (int i = 0; i < tabs.size(); i++) {
                int tab = tabs.get(i);
                int leaf = homes[tab];
                least[axis][leaf] = Math.max(least[axis][leaf], tabLeast[axis][tab]);
            }
        }

        /** From the last node to the root, so that both trees of a cut are measured ahead of it. */
        private void measureCuts(int axis) {
            for (int i = nodes - 1; i >= 0; i--) {
                int node = order[i];
                if (forms[node] != LEAF) {
                    int first = least[axis][firsts[node]];
                    int second = least[axis][seconds[node]];
                    least[axis][node] = forms[node] == axis ? first + second : Math.max(first, second);
                }
            }
        }

        void lay(int[] size) {
            for (int axis = 0; axis < AXES && root >= 0; axis++) {
                starts[axis][root] = 0;
                lengths[axis][root] = size[axis];
            }
            for (int i = 0; i < nodes; i++) {
                if (forms[order[i]] != LEAF) {
                    divide(order[i]);
                }
            }
        }

        private void divide(int cut) {
            int first = firsts[cut];
            int second = seconds[cut];
            for (int axis = 0; axis < AXES; axis++) {
                int whole = lengths[axis][cut];
                boolean along = forms[cut] == axis;
                int part = along ? firstPart(cut, axis) : whole;
                starts[axis][first] = starts[axis][cut];
                lengths[axis][first] = part;
                starts[axis][second] = along ? starts[axis][cut] + part : starts[axis][cut];
                lengths[axis][second] = along ? whole - part : whole;
            }
        }

        private int firstPart(int cut, int axis) {
            int whole = lengths[axis][cut];
            int most = whole - least[axis][seconds[cut]];
            return between(least[axis][firsts[cut]], whole * shares[cut] / WHOLE_SHARE, most);
        }

        // ---- areas, as they were last laid

        boolean isWide(int leaf) {
            return lengths[ACROSS][leaf] >= lengths[DOWN][leaf];
        }

        int startOf(int window, int axis) {
            int leaf = leafOf(window);
            return leaf < 0 ? 0 : starts[axis][leaf];
        }

        int lengthOf(int window, int axis) {
            int leaf = leafOf(window);
            return leaf < 0 ? 0 : lengths[axis][leaf];
        }

        private int endOf(int window, int axis) {
            return startOf(window, axis) + lengthOf(window, axis);
        }

        int shownAt(int x, int y) {
            for (int i = 0; i < WINDOWS; i++) {
                if (isShown(i) && spans(i, x, ACROSS) && spans(i, y, DOWN)) {
                    return i;
                }
            }
            return NONE;
        }

        private boolean spans(int window, int point, int axis) {
            return point >= startOf(window, axis) && point < endOf(window, axis);
        }

        int neighbourTo(int window, int side) {
            int best = NONE;
            int most = 0;
            for (int i = 0; i < WINDOWS; i++) {
                boolean near = isShown(i) && meets(window, i, side);
                int common = near ? commonBorder(window, i, 1 - axisOf(side)) : 0;
                if (common > most) {
                    best = i;
                    most = common;
                }
            }
            return best;
        }

        private boolean meets(int window, int other, int side) {
            int axis = axisOf(side);
            return isAfter(side) ? startOf(other, axis) == endOf(window, axis)
                    : endOf(other, axis) == startOf(window, axis);
        }

        private int commonBorder(int window, int other, int axis) {
            int start = Math.max(startOf(window, axis), startOf(other, axis));
            return Math.min(endOf(window, axis), endOf(other, axis)) - start;
        }
    }
}
