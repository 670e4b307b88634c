import java.util.Arrays;

/** A view in cells that shows itself by parts to visitors of several kinds. */
public final class VeilsOfTheView {
    public static final int NONE = -1;

    private static final int FINE = 0;
    private static final int BAD = -2;
    private static final int OTHER = -3;
    private static final int NOTHING = -4;
    private static final int STUCK = -5;
    private static final int FULL = -6;

    private static final int VISITOR = 0;
    private static final int ASKER = 1;
    private static final int IDLER = 2;
    private static final int ARTIST = 3;
    private static final int DRIVER = 4;
    private static final int CHILD = 5;
    private static final int KINDS = 6;

    /** SHYNESS, VEIL, WANT and OPEN all end here. */
    private static final int TOP = 20;
    private static final int THINGS = 10;
    private static final int A_MOST = 9;
    private static final int DAY_MOST = 999;
    private static final int CELLS_FIRST = 12;
    private static final int CELLS_MOST = 24;
    private static final int VISITORS_MOST = 8;
    private static final int VEIL_FIRST = 4;

    private static final int SHELVES = 8;
    private static final int SORTS = 5;
    private static final int ELEMENTS_MOST = 40;
    private static final int TWOS_MOST = 20;
    private static final int VISITOR_HELD = 10;

    private static final int TAPE_MOST = 250;
    private static final int LETTERS = 256;
    private static final int DIGITS_MOST = 3;
    private static final int FAULT_FIRST = -20;

    private static final int ORDERED_MOST = 6;
    private static final int TURNS_MOST = 4;
    private static final int VISITS_MOST = 60;
    private static final int DAYS_MOST = 60;
    private static final int REFUSAL_SORTS = 5;
    private static final int REFUSALS_TOLD = 12;

    private final Land now;
    private final Land kept;
    /** What is tried out without being so: taken from now ahead of each use. */
    private final Land trial;
    private final Shelf[] shelves;
    private final Tape tape;
    private final Orders orders;
    private final int[] refusals;
    private boolean isKept;

    public VeilsOfTheView() {
        now = new Land();
        kept = new Land();
        trial = new Land();
        shelves = new Shelf[SHELVES];
        for (int s = 0; s < SHELVES; s++) {
            shelves[s] = new Shelf();
        }
        tape = new Tape();
        orders = new Orders();
        refusals = new int[REFUSAL_SORTS];
        isKept = false;
    }

    public int row(int s, int sort, int n) {
        if (!isShelf(s) || !isWithin(sort, 0, SORTS - 1) || !isWithin(n, 0, ELEMENTS_MOST)) {
            return refuse(BAD);
        }
        shelves[s].holdRow(sort, n);
        return 1;
    }

    public int set(int s, int i, long v) {
        int fault = rowFault(s, true, 0);
        if (fault == FINE && !isWithin(i, 0, shelves[s].size - 1)) {
            fault = BAD;
        }
        if (fault != FINE) {
            return refuse(fault);
        }
        shelves[s].put(i, v);
        return 1;
    }

    public int copy(int p, int q, int i, int j, int n) {
        int fault = copyFault(p, q);
        if (fault == FINE && !(shelves[p].hasPart(i, n) && shelves[q].hasPart(j, n))) {
            fault = BAD;
        }
        if (fault != FINE) {
            return refuse(fault);
        }
        System.arraycopy(shelves[p].elements, i, shelves[q].elements, j, n);
        return n;
    }

    public long element(int s, int i) {
        if (!isShelf(s) || !shelves[s].holdsRow() || !isWithin(i, 0, shelves[s].size - 1)) {
            return 0;
        }
        return shelves[s].elements[i];
    }

    public int holds(int s) {
        return isShelf(s) ? shelves[s].held : NONE;
    }

    public int show(int s, int visitor) {
        if (!isShelf(s) || !(visitor == NONE || now.hasVisitor(visitor))) {
            return refuse(BAD);
        }
        shelves[s].held = visitor == NONE ? NONE : VISITOR_HELD + visitor;
        return 1;
    }

    public int says(int s, int kind) {
        if (!isShelf(s) || !isKind(kind)) {
            return refuse(BAD);
        }
        Shelf shelf = shelves[s];
        if (shelf.holdsRow()) {
            return refuse(OTHER);
        }
        if (!shelf.holdsVisitor()) {
            return refuse(NOTHING);
        }
        int visitor = shelf.held - VISITOR_HELD;
        if (!now.hasVisitor(visitor) || !isUnder(now.kind[visitor], kind)) {
            return refuse(OTHER);
        }
        return kind == VISITOR ? now.want[visitor] : now.openTo(visitor, 1 << visitor, now.veil);
    }

    public int paves(int n) {
        if (!isWithin(n, now.cells, CELLS_MOST)) {
            return refuse(BAD);
        }
        int ahead = now.cells;
        now.paveTo(n);
        return ahead;
    }

    public int visitor(int kind, int a, int want) {
        if (!isKind(kind) || !isWithin(a, 0, A_MOST) || !isLevel(want)) {
            return refuse(BAD);
        }
        if (!now.hasRoom()) {
            return refuse(FULL);
        }
        now.let(kind, a, want);
        return now.visitors - 1;
    }

    public int wants(int visitor, int v) {
        if (!now.hasVisitor(visitor) || !isLevel(v)) {
            return refuse(BAD);
        }
        int ahead = now.want[visitor];
        now.want[visitor] = v;
        return ahead;
    }

    public int mark(int cell, int what, int v) {
        if (!now.hasCell(cell) || !isOneOfTwo(what)
                || !isWithin(v, 0, what == 0 ? TOP : THINGS - 1)) {
            return refuse(BAD);
        }
        int ahead = what == 0 ? now.shyness[cell] : now.thing[cell];
        if (what == 0) {
            now.makeShy(cell, v);
        } else {
            now.thing[cell] = v;
        }
        return ahead;
    }

    public int tell(int what, int v) {
        if (!isOneOfTwo(what) || !isWithin(v, 0, what == 0 ? TOP : DAY_MOST)) {
            return refuse(BAD);
        }
        int ahead = what == 0 ? now.veil : now.day;
        if (what == 0) {
            now.veil = v;
        } else {
            now.day = v;
        }
        return ahead;
    }

    public int feed(int letter) {
        if (!isWithin(letter, 0, LETTERS - 1)) {
            return refuse(BAD);
        }
        if (!tape.hasRoom()) {
            return refuse(FULL);
        }
        tape.add(letter);
        return tape.size;
    }

    public int wipe() {
        int ahead = tape.size;
        tape.size = 0;
        return ahead;
    }

    public int view() {
        trial.takeFrom(now);
        int answer = tape.readInto(trial);
        tape.size = 0;
        if (answer < 0) {
            refuse(BAD);
        } else {
            now.takeFrom(trial);
        }
        return answer;
    }

    public int visitorOf(int visitor, int what) {
        if (!now.hasVisitor(visitor)) {
            return refuse(BAD);
        }
        switch (what) {
            case 0:
                return now.kind[visitor];
            case 1:
                return now.a[visitor];
            case 2:
                return now.want[visitor];
            case 3:
                return now.seen[visitor];
            case 4:
                return Integer.bitCount(now.seen[visitor]);
            default:
                return refuse(BAD);
        }
    }

    public int cellOf(int cell, int what) {
        if (!now.hasCell(cell)) {
            return refuse(BAD);
        }
        switch (what) {
            case 0:
                return now.shyness[cell];
            case 1:
                return now.thing[cell];
            case 2:
                return now.seenBy(cell);
            default:
                return refuse(BAD);
        }
    }

    public int open(int visitor, int group) {
        if (!now.hasInGroup(visitor, group)) {
            return refuse(BAD);
        }
        return now.openTo(visitor, group, now.veil);
    }

    public int shown(int visitor, int group) {
        if (!now.hasInGroup(visitor, group)) {
            return refuse(BAD);
        }
        return now.shownTo(visitor, group, now.veil);
    }

    public int known(int group) {
        if (!now.hasGroup(group)) {
            return refuse(BAD);
        }
        return now.knownBy(group);
    }

    public int fresh(int group) {
        if (!now.hasGroup(group)) {
            return refuse(BAD);
        }
        return now.newBy(group);
    }

    public int veilThen(int group) {
        if (!now.canVisit(group)) {
            return refuse(BAD);
        }
        return now.veilBehind(group, now.veil);
    }

    public int send(int k) {
        if (!isWithin(k, 1, VISITORS_MOST)) {
            return refuse(BAD);
        }
        int found = NONE;
        int most = NONE;
        for (int group = 0; group <= now.all(); group++) {
            if (Integer.bitCount(group) == k) {
                int cells = Integer.bitCount(now.newBy(group));
                if (cells > most) {
                    most = cells;
                    found = group;
                }
            }
        }
        return found;
    }

    public int fewest(int told) {
        if (!now.hasCells(told)) {
            return refuse(BAD);
        }
        int found = NONE;
        int least = VISITORS_MOST + 1;
        for (int group = 0; group <= now.all(); group++) {
            int size = Integer.bitCount(group);
            if (size < least && (told & ~now.shownToAny(group, now.veil)) == 0) {
                least = size;
                found = group;
            }
        }
        return found;
    }

    public int order(int group, int i) {
        if (!now.hasGroup(group) || Integer.bitCount(group) > ORDERED_MOST || i < NONE) {
            return refuse(BAD);
        }
        if (i >= Integer.bitCount(group)) {
            return refuse(STUCK);
        }
        orders.seek(now, group);
        return i == NONE ? orders.most : orders.best[i];
    }

    public int how(int visitor, int cell) {
        if (!now.hasVisitor(visitor) || !now.hasCell(cell)) {
            return refuse(BAD);
        }
        for (int want = 0; want <= TOP; want++) {
            if (isIn(cell, now.shownIfWanting(visitor, want))) {
                return want;
            }
        }
        return NONE;
    }

    public int lifted(int visitor, int cell, int what) {
        if (!now.hasVisitor(visitor) || !now.hasCell(cell) || !isOneOfTwo(what)) {
            return refuse(BAD);
        }
        int found = NONE;
        for (int veil = 0; veil <= TOP; veil++) {
            boolean counts = found == NONE || what == 1;
            if (counts && isIn(cell, now.shownAlone(visitor, veil))) {
                found = veil;
            }
        }
        return found;
    }

    public int register(int s, int n, int cell, int what) {
        boolean told = isWithin(n, 0, TWOS_MOST) && now.hasCell(cell) && isWithin(what, 0, 2);
        int fault = rowFault(s, told, told ? 2 * n : 0);
        if (fault == FINE && !tellsVisitors(shelves[s], n)) {
            fault = STUCK;
        }
        if (fault != FINE) {
            return refuse(fault);
        }
        int least = 0;
        int greatest = TOP;
        for (int i = 0; i < n; i++) {
            int visitor = (int) shelves[s].elements[2 * i];
            int open = now.openTo(visitor, 1 << visitor, now.veil);
            if (isIn(cell, shelves[s].elements[2 * i + 1])) {
                greatest = Math.min(greatest, open);
            } else {
                least = Math.max(least, open + 1);
            }
        }
        if (what == 2) {
            return Math.max(0, greatest - least + 1);
        }
        if (least > greatest) {
            return NONE;
        }
        return what == 0 ? least : greatest;
    }

    public int fits(int s, int n, int visitor, int what) {
        boolean told = isWithin(n, 0, TWOS_MOST) && now.hasVisitor(visitor) && isOneOfTwo(what);
        int fault = rowFault(s, told, told ? 2 * n : 0);
        if (fault == FINE && !tellsVeils(shelves[s], n)) {
            fault = STUCK;
        }
        if (fault != FINE) {
            return refuse(fault);
        }
        return what == 0 ? kindsThatFit(shelves[s], n, visitor) : wantsThatFit(shelves[s], n, visitor);
    }

    public int together() {
        int lacking = 0;
        for (int cell = 0; cell < now.cells; cell++) {
            lacking = Math.max(lacking, now.visitors - Integer.bitCount(now.seenBy(cell)));
        }
        // Any k know a cell just if fewer than k lack it.
        return lacking < now.visitors ? lacking + 1 : NONE;
    }

    public int needed() {
        int found = 0;
        int all = now.all();
        for (int visitor = 0; visitor < now.visitors; visitor++) {
            if (now.knownBy(all & ~(1 << visitor)) != now.knownBy(all)) {
                found |= 1 << visitor;
            }
        }
        return found;
    }

    public int picture(int s, int n, int visitor) {
        boolean told = isWithin(n, 0, CELLS_MOST) && now.hasVisitor(visitor);
        int fault = rowFault(s, told, n);
        if (fault != FINE) {
            return refuse(fault);
        }
        int shifts = 0;
        for (int shift = 0; shift + n <= now.cells; shift++) {
            if (isSoFrom(shift, shelves[s], n, now.seen[visitor])) {
                shifts |= 1 << shift;
            }
        }
        return shifts;
    }

    public int lift(int n, int what) {
        if (!isWithin(n, 0, TURNS_MOST) || !isOneOfTwo(what)) {
            return refuse(BAD);
        }
        int whom = NONE;
        int least = TOP + 1;
        for (int visitor = 0; visitor < now.visitors && n > 0; visitor++) {
            int veil = veilIfFirst(visitor, n);
            if (veil < least) {
                least = veil;
                whom = visitor;
            }
        }
        if (what == 1) {
            return whom;
        }
        return whom == NONE ? now.veil : least;
    }

    public int chance(int visitor, int cell) {
        if (!now.hasVisitor(visitor) || !now.hasCell(cell)) {
            return refuse(BAD);
        }
        int wants = 0;
        for (int want = 0; want <= TOP; want++) {
            if (isIn(cell, now.shownIfWanting(visitor, want))) {
                wants++;
            }
        }
        return 1000000 * wants / (TOP + 1);
    }

    public int mean(int visitor) {
        if (!now.hasVisitor(visitor)) {
            return refuse(BAD);
        }
        int cells = 0;
        for (int want = 0; want <= TOP; want++) {
            cells += Integer.bitCount(now.shownIfWanting(visitor, want));
        }
        return 1000 * cells / (TOP + 1);
    }

    public int hidden() {
        int shown = 0;
        for (int visitor = 0; visitor < now.visitors; visitor++) {
            shown |= now.shownAlone(visitor, now.veil);
        }
        return now.allCells() & ~shown;
    }

    public int best(int what) {
        if (!isOneOfTwo(what)) {
            return refuse(BAD);
        }
        if (now.visitors == 0) {
            return refuse(STUCK);
        }
        int found = NONE;
        int most = NONE;
        for (int visitor = 0; visitor < now.visitors; visitor++) {
            int cells = Integer.bitCount(now.shownAlone(visitor, now.veil));
            if (cells > most) {
                most = cells;
                found = visitor;
            }
        }
        return what == 0 ? found : most;
    }

    public int mate(int visitor) {
        if (!now.hasVisitor(visitor)) {
            return refuse(BAD);
        }
        int found = NONE;
        int most = NONE;
        for (int other = 0; other < now.visitors; other++) {
            if (other != visitor) {
                int two = 1 << visitor | 1 << other;
                int cells = Integer.bitCount(now.shownTo(visitor, two, now.veil));
                if (cells > most) {
                    most = cells;
                    found = other;
                }
            }
        }
        return found;
    }

    public int rarest(int what) {
        if (!isOneOfTwo(what)) {
            return refuse(BAD);
        }
        int found = 0;
        int count = Integer.bitCount(now.seenBy(0));
        for (int cell = 1; cell < now.cells; cell++) {
            int visitors = Integer.bitCount(now.seenBy(cell));
            if (what == 0 ? visitors < count : visitors > count) {
                count = visitors;
                found = cell;
            }
        }
        return found;
    }

    public int both(int visitor, int other) {
        if (!now.hasVisitor(visitor) || !now.hasVisitor(other) || visitor == other) {
            return refuse(BAD);
        }
        return Integer.bitCount(now.seen[visitor] & now.seen[other]);
    }

    public int visitsTill(int visitor, int cell) {
        if (!now.hasVisitor(visitor) || !now.hasCell(cell)) {
            return refuse(BAD);
        }
        trial.takeFrom(now);
        for (int visits = 0; visits <= VISITS_MOST; visits++) {
            if (isIn(cell, trial.seen[visitor])) {
                return visits;
            }
            trial.goTogether(1 << visitor);
        }
        return NONE;
    }

    public int who(int cell) {
        if (!now.hasCell(cell)) {
            return refuse(BAD);
        }
        int found = 0;
        for (int visitor = 0; visitor < now.visitors; visitor++) {
            if (isIn(cell, now.shownAlone(visitor, now.veil))) {
                found |= 1 << visitor;
            }
        }
        return found;
    }

    public int company(int visitor) {
        if (!now.hasVisitor(visitor)) {
            return refuse(BAD);
        }
        int found = NONE;
        int most = NONE;
        for (int group = 1; group <= now.all(); group++) {
            if (isIn(visitor, group)) {
                int cells = Integer.bitCount(now.shownTo(visitor, group, now.veil));
                if (cells > most) {
                    most = cells;
                    found = group;
                }
            }
        }
        return found;
    }

    public int spoiler(int group) {
        if (!now.hasGroup(group)) {
            return refuse(BAD);
        }
        int found = NONE;
        int most = NONE;
        for (int visitor = 0; visitor < now.visitors; visitor++) {
            if (isIn(visitor, group)) {
                int rest = group & ~(1 << visitor);
                int cells = Integer.bitCount(now.shownToAny(rest, now.veil));
                if (cells > most) {
                    most = cells;
                    found = visitor;
                }
            }
        }
        return found;
    }

    public int split(int group, int what) {
        if (!now.hasGroup(group) || !isOneOfTwo(what)) {
            return refuse(BAD);
        }
        int found = NONE;
        int most = NONE;
        for (int first = 0; first <= group; first++) {
            if ((first & ~group) == 0) {
                int cells = Integer.bitCount(knownBehindTwo(first, group & ~first));
                if (cells > most) {
                    most = cells;
                    found = first;
                }
            }
        }
        return what == 0 ? found : most;
    }

    public int couple() {
        int found = NONE;
        int most = NONE;
        for (int one = 0; one < now.visitors; one++) {
            for (int other = one + 1; other < now.visitors; other++) {
                int cells = Integer.bitCount(now.seen[one] | now.seen[other]);
                if (cells > most) {
                    most = cells;
                    found = 10 * one + other;
                }
            }
        }
        return found;
    }

    public int secret(int cell) {
        if (!now.hasCell(cell)) {
            return refuse(BAD);
        }
        int found = NONE;
        for (int visitor = 0; visitor < now.visitors; visitor++) {
            if (now.seenBy(cell) == 1 << visitor) {
                found = visitor;
            }
        }
        return found;
    }

    public int rank(int i) {
        if (!now.hasVisitor(i)) {
            return refuse(BAD);
        }
        int found = NONE;
        for (int visitor = 0; visitor < now.visitors; visitor++) {
            if (placeOf(visitor) == i) {
                found = visitor;
            }
        }
        return found;
    }

    public int blind(int veil) {
        if (!isLevel(veil)) {
            return refuse(BAD);
        }
        int count = 0;
        for (int visitor = 0; visitor < now.visitors; visitor++) {
            if (now.shownAlone(visitor, veil) == 0) {
                count++;
            }
        }
        return count;
    }

    public int shyest(int told) {
        if (!now.hasCells(told)) {
            return refuse(BAD);
        }
        int found = NONE;
        int greatest = NONE;
        for (int cell = 0; cell < now.cells; cell++) {
            if (isIn(cell, told) && now.shyness[cell] > greatest) {
                greatest = now.shyness[cell];
                found = cell;
            }
        }
        return found;
    }

    public int alike(int visitor, int other) {
        if (!now.hasVisitor(visitor) || !now.hasVisitor(other)) {
            return refuse(BAD);
        }
        return now.shownAlone(visitor, now.veil) == now.shownAlone(other, now.veil) ? 1 : 0;
    }

    public int ofKind(int kind) {
        if (!isKind(kind)) {
            return refuse(BAD);
        }
        int count = 0;
        for (int visitor = 0; visitor < now.visitors; visitor++) {
            if (now.kind[visitor] == kind) {
                count++;
            }
        }
        return count;
    }

    public int judge(int s, int n) {
        int fault = rowFault(s, isWithin(n, 0, ELEMENTS_MOST), n);
        if (fault != FINE) {
            return refuse(fault);
        }
        return firstWrong(shelves[s], n);
    }

    public int behind(int s, int n, int what) {
        int fault = rowFault(s, isWithin(n, 0, ELEMENTS_MOST) && isOneOfTwo(what), n);
        if (fault == FINE && firstWrong(shelves[s], n) != NONE) {
            fault = STUCK;
        }
        if (fault != FINE) {
            return refuse(fault);
        }
        trial.takeFrom(now);
        for (int i = 0; i < n; i++) {
            trial.goTogether((int) shelves[s].elements[i]);
        }
        return what == 0 ? trial.knownBy(trial.all()) : trial.veil;
    }

    public int visit(int group) {
        if (!now.canVisit(group)) {
            return refuse(BAD);
        }
        int cells = now.newBy(group);
        now.goTogether(group);
        return cells;
    }

    public int days(int n) {
        if (!isWithin(n, 1, DAYS_MOST)) {
            return refuse(BAD);
        }
        int cells = 0;
        for (int i = 0; i < n; i++) {
            cells += now.dayByDraws();
        }
        return cells;
    }

    public int seed(int v) {
        int ahead = now.seed;
        now.seed = v;
        return ahead;
    }

    public int image() {
        kept.takeFrom(now);
        isKept = true;
        return 1;
    }

    public int back() {
        if (!isKept) {
            return refuse(STUCK);
        }
        now.takeFrom(kept);
        for (int s = 0; s < SHELVES; s++) {
            Shelf shelf = shelves[s];
            if (shelf.holdsVisitor() && !now.hasVisitor(shelf.held - VISITOR_HELD)) {
                shelf.held = NONE;
            }
        }
        return 1;
    }

    public int status(int what) {
        if (isWithin(what, REFUSALS_TOLD, REFUSALS_TOLD + REFUSAL_SORTS - 1)) {
            return refusals[what - REFUSALS_TOLD];
        }
        switch (what) {
            case 0:
                return now.visitors;
            case 1:
                return now.cells;
            case 2:
                return now.veil;
            case 3:
                return now.day;
            case 4:
                return Integer.bitCount(now.knownBy(now.all()));
            case 5:
                return tape.size;
            case 6:
                return now.seed;
            case 7:
                return shelvesInUse();
            default:
                return NONE;
        }
    }

    private int refuse(int answer) {
        int sort = BAD - answer;
        if (isWithin(sort, 0, REFUSAL_SORTS - 1)) {
            refusals[sort]++;
        }
        return answer;
    }

    /** The first refusal of a call that reads a ROW; told: whether its other numbers may be. */
    private int rowFault(int s, boolean told, int elements) {
        if (!isShelf(s) || !told) {
            return BAD;
        }
        if (shelves[s].holdsVisitor()) {
            return OTHER;
        }
        if (!shelves[s].holdsRow()) {
            return NOTHING;
        }
        return shelves[s].size < elements ? BAD : FINE;
    }

    private int copyFault(int p, int q) {
        if (!isShelf(p) || !isShelf(q)) {
            return BAD;
        }
        Shelf from = shelves[p];
        Shelf to = shelves[q];
        if (from.holdsVisitor() || to.holdsVisitor()) {
            return OTHER;
        }
        if (!from.holdsRow() || !to.holdsRow()) {
            return NOTHING;
        }
        return from.held == to.held ? FINE : OTHER;
    }

    private int shelvesInUse() {
        int count = 0;
        for (int s = 0; s < SHELVES; s++) {
            if (shelves[s].held != NONE) {
                count++;
            }
        }
        return count;
    }

    private boolean tellsVisitors(Shelf shelf, int n) {
        for (int i = 0; i < n; i++) {
            long visitor = shelf.elements[2 * i];
            if (visitor < 0 || visitor >= now.visitors) {
                return false;
            }
        }
        return true;
    }

    private boolean tellsVeils(Shelf shelf, int n) {
        for (int i = 0; i < n; i++) {
            long veil = shelf.elements[2 * i];
            if (veil < 0 || veil > TOP) {
                return false;
            }
        }
        return true;
    }

    private int kindsThatFit(Shelf shelf, int n, int visitor) {
        int found = 0;
        for (int kind = 0; kind < KINDS; kind++) {
            if (isShownAsTold(shelf, n, visitor, kind, now.want[visitor])) {
                found |= 1 << kind;
            }
        }
        return found;
    }

    private int wantsThatFit(Shelf shelf, int n, int visitor) {
        int found = 0;
        for (int want = 0; want <= TOP; want++) {
            if (isShownAsTold(shelf, n, visitor, now.kind[visitor], want)) {
                found |= 1 << want;
            }
        }
        return found;
    }

    private boolean isShownAsTold(Shelf shelf, int n, int visitor, int kind, int want) {
        for (int i = 0; i < n; i++) {
            int veil = (int) shelf.elements[2 * i];
            if (now.shownIf(visitor, kind, want, veil) != shelf.elements[2 * i + 1]) {
                return false;
            }
        }
        return true;
    }

    private boolean isSoFrom(int shift, Shelf shelf, int n, int seen) {
        for (int i = 0; i < n; i++) {
            if (isIn(shift + i, seen) && now.thing[shift + i] != shelf.elements[i]) {
                return false;
            }
        }
        return true;
    }

    private int firstWrong(Shelf shelf, int n) {
        for (int i = 0; i < n; i++) {
            long group = shelf.elements[i];
            if (group < 1 || group > now.all()) {
                return i;
            }
        }
        return NONE;
    }

    /** Nobody is in both parts, so that what the first has SEEN changes nothing for the second. */
    private int knownBehindTwo(int first, int second) {
        int veil = now.veilBehind(first, now.veil);
        return now.knownBy(now.all())
                | now.shownToAny(first, now.veil)
                | now.shownToAny(second, veil);
    }

    private int placeOf(int visitor) {
        int own = Integer.bitCount(now.seen[visitor]);
        int ahead = 0;
        for (int other = 0; other < now.visitors; other++) {
            int count = Integer.bitCount(now.seen[other]);
            if (count > own || count == own && other < visitor) {
                ahead++;
            }
        }
        return ahead;
    }

    private int veilIfFirst(int visitor, int turns) {
        int sent = 1 << visitor;
        int askers = Integer.bitCount(now.askers & ~sent);
        int children = Integer.bitCount(now.children & ~sent);
        int others = now.visitors - 1 - askers - children;
        return veilByTurns(now.veilBehind(sent, now.veil), askers, children, others, turns - 1, false);
    }

    /** Of those left it matters only which way each moves VEIL: up (askers), down (children) or not. */
    private static int veilByTurns(int veil, int up, int down, int still, int turns, boolean least) {
        if (turns <= 0 || up + down + still <= 0) {
            return veil;
        }
        int best = least ? TOP + 1 : NONE;
        if (up > 0) {
            int then = veilByTurns(levelOf(veil + 1), up - 1, down, still, turns - 1, !least);
            best = least ? Math.min(best, then) : Math.max(best, then);
        }
        if (down > 0) {
            int then = veilByTurns(levelOf(veil - 1), up, down - 1, still, turns - 1, !least);
            best = least ? Math.min(best, then) : Math.max(best, then);
        }
        if (still > 0) {
            int then = veilByTurns(veil, up, down, still - 1, turns - 1, !least);
            best = least ? Math.min(best, then) : Math.max(best, then);
        }
        return best;
    }

    private static boolean isWithin(int v, int least, int most) {
        return v >= least && v <= most;
    }

    private static boolean isShelf(int s) {
        return isWithin(s, 0, SHELVES - 1);
    }

    private static boolean isKind(int kind) {
        return isWithin(kind, 0, KINDS - 1);
    }

    private static boolean isLevel(int v) {
        return isWithin(v, 0, TOP);
    }

    private static boolean isOneOfTwo(int what) {
        return what == 0 || what == 1;
    }

    private static boolean isIn(int place, long bits) {
        return (bits >> place & 1) != 0;
    }

    private static int levelOf(int v) {
        return Math.max(0, Math.min(TOP, v));
    }

    private static boolean isUnder(int kind, int upper) {
        return kind == upper
                || upper == VISITOR
                || kind == ARTIST && upper == ASKER
                || kind == DRIVER && upper == IDLER;
    }

    /** All that an image keeps: the view and its visitors. */
    private static final class Land {
        final int[] shyness;
        final int[] thing;
        /** The CELLS that are SHOWN, for each OPEN. */
        final int[] shownBy;
        final int[] kind;
        final int[] a;
        final int[] want;
        final int[] seen;
        int cells;
        int veil;
        int day;
        int seed;
        int visitors;
        /** ASKERS and ARTISTS, as bits: kept at hand for being counted in each group. */
        int askers;
        int children;

        Land() {
            shyness = new int[CELLS_MOST];
            thing = new int[CELLS_MOST];
            for (int cell = 0; cell < CELLS_MOST; cell++) {
                shyness[cell] = Math.min(cell, TOP);
                thing[cell] = cell % THINGS;
            }
            shownBy = new int[TOP + 1];
            kind = new int[VISITORS_MOST];
            a = new int[VISITORS_MOST];
            want = new int[VISITORS_MOST];
            seen = new int[VISITORS_MOST];
            veil = VEIL_FIRST;
            seed = 1;
            paveTo(CELLS_FIRST);
        }

        void takeFrom(Land other) {
            System.arraycopy(other.shyness, 0, shyness, 0, CELLS_MOST);
            System.arraycopy(other.thing, 0, thing, 0, CELLS_MOST);
            System.arraycopy(other.shownBy, 0, shownBy, 0, TOP + 1);
            System.arraycopy(other.kind, 0, kind, 0, VISITORS_MOST);
            System.arraycopy(other.a, 0, a, 0, VISITORS_MOST);
            System.arraycopy(other.want, 0, want, 0, VISITORS_MOST);
            System.arraycopy(other.seen, 0, seen, 0, VISITORS_MOST);
            cells = other.cells;
            veil = other.veil;
            day = other.day;
            seed = other.seed;
            visitors = other.visitors;
            askers = other.askers;
            children = other.children;
        }

        /** Cells beyond the last are as at first until they come: nothing marks them. */
        void paveTo(int n) {
            cells = n;
            sumUpShown();
        }

        void makeShy(int cell, int v) {
            shyness[cell] = v;
            sumUpShown();
        }

        private void sumUpShown() {
            Arrays.fill(shownBy, 0);
            for (int cell = 0; cell < cells; cell++) {
                shownBy[shyness[cell]] |= 1 << cell;
            }
            for (int open = 1; open <= TOP; open++) {
                shownBy[open] |= shownBy[open - 1];
            }
        }

        boolean hasRoom() {
            return visitors < VISITORS_MOST;
        }

        /** The caller has looked whether there is room. */
        void let(int ofKind, int withA, int wanting) {
            kind[visitors] = ofKind;
            a[visitors] = withA;
            want[visitors] = wanting;
            seen[visitors] = 0;
            if (ofKind == ASKER || ofKind == ARTIST) {
                askers |= 1 << visitors;
            }
            if (ofKind == CHILD) {
                children |= 1 << visitors;
            }
            visitors++;
        }

        boolean hasCell(int cell) {
            return isWithin(cell, 0, cells - 1);
        }

        boolean hasCells(int bits) {
            return isWithin(bits, 0, allCells());
        }

        int allCells() {
            return (1 << cells) - 1;
        }

        boolean hasVisitor(int visitor) {
            return isWithin(visitor, 0, visitors - 1);
        }

        boolean hasGroup(int group) {
            return isWithin(group, 0, all());
        }

        boolean canVisit(int group) {
            return isWithin(group, 1, all());
        }

        boolean hasInGroup(int visitor, int group) {
            return hasVisitor(visitor) && hasGroup(group) && isIn(visitor, group);
        }

        int all() {
            return (1 << visitors) - 1;
        }

        int seenBy(int cell) {
            int found = 0;
            for (int visitor = 0; visitor < visitors; visitor++) {
                if (isIn(cell, seen[visitor])) {
                    found |= 1 << visitor;
                }
            }
            return found;
        }

        int knownBy(int group) {
            int found = 0;
            for (int visitor = 0; visitor < visitors; visitor++) {
                if (isIn(visitor, group)) {
                    found |= seen[visitor];
                }
            }
            return found;
        }

        /** OPEN to one of a KIND, ahead of what the others in the GROUP do to it. */
        private int openByKind(int visitor, int asKind, int wanting, int atVeil, boolean alone) {
            int plain = Math.max(0, TOP - wanting - atVeil);
            switch (asKind) {
                case ASKER:
                    return plain / 2;
                case ARTIST:
                    return Math.max(0, plain / 2 - Integer.bitCount(seen[visitor]));
                case IDLER:
                    return plain + a[visitor];
                case DRIVER:
                    return plain + a[visitor] + (alone ? 0 : 5);
                case CHILD:
                    return Math.max(0, TOP - atVeil);
                default:
                    return plain;
            }
        }

        int openTo(int visitor, int group, int atVeil) {
            int others = group & ~(1 << visitor);
            int open = openByKind(visitor, kind[visitor], want[visitor], atVeil, others == 0)
                    - 2 * Integer.bitCount(others & askers)
                    + Integer.bitCount(others & children);
            return levelOf(open);
        }

        int shownTo(int visitor, int group, int atVeil) {
            return shownBy[openTo(visitor, group, atVeil)];
        }

        int shownAlone(int visitor, int atVeil) {
            return shownTo(visitor, 1 << visitor, atVeil);
        }

        int shownIf(int visitor, int asKind, int wanting, int atVeil) {
            return shownBy[levelOf(openByKind(visitor, asKind, wanting, atVeil, true))];
        }

        int shownIfWanting(int visitor, int wanting) {
            return shownIf(visitor, kind[visitor], wanting, veil);
        }

        int shownToAny(int group, int atVeil) {
            int found = 0;
            for (int visitor = 0; visitor < visitors; visitor++) {
                if (isIn(visitor, group)) {
                    found |= shownTo(visitor, group, atVeil);
                }
            }
            return found;
        }

        int newBy(int group) {
            return shownToAny(group, veil) & ~knownBy(all());
        }

        int veilBehind(int group, int atVeil) {
            return levelOf(atVeil + Integer.bitCount(group & askers) - Integer.bitCount(group & children));
        }

        void goTogether(int group) {
            for (int visitor = 0; visitor < visitors; visitor++) {
                if (isIn(visitor, group)) {
                    seen[visitor] |= shownTo(visitor, group, veil);
                }
            }
            veil = veilBehind(group, veil);
            passDay();
        }

        private void passDay() {
            day = Math.min(DAY_MOST, day + 1);
        }

        int dayByDraws() {
            veil = draw(TOP + 1);
            int group = 0;
            for (int visitor = 0; visitor < visitors; visitor++) {
                if (draw(2) == 1) {
                    group |= 1 << visitor;
                }
            }
            if (group == 0) {
                passDay();
                return 0;
            }
            int cellsNew = Integer.bitCount(newBy(group));
            goTogether(group);
            return cellsNew;
        }

        private int draw(int below) {
            seed = seed * 1103515245 + 12345;
            return below > 0 ? (seed >>> 16) % below : 0;
        }
    }

    private static final class Shelf {
        final long[] elements;
        int size;
        /** As the face tells it: NONE, the SORT of a ROW, or 10 and a VISITOR's number. */
        int held;

        Shelf() {
            elements = new long[ELEMENTS_MOST];
            held = NONE;
        }

        boolean holdsRow() {
            return isWithin(held, 0, SORTS - 1);
        }

        boolean holdsVisitor() {
            return held >= VISITOR_HELD;
        }

        void holdRow(int sort, int n) {
            held = sort;
            size = n;
            Arrays.fill(elements, 0L);
        }

        boolean hasPart(int from, int n) {
            return isWithin(n, 0, size) && isWithin(from, 0, size - n);
        }

        void put(int i, long v) {
            elements[i] = asKept(held, v);
        }

        private static long asKept(int sort, long v) {
            switch (sort) {
                case 0:
                    return (byte) v;
                case 1:
                    return (short) v;
                case 2:
                    return (int) v;
                case 3:
                    return v;
                default:
                    return v != 0 ? 1 : 0;
            }
        }
    }

    /** Bytes, and what they say of a view, token by token. */
    private static final class Tape {
        private static final int END = 0;
        private static final int WORD = 1;
        private static final int NUMBER = 2;
        private static final int SIGN = 3;
        private static final int STRAY = 4;
        private static final char BLANK = ' ';

        private final char[] letters;
        int size;
        /** The token read last: its place, the place behind it, its sort, and its value if it is a NUMBER. */
        private int start;
        private int end;
        private int sort;
        private int number;

        Tape() {
            letters = new char[TAPE_MOST];
        }

        boolean hasRoom() {
            return size < TAPE_MOST;
        }

        void add(int letter) {
            letters[size] = (char) letter;
            size++;
        }

        /** How many STATEMENTS; or the answer to a FAULT, which leaves the land half changed. */
        int readInto(Land land) {
            int statements = 0;
            end = 0;
            do {
                if (!readStatement(land)) {
                    return FAULT_FIRST - start;
                }
                statements++;
                step();
            } while (sort == SIGN && statements < TAPE_MOST);
            return sort == END ? statements : FAULT_FIRST - start;
        }

        /** Where this, or what it calls, answers false, the token read last is the one at fault. */
        private boolean readStatement(Land land) {
            step();
            if (sort != WORD) {
                return false;
            }
            if (isWord("cells")) {
                return readCells(land);
            }
            if (isWord("visitor")) {
                return readVisitor(land);
            }
            if (isWord("shy")) {
                return readShy(land);
            }
            if (isWord("thing")) {
                return readThing(land);
            }
            if (isWord("saw")) {
                return readSaw(land);
            }
            if (isWord("veil")) {
                return readVeil(land);
            }
            return isWord("day") && readDay(land);
        }

        private boolean readCells(Land land) {
            if (!readNumber(land.cells, CELLS_MOST)) {
                return false;
            }
            land.paveTo(number);
            return true;
        }

        private boolean readVisitor(Land land) {
            if (!land.hasRoom() || !readNumber(0, KINDS - 1)) {
                return false;
            }
            int kind = number;
            if (!readNumber(0, A_MOST)) {
                return false;
            }
            int a = number;
            if (!readNumber(0, TOP)) {
                return false;
            }
            land.let(kind, a, number);
            return true;
        }

        private boolean readShy(Land land) {
            if (!readNumber(0, land.cells - 1)) {
                return false;
            }
            int cell = number;
            if (!readNumber(0, TOP)) {
                return false;
            }
            land.makeShy(cell, number);
            return true;
        }

        private boolean readThing(Land land) {
            if (!readNumber(0, land.cells - 1)) {
                return false;
            }
            int cell = number;
            if (!readNumber(0, THINGS - 1)) {
                return false;
            }
            land.thing[cell] = number;
            return true;
        }

        private boolean readSaw(Land land) {
            if (!readNumber(0, land.visitors - 1)) {
                return false;
            }
            int visitor = number;
            if (!readNumber(0, land.cells - 1)) {
                return false;
            }
            land.seen[visitor] |= 1 << number;
            return true;
        }

        private boolean readVeil(Land land) {
            if (!readNumber(0, TOP)) {
                return false;
            }
            land.veil = number;
            return true;
        }

        private boolean readDay(Land land) {
            if (!readNumber(0, DAY_MOST)) {
                return false;
            }
            land.day = number;
            return true;
        }

        private boolean readNumber(int least, int most) {
            step();
            if (sort != NUMBER || end - start > DIGITS_MOST) {
                return false;
            }
            number = 0;
            for (int i = start; i < end; i++) {
                number = 10 * number + (letters[i] - '0');
            }
            return isWithin(number, least, most);
        }

        private boolean isWord(String word) {
            if (word.length() != end - start) {
                return false;
            }
            for (int i = 0; i < word.length(); i++) {
                if (letters[start + i] != word.charAt(i)) {
                    return false;
                }
            }
            return true;
        }

        private void step() {
            start = end;
            while (start < size && letters[start] == BLANK) {
                start++;
            }
            end = start;
            if (start >= size) {
                sort = END;
                return;
            }
            sort = sortOf(letters[start]);
            end++;
            if (sort == WORD || sort == NUMBER) {
                while (end < size && sortOf(letters[end]) == sort) {
                    end++;
                }
            }
        }

        private static int sortOf(char letter) {
            if (letter >= 'a' && letter <= 'z') {
                return WORD;
            }
            if (letter >= '0' && letter <= '9') {
                return NUMBER;
            }
            return letter == ';' ? SIGN : STRAY;
        }
    }

    /** The best ORDER of told visitors. */
    private static final class Orders {
        final int[] best;
        int most;
        private final int[] tried;

        Orders() {
            best = new int[ORDERED_MOST];
            tried = new int[ORDERED_MOST];
        }

        void seek(Land land, int group) {
            most = NONE;
            goOn(this, land, group, land.knownBy(land.all()), land.veil, 0);
        }

        /** Each goes once and alone, so that his OPEN hangs on VEIL and on what he has SEEN now. */
        private static void goOn(Orders orders, Land land, int left, int known, int veil, int depth) {
            if (left == 0 || depth >= ORDERED_MOST) {
                orders.compare(Integer.bitCount(known));
                return;
            }
            for (int visitor = 0; visitor < land.visitors; visitor++) {
                if (isIn(visitor, left)) {
                    int sent = 1 << visitor;
                    orders.tried[depth] = visitor;
                    goOn(orders, land, left & ~sent, known | land.shownAlone(visitor, veil),
                            land.veilBehind(sent, veil), depth + 1);
                }
            }
        }

        /** Orders come by rows, so that the first of several stays. */
        private void compare(int cells) {
            if (cells > most) {
                most = cells;
                System.arraycopy(tried, 0, best, 0, ORDERED_MOST);
            }
        }
    }
}
