import java.util.ArrayList;
import java.util.List;
import java.util.TreeSet;

/**
 * The document once more, in the plainest way: sets and lists, every what-if played out on a copy.
 * It shares no code with the class that it is held against.
 */
final class Plain {
    private static final int NONE = -1;
    private static final int BAD = -2;
    private static final int OTHER = -3;
    private static final int NOTHING = -4;
    private static final int STUCK = -5;
    private static final int FULL = -6;

    static class Visitor {
        int number;
        int kind;
        int a;
        int want;
        TreeSet<Integer> seen = new TreeSet<>();

        int open(World w, List<Visitor> group) {
            return Math.max(0, 20 - want - w.veil);
        }

        boolean isAsker() {
            return kind == 1 || kind == 3;
        }
    }

    static class Asker extends Visitor {
        @Override
        int open(World w, List<Visitor> group) {
            return super.open(w, group) / 2;
        }
    }

    static class Artist extends Asker {
        @Override
        int open(World w, List<Visitor> group) {
            return Math.max(0, super.open(w, group) - seen.size());
        }
    }

    static class Idler extends Visitor {
        @Override
        int open(World w, List<Visitor> group) {
            return super.open(w, group) + a;
        }
    }

    static class Driver extends Idler {
        @Override
        int open(World w, List<Visitor> group) {
            return super.open(w, group) + (group.size() > 1 ? 5 : 0);
        }
    }

    static class Child extends Visitor {
        @Override
        int open(World w, List<Visitor> group) {
            return Math.max(0, 20 - w.veil);
        }
    }

    static Visitor make(int kind) {
        Visitor v;
        switch (kind) {
            case 1: v = new Asker(); break;
            case 2: v = new Idler(); break;
            case 3: v = new Artist(); break;
            case 4: v = new Driver(); break;
            case 5: v = new Child(); break;
            default: v = new Visitor();
        }
        v.kind = kind;
        return v;
    }

    static Visitor copyAs(Visitor old, int kind) {
        Visitor v = make(kind);
        v.number = old.number;
        v.a = old.a;
        v.want = old.want;
        v.seen = new TreeSet<>(old.seen);
        return v;
    }

    static class World {
        List<Integer> shyness = new ArrayList<>();
        List<Integer> things = new ArrayList<>();
        List<Visitor> visitors = new ArrayList<>();
        int veil = 4;
        int day = 0;
        int seed = 1;

        World() {
            pave(12);
        }

        void pave(int n) {
            for (int i = shyness.size(); i < n; i++) {
                shyness.add(i < 20 ? i : 20);
                things.add(i % 10);
            }
        }

        World copy() {
            World w = new World();
            w.shyness = new ArrayList<>(shyness);
            w.things = new ArrayList<>(things);
            for (Visitor v : visitors) {
                w.visitors.add(copyAs(v, v.kind));
            }
            w.veil = veil;
            w.day = day;
            w.seed = seed;
            return w;
        }

        int cells() {
            return shyness.size();
        }

        List<Visitor> group(long bits) {
            List<Visitor> found = new ArrayList<>();
            for (Visitor v : visitors) {
                if (bits / (1L << v.number) % 2 == 1) {
                    found.add(v);
                }
            }
            return found;
        }

        int open(Visitor v, List<Visitor> group) {
            int open = v.open(this, group);
            for (Visitor u : group) {
                if (u != v && u.isAsker()) {
                    open -= 2;
                }
                if (u != v && u.kind == 5) {
                    open++;
                }
            }
            return open < 0 ? 0 : open > 20 ? 20 : open;
        }

        TreeSet<Integer> shown(Visitor v, List<Visitor> group) {
            TreeSet<Integer> cells = new TreeSet<>();
            for (int c = 0; c < cells(); c++) {
                if (shyness.get(c) <= open(v, group)) {
                    cells.add(c);
                }
            }
            return cells;
        }

        TreeSet<Integer> alone(Visitor v) {
            return shown(v, List.of(v));
        }

        TreeSet<Integer> shownAny(List<Visitor> group) {
            TreeSet<Integer> cells = new TreeSet<>();
            for (Visitor v : group) {
                cells.addAll(shown(v, group));
            }
            return cells;
        }

        TreeSet<Integer> known(List<Visitor> group) {
            TreeSet<Integer> cells = new TreeSet<>();
            for (Visitor v : group) {
                cells.addAll(v.seen);
            }
            return cells;
        }

        TreeSet<Integer> fresh(List<Visitor> group) {
            TreeSet<Integer> cells = shownAny(group);
            cells.removeAll(known(visitors));
            return cells;
        }

        void visit(List<Visitor> group) {
            List<TreeSet<Integer>> what = new ArrayList<>();
            for (Visitor v : group) {
                what.add(shown(v, group));
            }
            int by = 0;
            for (int i = 0; i < group.size(); i++) {
                group.get(i).seen.addAll(what.get(i));
                by += group.get(i).isAsker() ? 1 : group.get(i).kind == 5 ? -1 : 0;
            }
            veil = Math.max(0, Math.min(20, veil + by));
            day = Math.min(999, day + 1);
        }

        int draw(int n) {
            seed = (int) ((long) seed * 1103515245L + 12345L);
            return (int) (((seed & 0xFFFFFFFFL) / 65536L) % n);
        }
    }

    World w = new World();
    World kept = null;
    Object[] shelves = new Object[8];
    List<Integer> tape = new ArrayList<>();
    int[] refusals = new int[5];

    static final class Row {
        int sort;
        long[] of;
    }

    static int bits(Iterable<Integer> cells) {
        int found = 0;
        for (int c : cells) {
            found += 1 << c;
        }
        return found;
    }

    static int members(Iterable<Visitor> group) {
        int found = 0;
        for (Visitor v : group) {
            found += 1 << v.number;
        }
        return found;
    }

    private int no(int code) {
        refusals[-2 - code]++;
        return code;
    }

    private static boolean in(long v, long least, long most) {
        return least <= v && v <= most;
    }

    private boolean shelf(int s) {
        return in(s, 0, 7);
    }

    private boolean vis(int v) {
        return in(v, 0, w.visitors.size() - 1);
    }

    private boolean cell(int c) {
        return in(c, 0, w.cells() - 1);
    }

    private boolean grp(long g) {
        return in(g, 0, (1L << w.visitors.size()) - 1);
    }

    private boolean cellBits(int b) {
        return in(b, 0, (1L << w.cells()) - 1);
    }

    private Visitor v(int number) {
        return w.visitors.get(number);
    }

    public int row(int s, int sort, int n) {
        if (!shelf(s) || !in(sort, 0, 4) || !in(n, 0, 40)) return no(BAD);
        Row r = new Row();
        r.sort = sort;
        r.of = new long[n];
        shelves[s] = r;
        return 1;
    }

    public int set(int s, int i, long v) {
        if (!shelf(s)) return no(BAD);
        if (shelves[s] instanceof Integer) return no(OTHER);
        if (shelves[s] == null) return no(NOTHING);
        Row r = (Row) shelves[s];
        if (!in(i, 0, r.of.length - 1)) return no(BAD);
        int width = r.sort == 0 ? 8 : r.sort == 1 ? 16 : r.sort == 2 ? 32 : 64;
        r.of[i] = r.sort == 4 ? (v == 0 ? 0 : 1) : v << (64 - width) >> (64 - width);
        return 1;
    }

    public int copy(int p, int q, int i, int j, int n) {
        if (!shelf(p) || !shelf(q)) return no(BAD);
        Object from = shelves[p];
        Object to = shelves[q];
        if (from instanceof Integer || to instanceof Integer) return no(OTHER);
        if (from != null && to != null && ((Row) from).sort != ((Row) to).sort) return no(OTHER);
        if (from == null || to == null) return no(NOTHING);
        long[] a = ((Row) from).of;
        long[] b = ((Row) to).of;
        if (i < 0 || j < 0 || n < 0 || (long) i + n > a.length || (long) j + n > b.length) return no(BAD);
        long[] was = a.clone();
        for (int k = 0; k < n; k++) b[j + k] = was[i + k];
        return n;
    }

    public long element(int s, int i) {
        if (!shelf(s) || !(shelves[s] instanceof Row)) return 0;
        Row r = (Row) shelves[s];
        return in(i, 0, r.of.length - 1) ? r.of[i] : 0;
    }

    public int holds(int s) {
        if (!shelf(s) || shelves[s] == null) return NONE;
        return shelves[s] instanceof Row ? ((Row) shelves[s]).sort : 10 + (Integer) shelves[s];
    }

    public int show(int s, int visitor) {
        if (!shelf(s) || visitor != NONE && !vis(visitor)) return no(BAD);
        shelves[s] = visitor == NONE ? null : Integer.valueOf(visitor);
        return 1;
    }

    public int says(int s, int kind) {
        if (!shelf(s) || !in(kind, 0, 5)) return no(BAD);
        if (shelves[s] instanceof Row) return no(OTHER);
        if (shelves[s] == null) return no(NOTHING);
        Visitor v = v((Integer) shelves[s]);
        if (!make(kind).getClass().isInstance(v)) return no(OTHER);
        return kind == 0 ? v.want : w.open(v, List.of(v));
    }

    public int paves(int n) {
        if (!in(n, w.cells(), 24)) return no(BAD);
        int was = w.cells();
        w.pave(n);
        return was;
    }

    public int visitor(int kind, int a, int want) {
        if (!in(kind, 0, 5) || !in(a, 0, 9) || !in(want, 0, 20)) return no(BAD);
        if (w.visitors.size() == 8) return no(FULL);
        add(w, kind, a, want);
        return w.visitors.size() - 1;
    }

    private static void add(World w, int kind, int a, int want) {
        Visitor v = make(kind);
        v.number = w.visitors.size();
        v.a = a;
        v.want = want;
        w.visitors.add(v);
    }

    public int wants(int visitor, int v) {
        if (!vis(visitor) || !in(v, 0, 20)) return no(BAD);
        int was = v(visitor).want;
        v(visitor).want = v;
        return was;
    }

    public int mark(int cell, int what, int v) {
        if (!cell(cell) || !in(what, 0, 1) || !in(v, 0, what == 0 ? 20 : 9)) return no(BAD);
        return (what == 0 ? w.shyness : w.things).set(cell, v);
    }

    public int tell(int what, int v) {
        if (!in(what, 0, 1) || !in(v, 0, what == 0 ? 20 : 999)) return no(BAD);
        int was = what == 0 ? w.veil : w.day;
        if (what == 0) w.veil = v;
        else w.day = v;
        return was;
    }

    public int feed(int letter) {
        if (!in(letter, 0, 255)) return no(BAD);
        if (tape.size() == 250) return no(FULL);
        tape.add(letter);
        return tape.size();
    }

    public int wipe() {
        int was = tape.size();
        tape.clear();
        return was;
    }

    private static final class Fault extends RuntimeException {
        private static final long serialVersionUID = 1L;
        final int place;

        Fault(int place) {
            this.place = place;
        }
    }

    /** All tokens first, with their places, then the statements. */
    public int view() {
        StringBuilder text = new StringBuilder();
        for (int b : tape) text.append((char) b);
        tape.clear();
        World tried = w.copy();
        try {
            int count = statements(text.toString(), tried);
            w = tried;
            return count;
        } catch (Fault f) {
            no(BAD);
            return -20 - f.place;
        }
    }

    private static int statements(String text, World w) {
        List<String> tokens = new ArrayList<>();
        List<Integer> places = new ArrayList<>();
        java.util.regex.Matcher m =
                java.util.regex.Pattern.compile("[a-z]+|[0-9]+|[^ ]", java.util.regex.Pattern.DOTALL).matcher(text);
        while (m.find()) {
            tokens.add(m.group());
            places.add(m.start());
        }
        tokens.add("");
        places.add(text.length());
        int at = 0;
        int count = 0;
        while (true) {
            String word = tokens.get(at);
            int place = places.get(at);
            int[] tops;
            switch (word) {
                case "cells": tops = new int[] {24}; break;
                case "visitor": tops = new int[] {5, 9, 20}; break;
                case "shy": tops = new int[] {w.cells() - 1, 20}; break;
                case "thing": tops = new int[] {w.cells() - 1, 9}; break;
                case "saw": tops = new int[] {w.visitors.size() - 1, w.cells() - 1}; break;
                case "veil": tops = new int[] {20}; break;
                case "day": tops = new int[] {999}; break;
                default: throw new Fault(place);
            }
            if (word.equals("visitor") && w.visitors.size() == 8) throw new Fault(place);
            int[] n = new int[3];
            for (int i = 0; i < tops.length; i++) {
                at++;
                String t = tokens.get(at);
                if (!t.matches("[0-9]{1,3}")) throw new Fault(places.get(at));
                n[i] = Integer.parseInt(t);
                if (n[i] > tops[i]) throw new Fault(places.get(at));
                if (word.equals("cells") && n[i] < w.cells()) throw new Fault(places.get(at));
            }
            switch (word) {
                case "cells": w.pave(n[0]); break;
                case "visitor": add(w, n[0], n[1], n[2]); break;
                case "shy": w.shyness.set(n[0], n[1]); break;
                case "thing": w.things.set(n[0], n[1]); break;
                case "saw": w.visitors.get(n[0]).seen.add(n[1]); break;
                case "veil": w.veil = n[0]; break;
                default: w.day = n[0];
            }
            count++;
            at++;
            if (tokens.get(at).equals("")) return count;
            if (!tokens.get(at).equals(";")) throw new Fault(places.get(at));
            at++;
        }
    }

    public int visitorOf(int visitor, int what) {
        if (!vis(visitor) || !in(what, 0, 4)) return no(BAD);
        Visitor v = v(visitor);
        return new int[] {v.kind, v.a, v.want, bits(v.seen), v.seen.size()}[what];
    }

    private List<Visitor> seers(int cell) {
        List<Visitor> found = new ArrayList<>();
        for (Visitor v : w.visitors) if (v.seen.contains(cell)) found.add(v);
        return found;
    }

    public int cellOf(int cell, int what) {
        if (!cell(cell) || !in(what, 0, 2)) return no(BAD);
        return new int[] {w.shyness.get(cell), w.things.get(cell), members(seers(cell))}[what];
    }

    private boolean badIn(int visitor, int group) {
        return !vis(visitor) || !grp(group) || !w.group(group).contains(v(visitor));
    }

    public int open(int visitor, int group) {
        if (badIn(visitor, group)) return no(BAD);
        return w.open(v(visitor), w.group(group));
    }

    public int shown(int visitor, int group) {
        if (badIn(visitor, group)) return no(BAD);
        return bits(w.shown(v(visitor), w.group(group)));
    }

    public int known(int group) {
        return grp(group) ? bits(w.known(w.group(group))) : no(BAD);
    }

    public int fresh(int group) {
        return grp(group) ? bits(w.fresh(w.group(group))) : no(BAD);
    }

    public int veilThen(int group) {
        if (!grp(group) || group == 0) return no(BAD);
        World then = w.copy();
        then.visit(then.group(group));
        return then.veil;
    }

    public int send(int k) {
        if (!in(k, 1, 8)) return no(BAD);
        int found = NONE;
        for (int g = (1 << w.visitors.size()) - 1; g >= 0; g--) {
            if (w.group(g).size() == k
                    && (found == NONE || w.fresh(w.group(g)).size() >= w.fresh(w.group(found)).size())) found = g;
        }
        return found;
    }

    public int fewest(int told) {
        if (!cellBits(told)) return no(BAD);
        for (int k = 0; k <= w.visitors.size(); k++) {
            for (int g = 0; grp(g); g++) {
                if (w.group(g).size() == k && (bits(w.shownAny(w.group(g))) & told) == told) return g;
            }
        }
        return NONE;
    }

    private static List<List<Integer>> orders(List<Integer> of) {
        List<List<Integer>> all = new ArrayList<>();
        if (of.isEmpty()) all.add(new ArrayList<>());
        for (Integer first : of) {
            List<Integer> rest = new ArrayList<>(of);
            rest.remove(first);
            for (List<Integer> tail : orders(rest)) {
                tail.add(0, first);
                all.add(tail);
            }
        }
        return all;
    }

    public int order(int group, int i) {
        if (!grp(group) || w.group(group).size() > 6 || i < NONE) return no(BAD);
        if (i >= w.group(group).size()) return no(STUCK);
        List<Integer> told = new ArrayList<>();
        for (Visitor v : w.group(group)) told.add(v.number);
        List<Integer> best = null;
        int most = -1;
        for (List<Integer> o : orders(told)) {
            World then = w.copy();
            for (int x : o) then.visit(then.group(1L << x));
            int cells = then.known(then.visitors).size();
            if (cells > most) {
                most = cells;
                best = o;
            }
        }
        return i == NONE ? most : best.get(i);
    }

    private boolean sees(int visitor, int cell, int want, int veil) {
        World then = w.copy();
        then.veil = veil;
        then.visitors.get(visitor).want = want;
        return then.alone(then.visitors.get(visitor)).contains(cell);
    }

    public int how(int visitor, int cell) {
        if (!vis(visitor) || !cell(cell)) return no(BAD);
        for (int want = 0; want <= 20; want++) if (sees(visitor, cell, want, w.veil)) return want;
        return NONE;
    }

    public int lifted(int visitor, int cell, int what) {
        if (!vis(visitor) || !cell(cell) || !in(what, 0, 1)) return no(BAD);
        for (int i = 0; i <= 20; i++) {
            int veil = what == 0 ? i : 20 - i;
            if (sees(visitor, cell, v(visitor).want, veil)) return veil;
        }
        return NONE;
    }

    private int rowNo(int s, boolean told, int need) {
        if (!shelf(s) || !told) return BAD;
        if (shelves[s] instanceof Integer) return OTHER;
        if (shelves[s] == null) return NOTHING;
        return ((Row) shelves[s]).of.length < need ? BAD : 0;
    }

    public int register(int s, int n, int cell, int what) {
        int no = rowNo(s, in(n, 0, 20) && cell(cell) && in(what, 0, 2), 2 * n);
        if (no != 0) return no(no);
        long[] row = ((Row) shelves[s]).of;
        for (int i = 0; i < n; i++) if (!in(row[2 * i], 0, w.visitors.size() - 1)) return no(STUCK);
        List<Integer> fit = new ArrayList<>();
        for (int shy = 0; shy <= 20; shy++) {
            World then = w.copy();
            then.shyness.set(cell, shy);
            boolean so = true;
            for (int i = 0; i < n; i++) {
                boolean told = ((row[2 * i + 1] >>> cell) & 1) == 1;
                so &= then.alone(then.visitors.get((int) row[2 * i])).contains(cell) == told;
            }
            if (so) fit.add(shy);
        }
        if (what == 2) return fit.size();
        return fit.isEmpty() ? NONE : fit.get(what == 0 ? 0 : fit.size() - 1);
    }

    public int fits(int s, int n, int visitor, int what) {
        int no = rowNo(s, in(n, 0, 20) && vis(visitor) && in(what, 0, 1), 2 * n);
        if (no != 0) return no(no);
        long[] row = ((Row) shelves[s]).of;
        for (int i = 0; i < n; i++) if (!in(row[2 * i], 0, 20)) return no(STUCK);
        int found = 0;
        for (int x = 0; x < (what == 0 ? 6 : 21); x++) {
            World then = w.copy();
            if (what == 0) then.visitors.set(visitor, copyAs(then.visitors.get(visitor), x));
            else then.visitors.get(visitor).want = x;
            boolean so = true;
            for (int i = 0; i < n; i++) {
                then.veil = (int) row[2 * i];
                so &= bits(then.alone(then.visitors.get(visitor))) == row[2 * i + 1];
            }
            if (so) found += 1 << x;
        }
        return found;
    }

    public int together() {
        for (int k = 0; k <= w.visitors.size(); k++) {
            boolean each = true;
            for (int g = 0; grp(g); g++) {
                if (w.group(g).size() == k) each &= w.known(w.group(g)).size() == w.cells();
            }
            if (each) return k;
        }
        return NONE;
    }

    public int needed() {
        List<Visitor> found = new ArrayList<>();
        for (Visitor v : w.visitors) {
            List<Visitor> others = new ArrayList<>(w.visitors);
            others.remove(v);
            if (!w.known(others).containsAll(w.known(w.visitors))) found.add(v);
        }
        return members(found);
    }

    public int picture(int s, int n, int visitor) {
        int no = rowNo(s, in(n, 0, 24) && vis(visitor), n);
        if (no != 0) return no(no);
        long[] row = ((Row) shelves[s]).of;
        int found = 0;
        for (int shift = 0; shift <= w.cells() - n; shift++) {
            boolean so = true;
            for (int c : v(visitor).seen) {
                if (c >= shift && c - shift < n) so &= row[c - shift] == w.things.get(c);
            }
            if (so) found += 1 << shift;
        }
        return found;
    }

    /** VEIL at the end, and whom who is on sends (NONE if nobody). */
    private static int[] game(World w, List<Integer> left, int turn, int n) {
        if (turn == n) return new int[] {w.veil, NONE};
        if (left.isEmpty()) return new int[] {game(w, left, turn + 1, n)[0], NONE};
        int[] best = null;
        for (Integer x : left) {
            World then = w.copy();
            then.visit(then.group(1L << x));
            List<Integer> rest = new ArrayList<>(left);
            rest.remove(x);
            int veil = game(then, rest, turn + 1, n)[0];
            if (best == null || (turn % 2 == 0 ? veil < best[0] : veil > best[0])) best = new int[] {veil, x};
        }
        return best;
    }

    public int lift(int n, int what) {
        if (!in(n, 0, 4) || !in(what, 0, 1)) return no(BAD);
        List<Integer> left = new ArrayList<>();
        for (Visitor v : w.visitors) left.add(v.number);
        return game(w, left, 0, n)[what];
    }

    public int chance(int visitor, int cell) {
        if (!vis(visitor) || !cell(cell)) return no(BAD);
        long count = 0;
        for (int want = 0; want <= 20; want++) if (sees(visitor, cell, want, w.veil)) count++;
        return (int) (count * 1000000L / 21);
    }

    public int mean(int visitor) {
        if (!vis(visitor)) return no(BAD);
        long count = 0;
        for (int want = 0; want <= 20; want++) {
            World then = w.copy();
            then.visitors.get(visitor).want = want;
            count += then.alone(then.visitors.get(visitor)).size();
        }
        return (int) (count * 1000L / 21);
    }

    public int hidden() {
        TreeSet<Integer> cells = new TreeSet<>();
        for (int c = 0; c < w.cells(); c++) if (seesNow(c).isEmpty()) cells.add(c);
        return bits(cells);
    }

    private List<Visitor> seesNow(int cell) {
        List<Visitor> found = new ArrayList<>();
        for (Visitor v : w.visitors) if (w.alone(v).contains(cell)) found.add(v);
        return found;
    }

    public int best(int what) {
        if (!in(what, 0, 1)) return no(BAD);
        if (w.visitors.isEmpty()) return no(STUCK);
        Visitor best = null;
        for (Visitor v : w.visitors) if (best == null || w.alone(v).size() > w.alone(best).size()) best = v;
        return what == 0 ? best.number : w.alone(best).size();
    }

    public int mate(int visitor) {
        if (!vis(visitor)) return no(BAD);
        int found = NONE;
        int most = -1;
        for (Visitor u : w.visitors) {
            if (u.number == visitor) continue;
            int cells = w.shown(v(visitor), List.of(v(visitor), u)).size();
            if (cells > most) {
                most = cells;
                found = u.number;
            }
        }
        return found;
    }

    public int rarest(int what) {
        if (!in(what, 0, 1)) return no(BAD);
        int found = 0;
        for (int c = 0; c < w.cells(); c++) {
            int by = seers(c).size() - seers(found).size();
            if (what == 0 ? by < 0 : by > 0) found = c;
        }
        return found;
    }

    public int both(int visitor, int other) {
        if (!vis(visitor) || !vis(other) || visitor == other) return no(BAD);
        TreeSet<Integer> cells = new TreeSet<>(v(visitor).seen);
        cells.retainAll(v(other).seen);
        return cells.size();
    }

    public int visitsTill(int visitor, int cell) {
        if (!vis(visitor) || !cell(cell)) return no(BAD);
        World then = w.copy();
        for (int i = 0; i <= 60; i++) {
            if (then.visitors.get(visitor).seen.contains(cell)) return i;
            then.visit(then.group(1L << visitor));
        }
        return NONE;
    }

    public int who(int cell) {
        return cell(cell) ? members(seesNow(cell)) : no(BAD);
    }

    public int company(int visitor) {
        if (!vis(visitor)) return no(BAD);
        int found = 1 << visitor;
        for (int g = (1 << w.visitors.size()) - 1; g > 0; g--) {
            if (w.group(g).contains(v(visitor))
                    && w.shown(v(visitor), w.group(g)).size() > w.shown(v(visitor), w.group(found)).size()) found = g;
        }
        for (int g = 1; g < found; g++) {
            if (w.group(g).contains(v(visitor))
                    && w.shown(v(visitor), w.group(g)).size() == w.shown(v(visitor), w.group(found)).size()) return g;
        }
        return found;
    }

    public int spoiler(int group) {
        if (!grp(group)) return no(BAD);
        int found = NONE;
        int most = -1;
        for (Visitor v : w.group(group)) {
            List<Visitor> rest = w.group(group);
            rest.remove(v);
            if (w.shownAny(rest).size() > most) {
                most = w.shownAny(rest).size();
                found = v.number;
            }
        }
        return found;
    }

    public int split(int group, int what) {
        if (!grp(group) || !in(what, 0, 1)) return no(BAD);
        int found = NONE;
        int most = -1;
        for (int first = 0; first <= group; first++) {
            if ((first & group) != first) continue;
            World then = w.copy();
            if (first != 0) then.visit(then.group(first));
            if (first != group) then.visit(then.group(group - first));
            if (then.known(then.visitors).size() > most) {
                most = then.known(then.visitors).size();
                found = first;
            }
        }
        return what == 0 ? found : most;
    }

    public int couple() {
        int found = NONE;
        int most = -1;
        for (Visitor v : w.visitors) {
            for (Visitor u : w.visitors) {
                if (v.number < u.number && w.known(List.of(v, u)).size() > most) {
                    most = w.known(List.of(v, u)).size();
                    found = 10 * v.number + u.number;
                }
            }
        }
        return found;
    }

    public int secret(int cell) {
        if (!cell(cell)) return no(BAD);
        return seers(cell).size() == 1 ? seers(cell).get(0).number : NONE;
    }

    public int rank(int i) {
        if (!vis(i)) return no(BAD);
        List<Visitor> sorted = new ArrayList<>(w.visitors);
        sorted.sort((x, y) -> y.seen.size() - x.seen.size());
        return sorted.get(i).number;
    }

    public int blind(int veil) {
        if (!in(veil, 0, 20)) return no(BAD);
        World then = w.copy();
        then.veil = veil;
        int count = 0;
        for (Visitor v : then.visitors) if (then.alone(v).isEmpty()) count++;
        return count;
    }

    public int shyest(int told) {
        if (!cellBits(told)) return no(BAD);
        int found = NONE;
        for (int c = w.cells() - 1; c >= 0; c--) {
            if ((told >> c) % 2 == 1 && (found == NONE || w.shyness.get(c) >= w.shyness.get(found))) found = c;
        }
        return found;
    }

    public int alike(int visitor, int other) {
        if (!vis(visitor) || !vis(other)) return no(BAD);
        return w.alone(v(visitor)).equals(w.alone(v(other))) ? 1 : 0;
    }

    public int ofKind(int kind) {
        if (!in(kind, 0, 5)) return no(BAD);
        return (int) w.visitors.stream().filter(v -> v.kind == kind).count();
    }

    private int wrongAt(long[] row, int n) {
        for (int i = 0; i < n; i++) if (row[i] == 0 || !grp(row[i])) return i;
        return NONE;
    }

    public int judge(int s, int n) {
        int no = rowNo(s, in(n, 0, 40), n);
        if (no != 0) return no(no);
        return wrongAt(((Row) shelves[s]).of, n);
    }

    public int behind(int s, int n, int what) {
        int no = rowNo(s, in(n, 0, 40) && in(what, 0, 1), n);
        if (no != 0) return no(no);
        long[] row = ((Row) shelves[s]).of;
        if (wrongAt(row, n) != NONE) return no(STUCK);
        World then = w.copy();
        for (int i = 0; i < n; i++) then.visit(then.group(row[i]));
        return what == 0 ? bits(then.known(then.visitors)) : then.veil;
    }

    public int visit(int group) {
        if (!grp(group) || group == 0) return no(BAD);
        int cells = bits(w.fresh(w.group(group)));
        w.visit(w.group(group));
        return cells;
    }

    public int days(int n) {
        if (!in(n, 1, 60)) return no(BAD);
        int cells = 0;
        for (int i = 0; i < n; i++) {
            w.veil = w.draw(21);
            List<Visitor> group = new ArrayList<>();
            for (Visitor v : w.visitors) if (w.draw(2) == 1) group.add(v);
            if (group.isEmpty()) {
                w.day = Math.min(999, w.day + 1);
            } else {
                cells += w.fresh(group).size();
                w.visit(group);
            }
        }
        return cells;
    }

    public int seed(int v) {
        int was = w.seed;
        w.seed = v;
        return was;
    }

    public int image() {
        kept = w.copy();
        return 1;
    }

    public int back() {
        if (kept == null) return no(STUCK);
        w = kept.copy();
        for (int s = 0; s < 8; s++) {
            if (shelves[s] instanceof Integer && !vis((Integer) shelves[s])) shelves[s] = null;
        }
        return 1;
    }

    public int status(int what) {
        if (in(what, 12, 16)) return refusals[what - 12];
        int held = 0;
        for (Object o : shelves) if (o != null) held++;
        int[] told = {w.visitors.size(), w.cells(), w.veil, w.day, w.known(w.visitors).size(), tape.size(), w.seed, held};
        return in(what, 0, 7) ? told[what] : NONE;
    }
}
