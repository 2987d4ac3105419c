import java.util.ArrayList;
import java.util.Arrays;
import java.util.HashSet;
import java.util.List;
import java.util.Set;

/**
 * The document once more, in the slowest and plainest ways (recursion, all subsets, shortest paths between all
 * pairs, whole copies), none of them those of the program: the two are compared call by call.
 */
final class PlainModel {
    static final int NONE = -1, UNKNOWN = -1000000001, OUTSIDE = -1000000002, NOT = -1000000003, FULL = -1000000004;

    static final class One {
        int sex, arms, father, mother;
        int[] bounds = {0, 999, 0, 999};

        One copy() {
            One o = new One();
            o.sex = sex;
            o.arms = arms;
            o.father = father;
            o.mother = mother;
            o.bounds = bounds.clone();
            return o;
        }
    }

    static final class World {
        List<One> people = new ArrayList<>();
        List<Integer> signs = new ArrayList<>();
        int rule;

        World copy() {
            World w = new World();
            for (One o : people) {
                w.people.add(o.copy());
            }
            w.signs.addAll(signs);
            w.rule = rule;
            return w;
        }
    }

    private World w = new World();
    private List<World> past = new ArrayList<>();
    private final World[] images = new World[2];
    private final long[] imageSeeds = new long[2];
    private long seed;
    private final List<int[]> book = new ArrayList<>();
    /** What was found of the world as it is, so that the slow ways are gone once for each. */
    private long[][] paths;
    private List<List<int[]>> rows = new ArrayList<>();

    private void changed() {
        paths = null;
        rows = new ArrayList<>();
    }

    private boolean there(int p) {
        return 0 <= p && p < w.people.size();
    }

    private static boolean between(int v, int from, int to) {
        return from <= v && v <= to;
    }

    private void deed() {
        past.add(w.copy());
        if (past.size() > 20) {
            past.remove(0);
        }
        changed();
    }

    // ---- coats

    private boolean heir(int p) {
        One o = w.people.get(p);
        if (o.sex != 1 || o.father == NONE) {
            return false;
        }
        for (One other : w.people) {
            if (other.sex == 0 && other.father == o.father) {
                return false;
            }
        }
        return true;
    }

    /** Each quarter: {arms, through}. */
    private List<int[]> quarters(int p) {
        while (rows.size() < w.people.size()) {
            rows.add(null);
        }
        if (rows.get(p) == null) {
            One o = w.people.get(p);
            rows.set(p, quarters(o.father, o.mother, o.arms, p));
        }
        return rows.get(p);
    }

    private List<int[]> quarters(int father, int mother, int arms, int self) {
        List<int[]> own = new ArrayList<>();
        if (father == NONE) {
            own.add(new int[] {arms, self});
        } else {
            for (int[] q : quarters(father)) {
                if (q[0] == arms) {
                    own.add(q);
                }
            }
        }
        List<int[]> fathers = father == NONE ? own : quarters(father);
        List<int[]> mothers = mother != NONE && heir(mother) ? quarters(mother) : new ArrayList<>();
        List<int[]> all = new ArrayList<>();
        if (w.rule == 0) {
            all.addAll(fathers);
            all.addAll(mothers);
        } else if (w.rule == 1) {
            all.addAll(fathers);
            if (!mothers.isEmpty()) {
                all.add(mothers.get(0));
            }
        } else {
            all.addAll(own);
            all.addAll(mothers);
            all.addAll(fathers);
        }
        List<int[]> once = new ArrayList<>();
        Set<Integer> seen = new HashSet<>();
        for (int[] q : all) {
            if (seen.add(q[0])) {
                once.add(q);
            }
        }
        return once;
    }

    private List<Integer> coat(int p) {
        List<Integer> row = new ArrayList<>();
        for (int[] q : quarters(p)) {
            row.add(q[0]);
        }
        return row;
    }

    private int coats() {
        Set<List<Integer>> all = new HashSet<>();
        for (int p = 0; p < w.people.size(); p++) {
            all.add(coat(p));
        }
        return all.size();
    }

    private int same(int p) {
        int set = 0;
        for (int q = 0; q < w.people.size(); q++) {
            if (coat(q).equals(coat(p))) {
                set += 1 << q;
            }
        }
        return set;
    }

    // ---- the monument

    private static boolean fits(int sign, int arms) {
        return sign == 10 || sign == arms;
    }

    private boolean all(int p) {
        List<Integer> row = coat(p);
        if (w.signs.isEmpty() || row.size() != w.signs.size()) {
            return false;
        }
        for (int k = 0; k < row.size(); k++) {
            if (!fits(w.signs.get(k), row.get(k))) {
                return false;
            }
        }
        return true;
    }

    private static boolean part(List<Integer> signs, List<Integer> row) {
        if (signs.isEmpty()) {
            return true;
        }
        for (int k = 0; k < row.size(); k++) {
            if (fits(signs.get(0), row.get(k)) && part(signs.subList(1, signs.size()), row.subList(k + 1, row.size()))) {
                return true;
            }
        }
        return false;
    }

    private boolean some(int p) {
        List<Integer> row = coat(p);
        return !w.signs.isEmpty() && fits(w.signs.get(0), row.get(0))
            && part(w.signs.subList(1, w.signs.size()), row.subList(1, row.size()));
    }

    private int like(int p) {
        List<Integer> row = coat(p);
        int best = 0;
        for (int chosen = 0; chosen < 1 << w.signs.size(); chosen++) {
            List<Integer> signs = new ArrayList<>();
            boolean clear = true;
            for (int s = 0; s < w.signs.size(); s++) {
                if ((chosen >> s & 1) == 1) {
                    signs.add(w.signs.get(s));
                    clear &= w.signs.get(s) != 10;
                }
            }
            if (clear && signs.size() > best && part(signs, row)) {
                best = signs.size();
            }
        }
        return best;
    }

    private int likely() {
        int best = NONE;
        for (int p = w.people.size() - 1; p >= 0; p--) {
            if (like(p) == 0) {
                continue;
            }
            if (best == NONE || like(p) > like(best) || like(p) == like(best) && coat(p).size() <= coat(best).size()) {
                best = p;
            }
        }
        return best;
    }

    // ---- years: x[b] - x[a] <= d[a][b], with the year 0 as the last of them

    private long[][] paths() {
        if (paths != null) {
            return paths;
        }
        int n = 2 * w.people.size();
        long[][] d = new long[n + 1][n + 1];
        for (long[] row : d) {
            Arrays.fill(row, Integer.MAX_VALUE);
        }
        for (int p = 0; p < w.people.size(); p++) {
            One o = w.people.get(p);
            int b = 2 * p, e = 2 * p + 1;
            atMost(d, n, b, o.bounds[1]);
            atMost(d, b, n, -o.bounds[0]);
            atMost(d, n, e, o.bounds[3]);
            atMost(d, e, n, -o.bounds[2]);
            atMost(d, b, e, 100);
            atMost(d, e, b, 0);
            if (o.father != NONE) {
                atMost(d, b, 2 * o.father, -15);
                atMost(d, 2 * o.father + 1, b, 1);
            }
            if (o.mother != NONE) {
                atMost(d, b, 2 * o.mother, -15);
                atMost(d, 2 * o.mother, b, 50);
                atMost(d, 2 * o.mother + 1, b, 0);
            }
        }
        for (int k = 0; k <= n; k++) {
            for (int i = 0; i <= n; i++) {
                for (int j = 0; j <= n; j++) {
                    if (d[i][k] < Integer.MAX_VALUE && d[k][j] < Integer.MAX_VALUE) {
                        atMost(d, i, j, Math.max(d[i][k] + d[k][j], -1000000));
                    }
                }
            }
        }
        paths = d;
        return d;
    }

    private static void atMost(long[][] d, int a, int b, long v) {
        d[a][b] = Math.min(d[a][b], v);
    }

    private boolean spoiled() {
        long[][] d = paths();
        for (int i = 0; i < d.length; i++) {
            if (d[i][i] < 0) {
                return true;
            }
        }
        return false;
    }

    private int narrowed(int p, int which) {
        if (spoiled()) {
            return NONE;
        }
        int n = 2 * w.people.size();
        int v = 2 * p + which / 2;
        return (int) (which % 2 == 0 ? -paths()[v][n] : paths()[n][v]);
    }

    // ---- kin

    private int steps(int p, int a) {
        if (p == a) {
            return 0;
        }
        int best = 1000;
        One o = w.people.get(p);
        if (o.father != NONE) {
            best = Math.min(best, 1 + steps(o.father, a));
        }
        if (o.mother != NONE) {
            best = Math.min(best, 1 + steps(o.mother, a));
        }
        return best;
    }

    // ---- the calls

    int told(int what) {
        int set = 0;
        switch (what) {
            case 0: return w.people.size();
            case 1: return w.rule;
            case 2: return w.signs.size();
            case 3:
                for (int p = 0; p < w.people.size(); p++) {
                    set += heir(p) ? 1 << p : 0;
                }
                return set;
            case 4: return coats();
            case 5: return spoiled() ? 1 : 0;
            case 6:
                for (int p = 0; p < w.people.size(); p++) {
                    set += all(p) ? 1 << p : 0;
                }
                return set;
            case 7:
                for (int p = 0; p < w.people.size(); p++) {
                    set += some(p) ? 1 << p : 0;
                }
                return set;
            case 8: return likely();
            case 9: return book.size();
            case 10:
                for (int e = 0; e < book.size(); e++) {
                    int[] b = book.get(e);
                    if (!there(b[0]) || coat(b[0]).size() <= b[1] || coat(b[0]).get(b[1]) != b[2]) {
                        return e;
                    }
                }
                return NONE;
            case 11: return past.size();
            default: return OUTSIDE;
        }
    }

    int person(int p, int what) {
        if (!there(p)) {
            return UNKNOWN;
        }
        if (!between(what, 0, 15)) {
            return OUTSIDE;
        }
        One o = w.people.get(p);
        if (what >= 12) {
            return narrowed(p, what - 12);
        }
        if (what >= 8) {
            return o.bounds[what - 8];
        }
        if (what == 7) {
            int set = 0;
            for (int c = 0; c < w.people.size(); c++) {
                One child = w.people.get(c);
                set += child.father == p || child.mother == p ? 1 << c : 0;
            }
            return set;
        }
        return new int[] {o.sex, o.arms, o.father, o.mother, coat(p).size(), same(p), like(p)}[what];
    }

    int quarter(int p, int k, int what) {
        if (!there(p)) {
            return UNKNOWN;
        }
        if (!between(what, 0, 1)) {
            return OUTSIDE;
        }
        return between(k, 0, coat(p).size() - 1) ? quarters(p).get(k)[what] : NONE;
    }

    int kin(int p, int q, int what) {
        if (!there(p) || !there(q)) {
            return UNKNOWN;
        }
        if (!between(what, 0, 1)) {
            return OUTSIDE;
        }
        int best = 1000, nearest = NONE;
        for (int a = w.people.size() - 1; a >= 0; a--) {
            int both = steps(p, a) + steps(q, a);
            if (both < best) {
                best = both;
                nearest = a;
            }
        }
        return nearest == NONE ? NONE : what == 0 ? best : nearest;
    }

    int would(int man, int woman) {
        if (!there(man) || !there(woman) || man == woman) {
            return UNKNOWN;
        }
        if (w.people.get(man).sex != 0 || w.people.get(woman).sex != 1) {
            return NOT;
        }
        return quarters(man, woman, w.people.get(man).arms, -99).size();
    }

    int dated(int from, int to) {
        if (!between(from, 0, 999) || !between(to, 0, 999) || to < from) {
            return OUTSIDE;
        }
        int set = 0;
        for (int p = 0; p < w.people.size() && !spoiled(); p++) {
            boolean in = false;
            for (int year = narrowed(p, 2); year <= narrowed(p, 3); year++) {
                in |= between(year, from, to);
            }
            set += in ? 1 << p : 0;
        }
        return set;
    }

    int signAt(int k) {
        return between(k, 0, w.signs.size() - 1) ? w.signs.get(k) : NONE;
    }

    int put(int sex, int arms, int father, int mother) {
        if (father != NONE && !there(father) || mother != NONE && !there(mother)) {
            return UNKNOWN;
        }
        if (!between(sex, 0, 1) || !between(arms, 0, 9)) {
            return OUTSIDE;
        }
        if (father != NONE && w.people.get(father).sex != 0 || mother != NONE && w.people.get(mother).sex != 1) {
            return NOT;
        }
        if (w.people.size() == 16) {
            return FULL;
        }
        add(sex, arms, father, mother);
        return w.people.size() - 1;
    }

    private void add(int sex, int arms, int father, int mother) {
        deed();
        One o = new One();
        o.sex = sex;
        o.father = father;
        o.mother = mother;
        o.arms = father == NONE ? arms : w.people.get(father).arms;
        w.people.add(o);
    }

    int born(int p, int from, int to) {
        return years(p, 0, from, to);
    }

    int died(int p, int from, int to) {
        return years(p, 2, from, to);
    }

    private int years(int p, int at, int from, int to) {
        if (!there(p)) {
            return UNKNOWN;
        }
        if (!between(from, 0, 999) || !between(to, 0, 999) || to < from) {
            return OUTSIDE;
        }
        deed();
        w.people.get(p).bounds[at] = from;
        w.people.get(p).bounds[at + 1] = to;
        return told(5);
    }

    int rule(int v) {
        if (!between(v, 0, 2)) {
            return OUTSIDE;
        }
        deed();
        w.rule = v;
        return coats();
    }

    int sign(int v) {
        if (!between(v, 0, 10)) {
            return OUTSIDE;
        }
        if (w.signs.size() == 10) {
            return FULL;
        }
        deed();
        w.signs.add(v);
        return w.signs.size();
    }

    int wipe() {
        deed();
        int had = w.signs.size();
        w.signs.clear();
        return had;
    }

    private int draw(int n) {
        seed = (seed * 1103515245L + 12345L) % (1L << 31);
        return (int) (seed / 65536 % n);
    }

    int drift(int n) {
        if (!between(n, 1, 16)) {
            return OUTSIDE;
        }
        for (int i = 0; i < n; i++) {
            if (w.people.size() < 16) {
                int sex = draw(2), arms = draw(10);
                int father = draw(w.people.size() + 1) - 1, mother = draw(w.people.size() + 1) - 1;
                boolean man = father >= 0 && w.people.get(father).sex == 0;
                boolean woman = mother >= 0 && w.people.get(mother).sex == 1;
                add(sex, arms, man ? father : NONE, woman ? mother : NONE);
            }
        }
        return w.people.size();
    }

    int undo(int n) {
        if (!between(n, 1, 20)) {
            return OUTSIDE;
        }
        if (past.size() < n) {
            return NOT;
        }
        for (int i = 0; i < n; i++) {
            w = past.remove(past.size() - 1);
        }
        changed();
        return w.people.size();
    }

    int write(int p, int k, int arms) {
        if (!there(p)) {
            return UNKNOWN;
        }
        if (!between(k, 0, 9) || !between(arms, 0, 9)) {
            return OUTSIDE;
        }
        if (book.size() == 20) {
            return FULL;
        }
        book.add(new int[] {p, k, arms});
        return book.size();
    }

    int tear() {
        int had = book.size();
        book.clear();
        return had;
    }

    int seed(int v) {
        if (v < 0) {
            return OUTSIDE;
        }
        int was = (int) seed;
        seed = v;
        return was;
    }

    int keep(int i) {
        if (!between(i, 0, 1)) {
            return UNKNOWN;
        }
        images[i] = w.copy();
        imageSeeds[i] = seed;
        past.clear();
        return 1;
    }

    int goBack(int i) {
        if (!between(i, 0, 1)) {
            return UNKNOWN;
        }
        if (images[i] == null) {
            return NOT;
        }
        w = images[i].copy();
        seed = imageSeeds[i];
        past = new ArrayList<>();
        changed();
        return 1;
    }
}
