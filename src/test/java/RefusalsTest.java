import java.util.ArrayList;
import java.util.List;

/**
 * "REFUSALS, of several the first in this order", "What is refused changes nothing", "ASKED, nothing changes by it":
 * each refused call and each question is put to one of two twins, and what can be seen of both is compared after it.
 */
public final class RefusalsTest {
    private static final int NONE = CoatTraces.NONE, UNKNOWN = CoatTraces.UNKNOWN, OUTSIDE = CoatTraces.OUTSIDE;
    private static final int NOT = CoatTraces.NOT, FULL = CoatTraces.FULL;
    private static final int LEAST = Integer.MIN_VALUE, MOST = Integer.MAX_VALUE;
    private static final Check CHECK = new Check();

    /** Objects in states of many kinds; each is made in some hundred calls, so that enough are left to look. */
    private enum Kind { NEW, SOME, FULL_OF_ALL, SPOILED, KEPT, GONE_BACK, UNDONE }

    /** Ways to go on, by which what a look does not show comes to light. */
    private enum Way { LOOK, QUARTERS, KIN, UNDO_ONE, UNDO_ALL, GO_BACK_0, GO_BACK_1, DRIFT }

    private static int longest;

    public static void main(String[] args) {
        for (Kind kind : Kind.values()) {
            for (int[] row : refusedRows(kind)) {
                refused(kind, NAMES[row[0]], row[1], arguments(row));
            }
            questions(kind);
        }
        wildNumbers();
        CHECK.holds("no object is used for more than 512 calls: " + longest, longest <= 512);
        CHECK.end();
    }

    private static final String[] NAMES = {"told", "person", "quarter", "kin", "would", "dated", "signAt", "put", "born", "died",
        "rule", "sign", "wipe", "drift", "undo", "write", "tear", "seed", "keep", "goBack"};
    private static final int[] PARAMETERS = {1, 2, 3, 3, 2, 2, 1, 4, 3, 3, 1, 1, 0, 1, 1, 3, 0, 1, 1, 1};
    private static final int TOLD = 0, PERSON = 1, QUARTER = 2, KIN = 3, WOULD = 4, DATED = 5, PUT = 7, BORN = 8, DIED = 9,
        RULE = 10, SIGN = 11, DRIFT = 13, UNDO = 14, WRITE = 15, SEED = 17, KEEP = 18, GO_BACK = 19;

    private static int[] arguments(int[] row) {
        int[] a = new int[row.length - 2];
        System.arraycopy(row, 2, a, 0, a.length);
        return a;
    }

    // ---- the objects

    private static final class Twin {
        final CoatTraces x = new CoatTraces();
        int calls;

        int ask(String name, int... a) {
            calls++;
            longest = Math.max(longest, calls);
            return Calls.ask(x, name, a);
        }
    }

    private static Twin make(Kind kind) {
        Twin t = new Twin();
        switch (kind) {
            case NEW:
                break;
            case SOME:
                some(t);
                break;
            case FULL_OF_ALL:
                fullOfAll(t);
                break;
            case SPOILED:
                some(t);
                t.ask("born", 0, 990, 999);
                break;
            case KEPT:
                some(t);
                t.ask("keep", 1);
                break;
            case GONE_BACK:
                some(t);
                t.ask("keep", 0);
                t.ask("drift", 5);
                t.ask("goBack", 0);
                break;
            default:
                fullOfAll(t);
                t.ask("undo", 20);
                break;
        }
        return t;
    }

    /** 0 a man, 1 a man, 2 the heir of 1, 3 the son of 0 and 2, 4 a woman, 5 by chance. */
    private static void some(Twin t) {
        t.ask("seed", 431);
        t.ask("put", 0, 1, NONE, NONE);
        t.ask("put", 0, 2, NONE, NONE);
        t.ask("keep", 0);
        t.ask("put", 1, 0, 1, NONE);
        t.ask("put", 0, 0, 0, 2);
        t.ask("put", 1, 5, NONE, NONE);
        t.ask("born", 3, 300, 320);
        t.ask("died", 3, 310, 350);
        t.ask("sign", 1);
        t.ask("sign", 10);
        t.ask("rule", 2);
        t.ask("drift", 1);
        t.ask("write", 3, 1, 2);
        t.ask("write", 3, 2, 2);
    }

    private static void fullOfAll(Twin t) {
        some(t);
        t.ask("keep", 1);
        t.ask("drift", 16);
        for (int i = 0; i < 8; i++) {
            t.ask("sign", i);
        }
        for (int i = 0; i < 18; i++) {
            t.ask("write", i % 16, 0, i % 10);
        }
        for (int i = 0; i < 5; i++) {
            t.ask("rule", i % 3);
        }
    }

    // ---- what can be seen of them

    private static List<Integer> goOn(Twin t, Way way) {
        List<Integer> seen = new ArrayList<>();
        switch (way) {
            case UNDO_ONE:
                seen.add(t.ask("undo", 1));
                break;
            case UNDO_ALL:
                seen.add(t.ask("undo", Math.max(1, t.ask("told", 11))));
                break;
            case GO_BACK_0:
                seen.add(t.ask("goBack", 0));
                break;
            case GO_BACK_1:
                seen.add(t.ask("goBack", 1));
                break;
            case DRIFT:
                seen.add(t.ask("undo", 2));
                seen.add(t.ask("drift", 2));
                break;
            default:
                break;
        }
        look(t, way, seen);
        return seen;
    }

    private static void look(Twin t, Way way, List<Integer> seen) {
        int people = t.ask("told", 0);
        for (int what = 0; what < 12; what++) {
            seen.add(t.ask("told", what));
        }
        for (int k = 0; k < 10; k++) {
            seen.add(t.ask("signAt", k));
        }
        for (int p = 0; p < people; p++) {
            for (int i = 0; i < 16; i++) {
                if (way == Way.QUARTERS) {
                    seen.add(t.ask("quarter", p, i / 2, i % 2));
                } else if (way == Way.KIN) {
                    seen.add(t.ask("kin", p, i, p % 2));
                } else {
                    seen.add(t.ask("person", p, i));
                }
            }
        }
        seen.add(t.ask("seed", 0));
    }

    private static void sameAfter(Kind kind, String name, int... a) {
        for (Way way : Way.values()) {
            Twin one = make(kind);
            Twin other = make(kind);
            one.ask(name, a);
            CHECK.holds(kind + ": " + Calls.text(name, a) + " changes nothing, seen by " + way, goOn(one, way).equals(goOn(other, way)));
        }
    }

    private static void refused(Kind kind, String name, int want, int... a) {
        CHECK.due(kind + ": " + Calls.text(name, a), make(kind).ask(name, a), want);
        sameAfter(kind, name, a);
    }

    // ---- what is refused in each state: {call, refusal, arguments ..}

    private static List<int[]> refusedRows(Kind kind) {
        List<int[]> rows = new ArrayList<>();
        Twin t = make(kind);
        int people = t.ask("told", 0);
        int deeds = t.ask("told", 11);
        refusedOfAll(rows);
        for (int p : new int[] {people, -2, 16, LEAST, MOST}) {
            refusedOfNobody(rows, p);
        }
        if (people > 4) {
            refusedOfSome(rows);
        }
        if (people == 16) {
            add(rows, PUT, FULL, 0, 0, NONE, NONE);
            add(rows, PUT, FULL, 1, 9, 0, 2);
        }
        if (t.ask("told", 2) == 10) {
            add(rows, SIGN, FULL, 0);
            add(rows, SIGN, FULL, 10);
        }
        if (t.ask("told", 9) == 20) {
            add(rows, WRITE, FULL, 0, 0, 0);
        }
        if (deeds < 20) {
            add(rows, UNDO, NOT, deeds + 1);
            add(rows, UNDO, NOT, 20);
        }
        if (kind == Kind.NEW) {
            add(rows, GO_BACK, NOT, 0);
        }
        if (kind != Kind.KEPT && kind != Kind.FULL_OF_ALL && kind != Kind.UNDONE) {
            add(rows, GO_BACK, NOT, 1);
        }
        return rows;
    }

    private static void add(List<int[]> rows, int call, int want, int... a) {
        int[] row = new int[a.length + 2];
        row[0] = call;
        row[1] = want;
        System.arraycopy(a, 0, row, 2, a.length);
        rows.add(row);
    }

    private static void refusedOfAll(List<int[]> rows) {
        for (int v : new int[] {-1, LEAST}) {
            for (int call : new int[] {TOLD, RULE, SIGN, DRIFT, UNDO, SEED}) {
                add(rows, call, OUTSIDE, v);
            }
            add(rows, KEEP, UNKNOWN, v);
            add(rows, GO_BACK, UNKNOWN, v);
            add(rows, DATED, OUTSIDE, v, 5);
            add(rows, DATED, OUTSIDE, 5, v);
            add(rows, PUT, OUTSIDE, v, 0, NONE, NONE);
            add(rows, PUT, OUTSIDE, 0, v, NONE, NONE);
        }
        for (int more : new int[] {0, MOST - 1000}) {
            add(rows, TOLD, OUTSIDE, 12 + more);
            add(rows, RULE, OUTSIDE, 3 + more);
            add(rows, SIGN, OUTSIDE, 11 + more);
            add(rows, DRIFT, OUTSIDE, 17 + more);
            add(rows, UNDO, OUTSIDE, 21 + more);
            add(rows, KEEP, UNKNOWN, 2 + more);
            add(rows, GO_BACK, UNKNOWN, 2 + more);
            add(rows, DATED, OUTSIDE, 5, 1000 + more);
            add(rows, DATED, OUTSIDE, 6 + more, 5);
            add(rows, PUT, OUTSIDE, 2 + more, 0, NONE, NONE);
            add(rows, PUT, OUTSIDE, 0, 10 + more, NONE, NONE);
        }
        add(rows, DRIFT, OUTSIDE, 0);
        add(rows, UNDO, OUTSIDE, 0);
    }

    /** One that there is not: UNKNOWN, whatever else is wrong. */
    private static void refusedOfNobody(List<int[]> rows, int p) {
        add(rows, PERSON, UNKNOWN, p, 0);
        add(rows, PERSON, UNKNOWN, p, 16);
        add(rows, QUARTER, UNKNOWN, p, 0, 0);
        add(rows, QUARTER, UNKNOWN, p, 0, 2);
        add(rows, KIN, UNKNOWN, p, 0, 0);
        add(rows, KIN, UNKNOWN, 0, p, 2);
        add(rows, WOULD, UNKNOWN, p, 2);
        add(rows, WOULD, UNKNOWN, 0, p);
        add(rows, WOULD, UNKNOWN, 2, p);
        add(rows, PUT, UNKNOWN, 0, 0, p, NONE);
        add(rows, PUT, UNKNOWN, 0, 0, NONE, p);
        add(rows, PUT, UNKNOWN, 2, 10, p, p);
        add(rows, PUT, UNKNOWN, 0, 0, 2, p);
        add(rows, BORN, UNKNOWN, p, 0, 999);
        add(rows, BORN, UNKNOWN, p, 9, 8);
        add(rows, DIED, UNKNOWN, p, 0, 999);
        add(rows, DIED, UNKNOWN, p, 0, 1000);
        add(rows, WRITE, UNKNOWN, p, 0, 0);
        add(rows, WRITE, UNKNOWN, p, 10, -1);
    }

    private static void refusedOfSome(List<int[]> rows) {
        for (int what : new int[] {-1, 16, LEAST, MOST}) {
            add(rows, PERSON, OUTSIDE, 3, what);
            add(rows, QUARTER, OUTSIDE, 3, 0, what);
            add(rows, KIN, OUTSIDE, 3, 3, what);
            add(rows, WRITE, OUTSIDE, 3, what, 1);
            add(rows, WRITE, OUTSIDE, 3, 1, what);
        }
        int[][] years = {{-1, 0}, {0, 1000}, {8, 7}, {LEAST, MOST}, {MOST, LEAST}};
        for (int[] y : years) {
            add(rows, BORN, OUTSIDE, 3, y[0], y[1]);
            add(rows, DIED, OUTSIDE, 3, y[0], y[1]);
        }
        add(rows, WOULD, UNKNOWN, 0, 0);
        add(rows, WOULD, UNKNOWN, 2, 2);
        add(rows, WOULD, NOT, 2, 0);
        add(rows, WOULD, NOT, 0, 1);
        add(rows, WOULD, NOT, 2, 4);
        add(rows, PUT, NOT, 0, 0, 2, NONE);
        add(rows, PUT, NOT, 0, 0, NONE, 0);
        add(rows, PUT, NOT, 0, 0, 0, 0);
        add(rows, PUT, NOT, 0, 0, 2, 2);
        add(rows, PUT, OUTSIDE, 2, 0, 2, 2);
        add(rows, PUT, OUTSIDE, 0, 10, 0, 0);
    }

    // ---- what is asked

    private static void questions(Kind kind) {
        for (int what = 0; what < 12; what++) {
            sameAfter(kind, "told", what);
        }
        int people = make(kind).ask("told", 0);
        for (int i = 0; i < 16 && people > 0; i++) {
            int p = i % people;
            sameAfter(kind, "person", p, i);
            sameAfter(kind, "quarter", p, i / 4, i % 2);
            sameAfter(kind, "kin", p, people - 1, i % 2);
            sameAfter(kind, "would", p, (i + 2) % people);
        }
        sameAfter(kind, "dated", 0, 999);
        sameAfter(kind, "dated", 310, 330);
        sameAfter(kind, "signAt", 0);
        sameAfter(kind, "signAt", 9);
    }

    /** Every call with the oddest numbers at every place: none throws, and what is not refused is no refusal's number. */
    private static void wildNumbers() {
        int[] odd = {LEAST, LEAST + 1, -1000, -32, -2, -1, 0, 1, 2, 9, 10, 15, 16, 31, 32, 999, 1000, 65536, MOST - 1, MOST};
        for (Kind kind : Kind.values()) {
            for (int call = 0; call < NAMES.length; call++) {
                int n = PARAMETERS[call];
                int combinations = 1;
                for (int i = 0; i < n; i++) {
                    combinations *= odd.length;
                }
                int step = n == 4 ? 37 : 1;
                Twin t = make(kind);
                for (int c = 0; c < combinations; c += step) {
                    int[] a = new int[n];
                    for (int i = 0, rest = c; i < n; i++, rest /= odd.length) {
                        a[i] = odd[rest % odd.length];
                    }
                    if (t.calls > 500) {
                        t = make(kind);
                    }
                    int got = t.ask(NAMES[call], a);
                    CHECK.holds(kind + ": " + Calls.text(NAMES[call], a) + " answers " + got, got >= NONE || got >= FULL && got <= UNKNOWN);
                }
            }
        }
    }
}
