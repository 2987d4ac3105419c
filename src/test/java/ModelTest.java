import java.util.Random;

/** Runs of 512 calls by chance, each answer compared with the plain model's; the chance is always the same. */
public final class ModelTest {
    private static final int RUNS = 1500;
    private static final int CALLS = 512;

    private final Check check = new Check();
    private final Random random = new Random(20261117);
    private CoatTraces x;
    private PlainModel m;
    private int run;
    /** Of a hundred numbers, how many are wild ones. */
    private int wild;

    public static void main(String[] args) {
        ModelTest t = new ModelTest();
        for (t.run = 0; t.run < RUNS && t.check.wrong() == 0; t.run++) {
            t.oneRun();
        }
        t.check.end();
    }

    private void oneRun() {
        x = new CoatTraces();
        m = new PlainModel();
        wild = run % 4 == 0 ? 8 : 1;
        if (run % 2 == 0) {
            due("keep(0)", x.keep(0), m.keep(0));
        }
        if (run % 3 == 0) {
            int v = random.nextInt() & Integer.MAX_VALUE;
            due("seed", x.seed(v), m.seed(v));
        }
        for (int call = 0; call < CALLS; call++) {
            switch (run % 5) {
                case 0: anyCall(random.nextInt(24)); break;
                case 1: anyCall(random.nextInt(3) == 0 ? 7 : random.nextInt(24)); break;
                case 2: anyCall(random.nextInt(3) == 0 ? 8 + random.nextInt(2) : random.nextInt(24)); break;
                case 3: anyCall(random.nextInt(3) == 0 ? random.nextInt(7) : random.nextInt(14)); break;
                default: anyCall(random.nextInt(4) == 0 ? 11 : random.nextInt(24)); break;
            }
        }
        lookAtAll();
    }

    private void anyCall(int which) {
        int people = m.told(0);
        int p = number(-1, people), q = number(-1, people), r = number(-1, people);
        int a = number(0, 9), k = number(0, 10), v = number(0, 2);
        int from = year(), to = random.nextInt(5) == 0 ? year() : Math.min(999, from + random.nextInt(120));
        switch (which) {
            case 0: v = number(-1, 12); due("told(" + v + ")", x.told(v), m.told(v)); break;
            case 1: v = number(-1, 16); due("person(" + p + ", " + v + ")", x.person(p, v), m.person(p, v)); break;
            case 2: v = number(0, 1); due("quarter(" + p + ", " + k + ", " + v + ")", x.quarter(p, k, v), m.quarter(p, k, v)); break;
            case 3: v = number(0, 1); due("kin(" + p + ", " + q + ", " + v + ")", x.kin(p, q, v), m.kin(p, q, v)); break;
            case 4: due("would(" + p + ", " + q + ")", x.would(p, q), m.would(p, q)); break;
            case 5: due("dated(" + from + ", " + to + ")", x.dated(from, to), m.dated(from, to)); break;
            case 6: due("signAt(" + k + ")", x.signAt(k), m.signAt(k)); break;
            case 7: onePut(); break;
            case 8: oneBirth(p, from, to); break;
            case 9: oneDeath(p, from, to); break;
            case 10: due("rule(" + v + ")", x.rule(v), m.rule(v)); break;
            case 11: oneSign(r); break;
            case 12: if (random.nextInt(4) == 0) { due("wipe()", x.wipe(), m.wipe()); } break;
            case 13: v = run % 5 == 1 && random.nextInt(8) != 0 ? 0 : number(0, 4); due("drift(" + v + ")", x.drift(v), m.drift(v)); break;
            case 14: v = random.nextInt(8) == 0 ? number(0, 21) : number(0, 4); due("undo(" + v + ")", x.undo(v), m.undo(v)); break;
            case 15: oneEntry(p, k, a); break;
            case 16: if (random.nextInt(8) == 0) { due("tear()", x.tear(), m.tear()); } break;
            case 17: v = random.nextInt(); due("seed(" + v + ")", x.seed(v), m.seed(v)); break;
            case 18: if (random.nextInt(4) == 0) { due("keep(" + v + ")", x.keep(v), m.keep(v)); } break;
            case 19: if (random.nextInt(4) == 0) { due("goBack(" + v + ")", x.goBack(v), m.goBack(v)); } break;
            case 20: if (random.nextInt(12) == 0) { lookAtAll(); } break;
            default: onePut(); break;
        }
    }

    /** Years are mostly set about one that can be, as nearly all would be spoiled else. */
    private void oneBirth(int p, int from, int to) {
        int year = possible(p, 12);
        int a = year < 0 ? from : Math.max(0, year - random.nextInt(60)), b = year < 0 ? to : Math.min(999, year + random.nextInt(60));
        due("born(" + p + ", " + a + ", " + b + ")", x.born(p, a, b), m.born(p, a, b));
    }

    private void oneDeath(int p, int from, int to) {
        int year = possible(p, 14);
        int a = year < 0 ? from : Math.max(0, year - random.nextInt(60)), b = year < 0 ? to : Math.min(999, year + random.nextInt(60));
        due("died(" + p + ", " + a + ", " + b + ")", x.died(p, a, b), m.died(p, a, b));
    }

    private int possible(int p, int what) {
        int least = m.person(p, what), greatest = m.person(p, what + 1);
        return least < 0 || random.nextInt(12) == 0 ? -1 : least + random.nextInt(greatest - least + 1);
    }

    /** Parents are mostly chosen by their sex and mothers among heirs, as few would be taken, few bring arms else. */
    private void onePut() {
        if (run % 5 == 1 || run % 5 == 4) {
            oneOfHouse();
            return;
        }
        int sex = random.nextInt(3) == 0 ? number(0, 1) : 1, arms = number(0, 9);
        int father = random.nextInt(2) == 0 ? -1 : parent(0), mother = random.nextInt(5) == 0 ? parent(1) : anHeir();
        due("put(" + sex + ", " + arms + ", " + father + ", " + mother + ")", x.put(sex, arms, father, mother), m.put(sex, arms, father, mother));
    }

    /** A new house that an heir marries into, or the daughter of the latest man: so many quarters come together. */
    private void oneOfHouse() {
        int man = m.told(0) - 1;
        while (man >= 0 && m.person(man, 0) != 0) {
            man--;
        }
        boolean daughter = man >= 0 && random.nextInt(5) > 1;
        int arms = number(0, 9), father = daughter ? man : -1, mother = anHeir(), sex = daughter ? 1 : 0;
        due("put(" + sex + ", " + arms + ", " + father + ", " + mother + ")", x.put(sex, arms, father, mother), m.put(sex, arms, father, mother));
    }

    /** The latest heir but few, so that arms heap up. */
    private int anHeir() {
        for (int p = m.told(0) - 1; p >= 0; p--) {
            if ((m.told(3) >> p & 1) == 1 && random.nextInt(3) != 0) {
                return p;
            }
        }
        return -1;
    }

    private int parent(int sex) {
        int people = m.told(0);
        if (random.nextInt(4) == 0) {
            return -1;
        }
        for (int i = 0; i < 8; i++) {
            int p = Math.max(number(0, people), random.nextInt(people + 1));
            if (random.nextInt(100) < wild || m.person(p, 0) == sex) {
                return p;
            }
        }
        return -1;
    }

    /** Signs are mostly taken from what somebody bears, as few would be found else. */
    private void oneSign(int p) {
        int v = m.quarter(p, m.told(2), 0);
        if (v < 0 || random.nextInt(3) == 0) {
            v = number(0, 10);
        }
        due("sign(" + v + ")", x.sign(v), m.sign(v));
    }

    private void oneEntry(int p, int k, int arms) {
        int is = m.quarter(p, k, 0);
        int v = is >= 0 && random.nextInt(10) != 0 ? is : arms;
        due("write(" + p + ", " + k + ", " + v + ")", x.write(p, k, v), m.write(p, k, v));
    }

    private int number(int from, int to) {
        if (random.nextInt(100) < wild) {
            int[] odd = {Integer.MIN_VALUE, Integer.MAX_VALUE, -2, -1, from - 1, to + 1, 16, 32, random.nextInt()};
            return odd[random.nextInt(odd.length)];
        }
        return from + random.nextInt(to - from + 1);
    }

    private int year() {
        if (random.nextInt(100) < wild) {
            int[] odd = {-1, 1000, Integer.MIN_VALUE, Integer.MAX_VALUE, 0, 999};
            return odd[random.nextInt(odd.length)];
        }
        return random.nextInt(3) == 0 ? random.nextInt(1000) : 300 + random.nextInt(200);
    }

    private void lookAtAll() {
        for (int what = 0; what < 12; what++) {
            due("told(" + what + ")", x.told(what), m.told(what));
        }
        int people = m.told(0);
        for (int p = 0; p < people; p++) {
            for (int what = 0; what < 16; what++) {
                due("person(" + p + ", " + what + ")", x.person(p, what), m.person(p, what));
            }
            for (int k = 0; k < 10; k++) {
                due("quarter(" + p + ", " + k + ", 0)", x.quarter(p, k, 0), m.quarter(p, k, 0));
                due("quarter(" + p + ", " + k + ", 1)", x.quarter(p, k, 1), m.quarter(p, k, 1));
            }
            for (int q = 0; q < people; q++) {
                due("kin(" + p + ", " + q + ", 0)", x.kin(p, q, 0), m.kin(p, q, 0));
                due("kin(" + p + ", " + q + ", 1)", x.kin(p, q, 1), m.kin(p, q, 1));
                due("would(" + p + ", " + q + ")", x.would(p, q), m.would(p, q));
            }
        }
        for (int k = 0; k < 10; k++) {
            due("signAt(" + k + ")", x.signAt(k), m.signAt(k));
        }
    }

    private void due(String call, int got, int want) {
        check.due("run " + run + ": " + call, got, want);
    }
}
