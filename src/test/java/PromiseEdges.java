/** The boundary cases of the promises 1 to 21, clause by clause; RefusalsTest looks at what refused calls leave. */
final class PromiseEdges {
    private static final int NONE = CoatTraces.NONE, UNKNOWN = CoatTraces.UNKNOWN, OUTSIDE = CoatTraces.OUTSIDE;
    private static final int NOT = CoatTraces.NOT, FULL = CoatTraces.FULL;
    private static final int LEAST = Integer.MIN_VALUE, MOST = Integer.MAX_VALUE;
    private static final int MAN = 0, WOMAN = 1, WORN = 10;
    /** Numbers that are those of nobody, however many PEOPLE there are; 32 has the bit of 0, if bits are shifted. */
    private static final int[] NOBODY = {-1, 16, 17, 32, -16, -32, LEAST, MOST, LEAST + 1, MOST - 1, 1 << 16, 1 << 28};

    private final Sentences s;

    PromiseEdges(Sentences s) {
        this.s = s;
    }

    void run() {
        newObject();
        told();
        person();
        quarter();
        kin();
        would();
        dated();
        signAt();
        put();
        putRefused();
        born();
        died();
        rule();
        sign();
        wipe();
        drift();
        undo();
        write();
        tear();
        seed();
        keep();
        goBack();
        lastCall();
    }

    private void due(String call, int got, int want) {
        s.due(call, got, want);
    }

    private void dueAll(CoatTraces x, String name, int want, int[]... rows) {
        for (int[] a : rows) {
            due(Calls.text(name, a), Calls.ask(x, name, a), want);
        }
    }

    private static CoatTraces menOf(int count) {
        CoatTraces x = new CoatTraces();
        for (int p = 0; p < count; p++) {
            x.put(MAN, p % 10, NONE, NONE);
        }
        return x;
    }

    /** 0 a man of 1; 1 a man of 2, 2 his daughter, an heir; 3 the son of 0 and 2, who bears 1 2; 4 a woman of 5. */
    private static CoatTraces family() {
        CoatTraces x = new CoatTraces();
        x.put(MAN, 1, NONE, NONE);
        x.put(MAN, 2, NONE, NONE);
        x.put(WOMAN, 0, 1, NONE);
        x.put(MAN, 0, 0, 2);
        x.put(WOMAN, 5, NONE, NONE);
        return x;
    }

    private void newObject() {
        s.in("Promise 1");
        s.says("No PEOPLE.");
        CoatTraces x = new CoatTraces();
        due("PEOPLE", x.told(0), 0);
        due("no first one", x.person(0, 0), UNKNOWN);
        due("no RULE but 0", x.told(1), 0);
        due("no signs", x.told(2), 0);
        due("no BOOK", x.told(9), 0);
        due("nothing to be undone", x.undo(1), NOT);
        due("no IMAGE 0", x.goBack(0), NOT);
        due("no IMAGE 1", x.goBack(1), NOT);
        CoatTraces y = new CoatTraces();
        x.put(MAN, 1, NONE, NONE);
        x.keep(0);
        due("another object is new all the same", y.told(0), 0);
        due("and has no IMAGE", y.goBack(0), NOT);
    }

    private void told() {
        s.in("Promise 2");
        s.says("0 PEOPLE, 1 RULE, 2 signs of THE MONUMENT, 3 HEIRS (a SET), 4 COATS, 5 1 SPOILED, 0 not, 6 MEANT by ALL, "
            + "7 MEANT by SOME (SETS), 8 LIKELY, 9 entries of THE BOOK, 10 WRONG, 11 how many can be undone.");
        int[] empty = {0, 0, 0, 0, 0, 0, 0, 0, NONE, 0, NONE, 0};
        CoatTraces x = new CoatTraces();
        for (int what = 0; what < empty.length; what++) {
            due("empty: told(" + what + ")", x.told(what), empty[what]);
        }
        CoatTraces y = menOf(16);
        for (int i = 0; i < 10; i++) {
            y.sign(i);
        }
        for (int e = 0; e < 20; e++) {
            y.write(15, 0, e == 19 ? 9 : 5);
        }
        y.rule(2);
        int[] full = {16, 2, 10, 0, 10, 0, 0, 0, 0, 20, 19, 20};
        for (int what = 0; what < full.length; what++) {
            due("full: told(" + what + ")", y.told(what), full[what]);
        }
        CoatTraces z = family();
        z.sign(1);
        z.sign(WORN);
        z.born(0, 990, 999);
        z.write(0, 0, 1);
        int[] some = {5, 0, 2, 1 << 2, 4, 1, 1 << 3, 1 << 3, 0, 1, NONE, 8};
        for (int what = 0; what < some.length; what++) {
            due("between: told(" + what + ")", z.told(what), some[what]);
        }
        s.says("OUTSIDE.");
        dueAll(x, "told", OUTSIDE, new int[][] {{-1}, {12}, {LEAST}, {MOST}, {-12}});
        dueAll(y, "told", OUTSIDE, new int[][] {{-1}, {12}, {LEAST}, {MOST}, {-12}});
    }

    private void person() {
        s.in("Promise 3");
        s.says("Of one of the PEOPLE: what = 0 SEX, 1 ARMS, 2 FATHER, 3 MOTHER (NONE), 4 how many QUARTERS, 5 SAME COAT (a SET), "
            + "6 LIKE, 7 children (a SET), 8, 9 bounds of BORN, 10, 11 of DIED, as told, 12, 13, 14, 15 NARROWED (NONE: SPOILED).");
        CoatTraces x = family();
        x.sign(2);
        x.born(3, 200, 300);
        x.died(3, 290, 300);
        int[] first = {0, 1, NONE, NONE, 1, 1 << 0, 0, 1 << 3, 0, 999, 0, 999, 99, 285, 199, 385};
        int[] son = {0, 1, 0, 2, 2, 1 << 3, 1, 0, 200, 300, 290, 300, 200, 300, 290, 300};
        int[] last = {1, 5, NONE, NONE, 1, 1 << 4, 0, 0, 0, 999, 0, 999, 0, 999, 0, 999};
        for (int what = 0; what < 16; what++) {
            due("person(0, " + what + ")", x.person(0, what), first[what]);
            due("person(3, " + what + ")", x.person(3, what), son[what]);
            due("person(4, " + what + ")", x.person(4, what), last[what]);
        }
        x.died(3, 0, 199);
        for (int what = 12; what < 16; what++) {
            due("SPOILED: person(4, " + what + ")", x.person(4, what), NONE);
        }
        due("SPOILED: as told", x.person(3, 11), 199);
        s.says("UNKNOWN, OUTSIDE.");
        for (int p : NOBODY) {
            dueAll(x, "person", UNKNOWN, new int[][] {{p, 0}, {p, 15}, {p, 16}, {p, -1}});
        }
        dueAll(x, "person", UNKNOWN, new int[][] {{5, 0}, {5, 99}});
        dueAll(x, "person", OUTSIDE, new int[][] {{0, -1}, {0, 16}, {4, LEAST}, {4, MOST}});
        dueAll(menOf(16), "person", 0, new int[][] {{15, 0}});
        dueAll(menOf(16), "person", UNKNOWN, new int[][] {{16, 0}});
        dueAll(new CoatTraces(), "person", UNKNOWN, new int[][] {{0, 0}, {0, 16}});
    }

    private void quarter() {
        s.in("Promise 4");
        s.says("QUARTER k of one of the PEOPLE: what = 0 ARMS, 1 THROUGH whom; NONE: not so many.");
        CoatTraces x = family();
        due("the first", x.quarter(3, 0, 0) * 10 + x.quarter(3, 0, 1), 10);
        due("the last", x.quarter(3, 1, 0) * 10 + x.quarter(3, 1, 1), 21);
        for (int what = 0; what < 2; what++) {
            dueAll(x, "quarter", NONE, new int[][] {{3, 2, what}, {3, 9, what}, {3, 10, what}, {3, -1, what}, {3, LEAST, what}, {3, MOST, what}});
            dueAll(x, "quarter", NONE, new int[][] {{4, 1, what}, {3, -10, what}, {3, -30, what}, {0, 31, what}});
        }
        s.says("UNKNOWN, OUTSIDE (what).");
        for (int p : NOBODY) {
            dueAll(x, "quarter", UNKNOWN, new int[][] {{p, 0, 0}, {p, 0, 1}, {p, 0, 2}, {p, 99, -1}});
        }
        dueAll(x, "quarter", UNKNOWN, new int[][] {{5, 0, 0}, {5, -1, 2}});
        dueAll(x, "quarter", OUTSIDE, new int[][] {{0, 0, -1}, {0, 0, 2}, {0, 99, 2}, {0, -1, LEAST}, {0, LEAST, MOST}});
    }

    private void kin() {
        s.in("Promise 5");
        s.says("Of two of the PEOPLE (perhaps the same): what = 0 KIN, 1 NEAREST; NONE.");
        CoatTraces x = family();
        due("the same: KIN", x.kin(0, 0, 0), 0);
        due("the same: NEAREST", x.kin(4, 4, 1), 4);
        due("of kin: KIN", x.kin(3, 1, 0), 2);
        due("of kin: NEAREST", x.kin(1, 3, 1), 1);
        due("of no kin: KIN", x.kin(3, 4, 0), NONE);
        due("of no kin: NEAREST", x.kin(4, 3, 1), NONE);
        s.says("UNKNOWN, OUTSIDE.");
        for (int p : NOBODY) {
            dueAll(x, "kin", UNKNOWN, new int[][] {{p, 0, 0}, {0, p, 1}, {p, p, 0}, {p, 0, 2}, {0, p, -1}});
        }
        dueAll(x, "kin", UNKNOWN, new int[][] {{5, 4, 0}, {4, 5, 1}, {5, 5, 0}});
        dueAll(x, "kin", OUTSIDE, new int[][] {{0, 0, -1}, {0, 0, 2}, {3, 4, 2}, {0, 3, LEAST}, {0, 3, MOST}});
    }

    private void would() {
        s.in("Promise 6");
        s.says("WOULD of a man and a woman.");
        CoatTraces x = family();
        due("an HEIR", x.would(0, 2), 2);
        due("no HEIR", x.would(0, 4), 1);
        due("her FATHER: the same ARMS", x.would(1, 2), 1);
        s.says("UNKNOWN, NOT: not such ones.");
        for (int p : NOBODY) {
            dueAll(x, "would", UNKNOWN, new int[][] {{p, 2}, {0, p}, {p, 0}, {2, p}, {p, p}});
        }
        dueAll(x, "would", UNKNOWN, new int[][] {{5, 2}, {0, 5}, {0, 0}, {2, 2}});
        dueAll(x, "would", NOT, new int[][] {{2, 0}, {0, 1}, {2, 4}, {4, 2}, {4, 0}});
    }

    private void dated() {
        s.in("Promise 7");
        s.says("DATED between two YEARS (0 .. 999).");
        CoatTraces x = menOf(2);
        x.died(0, 0, 0);
        x.died(1, 999, 999);
        due("the first year", x.dated(0, 0), 1);
        due("the last year", x.dated(999, 999), 2);
        due("all between", x.dated(1, 998), 0);
        due("all", x.dated(0, 999), 3);
        s.says("OUTSIDE (the latter less, too).");
        int[][] wrong = {{-1, 999}, {0, 1000}, {-1, -1}, {1000, 1000}, {1, 0}, {999, 998}, {LEAST, 0}, {0, MOST}, {MOST, LEAST}, {LEAST, MOST}};
        dueAll(x, "dated", OUTSIDE, wrong);
        x.died(0, 0, 0);
        x.born(0, 1, 1);
        due("SPOILED", x.dated(0, 999), 0);
        dueAll(x, "dated", OUTSIDE, wrong);
        dueAll(new CoatTraces(), "dated", OUTSIDE, wrong);
    }

    private void signAt() {
        s.in("Promise 8");
        s.says("Sign k of THE MONUMENT: ARMS, 10 worn away; NONE: not so many.");
        CoatTraces x = new CoatTraces();
        dueAll(x, "signAt", NONE, new int[][] {{0}, {-1}, {LEAST}, {MOST}});
        x.sign(0);
        x.sign(WORN);
        x.sign(9);
        due("the first", x.signAt(0), 0);
        due("worn away", x.signAt(1), WORN);
        due("the last", x.signAt(2), 9);
        dueAll(x, "signAt", NONE, new int[][] {{3}, {9}, {10}, {-1}, {-3}, {LEAST}, {MOST}});
        x.undo(1);
        due("undone", x.signAt(2), NONE);
        for (int k = 2; k < 10; k++) {
            x.sign(k);
        }
        due("the tenth", x.signAt(9), 9);
        dueAll(x, "signAt", NONE, new int[][] {{10}, {11}, {-1}, {LEAST}, {MOST}});
    }

    private void put() {
        s.in("Promise 9");
        s.says("One more of the PEOPLE: the number.");
        CoatTraces x = new CoatTraces();
        due("the first", x.put(MAN, 0, NONE, NONE), 0);
        due("the second, of nobody's", x.put(WOMAN, 9, NONE, NONE), 1);
        due("of both", x.put(MAN, 0, 0, 1), 2);
        due("of a FATHER alone", x.put(MAN, 0, 2, NONE), 3);
        due("of a MOTHER alone", x.put(MAN, 0, NONE, 1), 4);
        x.undo(2);
        x.born(2, 200, 300);
        x.died(2, 250, 350);
        due("anew", x.put(WOMAN, 0, 2, NONE), 3);
        due("the years of those ahead are as they were", x.person(2, 8) + x.person(2, 9) + x.person(2, 10) + x.person(2, 11), 1100);
        due("the own years are those at first", x.person(3, 8) + x.person(3, 9) + x.person(3, 10) + x.person(3, 11), 1998);
        for (int p = 4; p < 16; p++) {
            due("until there are 16", x.put(MAN, 0, NONE, NONE), p);
        }
    }

    private void putRefused() {
        CoatTraces x = family();
        s.says("UNKNOWN (FATHER, MOTHER, but NONE)");
        for (int p : NOBODY) {
            if (p != NONE) {
                dueAll(x, "put", UNKNOWN, new int[][] {{0, 0, p, NONE}, {0, 0, NONE, p}, {0, 0, p, p}, {2, 0, p, NONE}, {0, 10, NONE, p}, {0, 0, 2, p}});
            }
        }
        dueAll(x, "put", UNKNOWN, new int[][] {{0, 0, 5, NONE}, {0, 0, NONE, 5}, {0, 0, -2, NONE}, {0, 0, NONE, -2}, {0, 0, 0, 5}, {0, 0, 5, 2}});
        s.says("OUTSIDE (SEX, ARMS)");
        dueAll(x, "put", OUTSIDE, new int[][] {{-1, 0, NONE, NONE}, {2, 0, NONE, NONE}, {LEAST, 0, NONE, NONE}, {MOST, 0, NONE, NONE}});
        dueAll(x, "put", OUTSIDE, new int[][] {{0, -1, NONE, NONE}, {0, 10, NONE, NONE}, {1, LEAST, NONE, NONE}, {1, MOST, NONE, NONE}});
        dueAll(x, "put", OUTSIDE, new int[][] {{0, 10, 0, 2}, {2, 0, 0, 2}, {0, -1, 2, 0}, {-1, 0, 0, 0}});
        s.says("NOT: the FATHER is no man, the MOTHER no woman (so, too, if one is told as both)");
        dueAll(x, "put", NOT, new int[][] {{0, 0, 2, NONE}, {0, 0, NONE, 0}, {0, 0, 2, 0}, {0, 0, 2, 4}, {0, 0, 0, 1}, {0, 0, 0, 0}, {0, 0, 2, 2}});
        due("nobody came", x.told(0), 5);
        s.says("FULL (16).");
        for (int p = 5; p < 16; p++) {
            x.put(WOMAN, 9, 0, 4);
        }
        dueAll(x, "put", FULL, new int[][] {{0, 0, NONE, NONE}, {1, 9, 0, 2}, {1, 9, 3, 15}});
        dueAll(x, "put", NOT, new int[][] {{0, 0, 15, NONE}, {0, 0, 0, 0}});
        dueAll(x, "put", OUTSIDE, new int[][] {{2, 0, NONE, NONE}, {0, 10, 15, 15}});
        dueAll(x, "put", UNKNOWN, new int[][] {{2, 10, 16, NONE}, {0, 0, NONE, 16}});
        x.undo(1);
        due("room again", x.put(MAN, 0, NONE, NONE), 15);
    }

    private static final int[][] NO_YEARS = {{-1, 999}, {0, 1000}, {-1, -1}, {1000, 1000}, {1, 0}, {999, 0}, {LEAST, MOST}, {MOST, LEAST}};

    private void dueYearsRefused(String name, CoatTraces x) {
        for (int[] y : NO_YEARS) {
            dueAll(x, name, OUTSIDE, new int[][] {{0, y[0], y[1]}, {1, y[0], y[1]}});
            dueAll(x, name, UNKNOWN, new int[][] {{2, y[0], y[1]}});
        }
        for (int p : NOBODY) {
            dueAll(x, name, UNKNOWN, new int[][] {{p, 0, 999}, {p, 5, 4}});
        }
        dueAll(new CoatTraces(), name, UNKNOWN, new int[][] {{0, 0, 999}, {0, 5, 4}});
    }

    private void born() {
        s.in("Promise 10");
        s.says("BORN between two YEARS: 1 SPOILED then, 0 not.");
        CoatTraces x = menOf(1);
        x.put(MAN, 0, 0, NONE);
        due("the widest", x.born(0, 0, 999), 0);
        due("the first year", x.born(0, 0, 0), 0);
        due("the last year that can be", x.born(0, 984, 984), 0);
        due("a year more", x.born(0, 985, 985), 1);
        due("told anew, wider than ahead", x.born(0, 100, 999), 0);
        due("from, as told", x.person(0, 8), 100);
        due("to, as told", x.person(0, 9), 999);
        due("DIED is as it was", x.person(0, 10) * 1000 + x.person(0, 11), 999);
        due("the other is as it was", x.person(1, 8) * 1000 + x.person(1, 9), 999);
        due("SPOILED by the child", x.born(1, 0, 114), 1);
        due("SPOILED still, by whatever of another", x.born(0, 100, 101), 1);
        due("no more", x.born(0, 99, 99), 0);
        s.says("UNKNOWN, OUTSIDE (YEARS, the latter less).");
        dueYearsRefused("born", x);
    }

    private void died() {
        s.in("Promise 11");
        s.says("DIED between two YEARS: 1 SPOILED then, 0 not.");
        CoatTraces x = menOf(1);
        x.put(MAN, 0, 0, NONE);
        due("the widest", x.died(0, 0, 999), 0);
        due("the last year", x.died(0, 999, 999), 0);
        due("the first year that can be", x.died(0, 14, 14), 0);
        due("a year less", x.died(0, 13, 13), 1);
        due("told anew, wider than ahead", x.died(0, 13, 999), 0);
        due("from, as told", x.person(0, 10), 13);
        due("from, NARROWED", x.person(0, 14), 14);
        due("to, as told", x.person(0, 11), 999);
        due("BORN is as it was", x.person(0, 8) * 1000 + x.person(0, 9), 999);
        due("the other is as it was", x.person(1, 10) * 1000 + x.person(1, 11), 999);
        due("SPOILED by the child", x.died(1, 0, 14), 1);
        due("no more", x.died(1, 0, 15), 0);
        s.says("UNKNOWN, OUTSIDE.");
        dueYearsRefused("died", x);
    }

    private void rule() {
        s.in("Promise 12");
        s.says("RULE (0 .. 2): COATS then.");
        CoatTraces x = family();
        x.put(MAN, 3, NONE, NONE);
        x.put(WOMAN, 0, 5, 2);
        x.put(WOMAN, 0, 5, NONE);
        x.put(MAN, 0, 0, 6);
        x.put(MAN, 0, 0, 7);
        due("the least: 1, 2, 1 2, 5, 3, 3 2, 1 3 2, 1 3", x.rule(0), 8);
        due("1 3 for 1 3 2", x.rule(1), 7);
        due("told 1", x.told(1), 1);
        due("the greatest", x.rule(2), 8);
        due("told 2", x.told(1), 2);
        due("nobody", new CoatTraces().rule(0), 0);
        s.says("OUTSIDE.");
        dueAll(x, "rule", OUTSIDE, new int[][] {{-1}, {3}, {LEAST}, {MOST}});
        due("the RULE stays", x.told(1), 2);
    }

    private void sign() {
        s.in("Promise 13");
        s.says("A sign (0 .. 9 ARMS, 10 worn away) comes behind THE MONUMENT: how many.");
        CoatTraces x = new CoatTraces();
        due("the least", x.sign(0), 1);
        due("the greatest of ARMS", x.sign(9), 2);
        due("worn away", x.sign(10), 3);
        due("behind", x.signAt(2), WORN);
        s.says("OUTSIDE, FULL (10).");
        dueAll(x, "sign", OUTSIDE, new int[][] {{-1}, {11}, {LEAST}, {MOST}});
        for (int i = 4; i <= 10; i++) {
            due("until there are ten", x.sign(1), i);
        }
        dueAll(x, "sign", FULL, new int[][] {{0}, {9}, {10}});
        dueAll(x, "sign", OUTSIDE, new int[][] {{-1}, {11}, {LEAST}, {MOST}});
        due("ten", x.told(2), 10);
        x.undo(1);
        due("room again", x.sign(2), 10);
    }

    private void wipe() {
        s.in("Promise 14");
        s.says("THE MONUMENT is empty: how many signs there were.");
        CoatTraces x = new CoatTraces();
        due("empty", x.wipe(), 0);
        due("a deed all the same", x.told(11), 1);
        x.sign(3);
        due("one", x.wipe(), 1);
        for (int i = 0; i < 10; i++) {
            x.sign(i);
        }
        due("full", x.wipe(), 10);
        due("no signs", x.told(2), 0);
        due("none at 0", x.signAt(0), NONE);
        due("room again", x.sign(4), 1);
    }

    private void drift() {
        s.in("Promise 15");
        s.says("n times BY DRAWS (1 .. 16): PEOPLE.");
        CoatTraces x = new CoatTraces();
        due("the least", x.drift(1), 1);
        due("fifteen", new CoatTraces().drift(15), 15);
        due("the greatest", new CoatTraces().drift(16), 16);
        due("more than there is room for", x.drift(16), 16);
        due("fifteen more deeds", x.told(11), 16);
        due("no room", x.drift(1), 16);
        due("no deed", x.told(11), 16);
        s.says("OUTSIDE.");
        dueAll(new CoatTraces(), "drift", OUTSIDE, new int[][] {{0}, {17}, {-1}, {LEAST}, {MOST}});
        dueAll(x, "drift", OUTSIDE, new int[][] {{0}, {17}, {-1}, {LEAST}, {MOST}});
    }

    private void undo() {
        s.in("Promise 16");
        s.says("The n latest (1 .. 20) are undone: PEOPLE.");
        CoatTraces x = menOf(16);
        due("the least", x.undo(1), 15);
        due("all that are left", x.undo(15), 0);
        CoatTraces y = menOf(16);
        for (int i = 0; i < 5; i++) {
            y.rule(i % 3);
        }
        due("the greatest", y.undo(20), 1);
        CoatTraces z = new CoatTraces();
        for (int i = 0; i < 60; i++) {
            z.rule(i % 3);
        }
        for (int i = 59; i > 40; i--) {
            z.undo(1);
            due("round the places: RULE ahead of deed " + i, z.told(1), (i - 1) % 3);
        }
        due("one is left", z.told(11), 1);
        s.says("OUTSIDE, NOT: not so many.");
        dueAll(z, "undo", NOT, new int[][] {{2}, {20}});
        due("the last", z.undo(1), 0);
        dueAll(z, "undo", NOT, new int[][] {{1}, {20}});
        dueAll(z, "undo", OUTSIDE, new int[][] {{0}, {21}, {-1}, {LEAST}, {MOST}});
        CoatTraces w = menOf(3);
        dueAll(w, "undo", NOT, new int[][] {{4}, {20}});
        dueAll(w, "undo", OUTSIDE, new int[][] {{0}, {21}});
        due("nothing was undone", w.told(0), 3);
    }

    private void write() {
        s.in("Promise 17");
        s.says("An entry behind THE BOOK (QUARTER k 0 .. 9, ARMS 0 .. 9): how many.");
        CoatTraces x = family();
        due("the least", x.write(0, 0, 0), 1);
        due("the greatest", x.write(4, 9, 9), 2);
        due("one that is wrong is written all the same", x.told(10), 0);
        s.says("UNKNOWN, OUTSIDE, FULL (20).");
        int[][] outside = {{0, -1, 0}, {0, 10, 0}, {0, 0, -1}, {0, 0, 10}, {0, LEAST, 0}, {0, MOST, 0}, {0, 0, LEAST}, {0, 0, MOST}};
        dueAll(x, "write", OUTSIDE, outside);
        for (int p : NOBODY) {
            dueAll(x, "write", UNKNOWN, new int[][] {{p, 0, 0}, {p, 10, 0}, {p, 0, -1}});
        }
        dueAll(x, "write", UNKNOWN, new int[][] {{5, 0, 0}});
        for (int e = 3; e <= 20; e++) {
            due("until there are twenty", x.write(0, 0, 1), e);
        }
        dueAll(x, "write", FULL, new int[][] {{0, 0, 1}, {4, 9, 9}});
        dueAll(x, "write", OUTSIDE, outside);
        dueAll(x, "write", UNKNOWN, new int[][] {{5, 0, 0}, {5, 10, 10}});
        due("twenty", x.told(9), 20);
        x.tear();
        due("room again", x.write(0, 0, 1), 1);
    }

    private void tear() {
        s.in("Promise 18");
        s.says("No BOOK: how much it had.");
        CoatTraces x = family();
        due("nothing", x.tear(), 0);
        x.write(0, 0, 2);
        due("one", x.tear(), 1);
        due("nothing is WRONG", x.told(10), NONE);
        for (int e = 0; e < 20; e++) {
            x.write(0, 0, 2);
        }
        due("full", x.tear(), 20);
        due("no entries", x.told(9), 0);
        due("nothing again", x.tear(), 0);
    }

    private void seed() {
        s.in("Promise 19");
        s.says("THE SEED becomes v (0 .. 2147483647): what it was.");
        CoatTraces x = new CoatTraces();
        due("0 at first", x.seed(MOST), 0);
        due("the greatest", x.seed(0), MOST);
        due("the least", x.seed(1), 0);
        s.says("OUTSIDE.");
        dueAll(x, "seed", OUTSIDE, new int[][] {{-1}, {LEAST}, {UNKNOWN}});
        due("it stays", x.seed(2), 1);
    }

    private void keep() {
        s.in("Promise 20");
        s.says("IMAGE i becomes what is so (nothing can be undone then): 1.");
        CoatTraces x = new CoatTraces();
        due("nobody", x.keep(0), 1);
        x.put(MAN, 1, NONE, NONE);
        x.sign(4);
        due("the last one", x.keep(1), 1);
        due("nothing can be undone", x.told(11), 0);
        due("not one", x.undo(1), NOT);
        due("all is as it was", x.told(0) * 10 + x.told(2), 11);
        due("IMAGE 0", x.goBack(0) * 10 + x.told(0), 10);
        due("IMAGE 1", x.goBack(1) * 10 + x.told(0), 11);
        x.put(MAN, 1, NONE, NONE);
        due("IMAGE 0 anew", x.keep(0), 1);
        x.undo(1);
        x.wipe();
        due("the latter one", x.goBack(0) * 10 + x.told(0), 12);
        s.says("UNKNOWN.");
        x.sign(3);
        dueAll(x, "keep", UNKNOWN, new int[][] {{-1}, {2}, {LEAST}, {MOST}, {16}});
        due("it can be undone still", x.told(11), 1);
    }

    private void goBack() {
        s.in("Promise 21");
        s.says("What is so becomes IMAGE i (nothing can be undone then): 1.");
        CoatTraces x = family();
        x.seed(9);
        x.keep(0);
        x.drift(4);
        int four = x.person(5, 0) + 10 * x.person(6, 0) + 100 * x.person(7, 0) + 1000 * x.person(8, 0);
        int seed = x.seed(1);
        due("back", x.goBack(0), 1);
        due("as many", x.told(0), 5);
        due("nothing can be undone", x.told(11), 0);
        due("not one", x.undo(1), NOT);
        x.drift(4);
        due("the same draws give the same", x.person(5, 0) + 10 * x.person(6, 0) + 100 * x.person(7, 0) + 1000 * x.person(8, 0), four);
        due("and the same SEED", x.seed(2), seed);
        due("back again", x.goBack(0), 1);
        due("as many again", x.told(0), 5);
        s.says("UNKNOWN, NOT: it was not kept.");
        x.sign(1);
        due("it was not kept", x.goBack(1), NOT);
        dueAll(x, "goBack", UNKNOWN, new int[][] {{-1}, {2}, {LEAST}, {MOST}, {16}});
        due("it can be undone still", x.told(11), 1);
        CoatTraces y = new CoatTraces();
        dueAll(y, "goBack", NOT, new int[][] {{0}, {1}});
        y.keep(1);
        dueAll(y, "goBack", NOT, new int[][] {{0}});
    }

    private void lastCall() {
        s.in("What it is");
        s.says("An object is used for at most 512 calls after it has been made; what later calls answer is free.");
        CoatTraces x = new CoatTraces();
        for (int call = 1; call < 512; call++) {
            due("call " + call, x.rule(call % 3), 0);
        }
        due("call 512", x.told(1), 511 % 3);
        CoatTraces y = new CoatTraces();
        for (int call = 1; call < 512; call += 2) {
            due("call " + call, y.put(MAN, 0, NONE, NONE), 0);
            due("call " + (call + 1), y.undo(1), 0);
        }
        CoatTraces z = new CoatTraces();
        for (int call = 1; call <= 512; call++) {
            due("call " + call, z.keep(call % 2), 1);
        }
    }
}
