import java.math.BigInteger;

/** The boundary cases of "Terms", sentence by sentence. */
final class TermsEdges {
    private static final int NONE = CoatTraces.NONE, UNKNOWN = CoatTraces.UNKNOWN, OUTSIDE = CoatTraces.OUTSIDE;
    private static final int NOT = CoatTraces.NOT, FULL = CoatTraces.FULL;
    private static final int MAN = 0, WOMAN = 1, WORN = 10;
    private static final int ALL_SIXTEEN = 65535;

    private final Sentences s;

    TermsEdges(Sentences s) {
        this.s = s;
    }

    void run() {
        s.in("Terms");
        numbers();
        sets();
        refusals();
        people();
        parents();
        arms();
        heirs();
        quarters();
        quartersByRule();
        through();
        years();
        lives();
        parentsAndChildren();
        narrowed();
        spoiled();
        monument();
        meantByAll();
        meantBySome();
        like();
        likely();
        asked();
        coats();
        dated();
        kin();
        would();
        book();
        seed();
        draws();
        undone();
        images();
    }

    private void due(String call, int got, int want) {
        s.due(call, got, want);
    }

    private static CoatTraces menOf(int count, int arms) {
        CoatTraces x = new CoatTraces();
        for (int p = 0; p < count; p++) {
            x.put(MAN, arms, NONE, NONE);
        }
        return x;
    }

    /** 0 a man of 1; 1 a man of 2, 2 his daughter, an heir; 3 the son of 0 and 2, who bears 1 2. */
    private static CoatTraces family() {
        CoatTraces x = new CoatTraces();
        x.put(MAN, 1, NONE, NONE);
        x.put(MAN, 2, NONE, NONE);
        x.put(WOMAN, 0, 1, NONE);
        x.put(MAN, 0, 0, 2);
        return x;
    }

    private void dueRow(String who, CoatTraces x, int p, int... arms) {
        due(who + ": how many", x.person(p, 4), arms.length);
        for (int k = 0; k < arms.length; k++) {
            due(who + ": quarter " + k, x.quarter(p, k, 0), arms[k]);
        }
        due(who + ": none behind", x.quarter(p, arms.length, 0), NONE);
    }

    private void dueThrough(String who, CoatTraces x, int p, int... through) {
        for (int k = 0; k < through.length; k++) {
            due(who + ": through whom quarter " + k, x.quarter(p, k, 1), through[k]);
        }
        due(who + ": nobody behind", x.quarter(p, through.length, 1), NONE);
    }

    private void dueYears(String who, CoatTraces x, int p, int... want) {
        for (int i = 0; i < 4; i++) {
            due(who + ": person(" + p + ", " + (12 + i) + ")", x.person(p, 12 + i), want[i]);
        }
    }

    private static void row(CoatTraces x, int... signs) {
        x.wipe();
        for (int v : signs) {
            x.sign(v);
        }
    }

    // ---- ahead of the parts

    private void numbers() {
        s.tells("Words in capitals are told where they come first. All numbers are whole.");
        s.says("What has a number has it from 0 on.");
        CoatTraces x = new CoatTraces();
        due("the first of the PEOPLE", x.put(MAN, 5, NONE, NONE), 0);
        due("the second", x.put(MAN, 5, NONE, NONE), 1);
        x.sign(7);
        due("the first sign", x.signAt(0), 7);
        due("the first QUARTER", x.quarter(0, 0, 0), 5);
        x.write(0, 0, 6);
        due("the first entry of THE BOOK", x.told(10), 0);
        due("the first IMAGE", x.keep(0), 1);
    }

    private void sets() {
        s.says("A SET is a whole number, bit k for k (of PEOPLE, if nothing else is told).");
        CoatTraces x = menOf(16, 3);
        x.sign(3);
        due("all sixteen meant by ALL", x.told(6), ALL_SIXTEEN);
        due("all sixteen meant by SOME", x.told(7), ALL_SIXTEEN);
        due("all sixteen bear the same", x.person(15, 5), ALL_SIXTEEN);
        due("all sixteen dated", x.dated(0, 999), ALL_SIXTEEN);
        CoatTraces y = menOf(1, 3);
        for (int p = 1; p < 16; p++) {
            y.put(WOMAN, 0, 0, NONE);
        }
        due("fifteen heirs, the last has bit 15", y.told(3), ALL_SIXTEEN - 1);
        due("fifteen children, the last has bit 15", y.person(0, 7), ALL_SIXTEEN - 1);
        due("none: 0", y.person(15, 7), 0);
        y.died(15, 500, 500);
        y.born(0, 400, 400);
        for (int p = 0; p < 15; p++) {
            y.died(p, 0, 499);
        }
        due("bit 15 alone", y.dated(500, 500), 1 << 15);
    }

    private void refusals() {
        s.says("NONE is -1.");
        due("NONE", CoatTraces.NONE, -1);
        s.says("REFUSALS, of several the first in this order: UNKNOWN (one of the PEOPLE, an IMAGE that there is not; "
            + "one twice, where two are asked), OUTSIDE (another number out of its bounds), NOT (not now, as told), FULL.");
        CoatTraces x = menOf(16, 3);
        due("all four: UNKNOWN", x.put(2, 10, 16, 0), UNKNOWN);
        due("the last three: OUTSIDE", x.put(2, 10, NONE, 0), OUTSIDE);
        due("the last two: NOT", x.put(MAN, 9, NONE, 0), NOT);
        due("the last: FULL", x.put(MAN, 9, NONE, NONE), FULL);
        due("an IMAGE that there is not", x.keep(2), UNKNOWN);
        due("one twice, where two are asked, ahead of NOT", x.would(0, 0), UNKNOWN);
        s.says("They are far below all that is counted: -1000000001 and on.");
        due("UNKNOWN", CoatTraces.UNKNOWN, -1000000001);
        due("OUTSIDE", CoatTraces.OUTSIDE, -1000000002);
        due("NOT", CoatTraces.NOT, -1000000003);
        due("FULL", CoatTraces.FULL, -1000000004);
        s.says("What is refused changes nothing.");
        due("a refused put is no deed (RefusalsTest has all the others)", x.put(MAN, 9, NONE, NONE) + x.told(11), FULL + 16);
    }

    // ---- 1 PEOPLE

    private void people() {
        s.says("1 PEOPLE (16 at most; none at first) are numbered as they came: a SEX (0 man, 1 woman)");
        CoatTraces x = new CoatTraces();
        due("none at first", x.told(0), 0);
        due("0 is not there", x.person(0, 0), UNKNOWN);
        for (int p = 0; p < 16; p++) {
            due("put number " + p, x.put(p % 2, 0, NONE, NONE), p);
            due("SEX of " + p, x.person(p, 0), p % 2);
            due(p + 1 + " is not there", x.person(p + 1, 0), UNKNOWN);
        }
        due("a seventeenth", x.put(MAN, 0, NONE, NONE), FULL);
        due("sixteen", x.told(0), 16);
        x.undo(1);
        due("the sixteenth is there no more", x.person(15, 0), UNKNOWN);
        due("another has the number anew", x.put(MAN, 0, NONE, NONE), 15);
        due("and another SEX", x.person(15, 0), MAN);
    }

    private void parents() {
        s.says("a FATHER (a man told ahead, or NONE), a MOTHER (a woman told ahead, or NONE)");
        CoatTraces x = new CoatTraces();
        due("nobody is the own FATHER", x.put(MAN, 0, 0, NONE), UNKNOWN);
        due("nobody is the own MOTHER", x.put(WOMAN, 0, NONE, 0), UNKNOWN);
        due("neither", x.put(MAN, 0, NONE, NONE), 0);
        due("the latest is told ahead", x.put(WOMAN, 0, 0, NONE), 1);
        due("told behind", x.put(WOMAN, 0, NONE, 2), UNKNOWN);
        due("the FATHER of one's MOTHER may be one's FATHER", x.put(MAN, 0, 0, 1), 2);
        due("FATHER of 2", x.person(2, 2), 0);
        due("MOTHER of 2", x.person(2, 3), 1);
        due("FATHER of 0", x.person(0, 2), NONE);
        due("MOTHER of 0", x.person(0, 3), NONE);
    }

    private void arms() {
        s.says("ARMS (0 .. 9): of one without a FATHER those told, else those of the FATHER.");
        CoatTraces x = new CoatTraces();
        due("the least", x.put(MAN, 0, NONE, NONE), 0);
        due("the greatest", x.put(MAN, 9, NONE, NONE), 1);
        due("too small", x.put(MAN, -1, NONE, NONE), OUTSIDE);
        due("too large", x.put(MAN, 10, NONE, NONE), OUTSIDE);
        due("ARMS of 0", x.person(0, 1), 0);
        due("ARMS of 1", x.person(1, 1), 9);
        x.put(WOMAN, 4, 1, NONE);
        due("those of the FATHER, not those told", x.person(2, 1), 9);
        x.put(MAN, 4, NONE, 2);
        due("with a MOTHER alone those told, not hers", x.person(3, 1), 4);
        x.put(MAN, 7, 3, 2);
        due("those of the FATHER, not of the MOTHER", x.person(4, 1), 4);
    }

    private void heirs() {
        s.says("HEIR: a woman with a FATHER of whom no man is a child.");
        CoatTraces x = new CoatTraces();
        x.put(MAN, 1, NONE, NONE);
        x.put(WOMAN, 2, NONE, NONE);
        due("a woman without a FATHER", x.told(3), 0);
        x.put(WOMAN, 0, 0, 1);
        due("an only child", x.told(3), 1 << 2);
        x.put(WOMAN, 0, 0, NONE);
        due("two sisters, both", x.told(3), 1 << 2 | 1 << 3);
        x.put(MAN, 3, NONE, 1);
        due("a man of the MOTHER alone is no bar", x.told(3), 1 << 2 | 1 << 3);
        x.put(MAN, 0, 4, 2);
        due("nor is the own son", x.told(3), 1 << 2 | 1 << 3);
        x.put(MAN, 0, 0, 3);
        due("a man of the FATHER by whomever bars all", x.told(3), 0);
        x.undo(1);
        due("undone, he bars none", x.told(3), 1 << 2 | 1 << 3);
        x.put(WOMAN, 5, NONE, 3);
        due("a woman with a MOTHER alone is none", x.told(3), 1 << 2 | 1 << 3);
    }

    private void quarters() {
        s.says("QUARTERS: a row of ARMS, each once (what comes again later is left out).");
        CoatTraces x = family();
        x.put(MAN, 2, NONE, NONE);
        x.put(WOMAN, 0, 4, NONE);
        x.put(MAN, 0, 3, 5);
        dueRow("1 2 and then 2", x, 6, 1, 2);
        x.put(MAN, 1, NONE, 2);
        dueRow("1 and then 2", x, 7, 1, 2);
        x.put(MAN, 2, NONE, 2);
        dueRow("2 and then 2", x, 8, 2);
        s.says("Those of one without a FATHER and MOTHER: the own ARMS.");
        for (int rule = 0; rule < 3; rule++) {
            x.rule(rule);
            dueRow("by rule " + rule, x, 0, 1);
        }
    }

    /**
     * 0 a man of 1; 1 a man of 2, 2 his heir; 3 the son of 0 and 2. 4 a man of 3; 5 a man of 4, 6 his heir; 7 the heir
     * of 4 and 6. 8 the son of 3 and 7; 9 a man of 5 without a FATHER, his MOTHER is 7; 10 of a MOTHER who is no HEIR.
     */
    private static CoatTraces twoFamilies() {
        CoatTraces x = family();
        x.put(MAN, 3, NONE, NONE);
        x.put(MAN, 4, NONE, NONE);
        x.put(WOMAN, 0, 5, NONE);
        x.put(WOMAN, 0, 4, 6);
        x.put(MAN, 0, 3, 7);
        x.put(MAN, 5, NONE, 7);
        x.put(WOMAN, 6, NONE, NONE);
        x.put(MAN, 0, 3, 10);
        return x;
    }

    private void quartersByRule() {
        CoatTraces x = twoFamilies();
        s.says("By RULE (0 at first)");
        due("RULE of a new object", new CoatTraces().told(1), 0);
        s.says("0 QUARTERS of the FATHER (own ARMS, if there is none), then, if the MOTHER is an HEIR, QUARTERS of the MOTHER");
        dueRow("FATHER, MOTHER", x, 8, 1, 2, 3, 4);
        dueRow("no FATHER", x, 9, 5, 3, 4);
        dueRow("no HEIR", x, 11, 1, 2);
        s.says("1 these of the FATHER (own ARMS), then, if the MOTHER is an HEIR, her first one");
        x.rule(1);
        dueRow("FATHER, MOTHER", x, 8, 1, 2, 3);
        dueRow("no FATHER", x, 9, 5, 3);
        dueRow("no HEIR", x, 11, 1, 2);
        CoatTraces y = twoFamilies();
        y.undo(2);
        y.rule(1);
        y.put(MAN, 3, NONE, 7);
        dueRow("her first one is there, her second one does not come for it", y, 10, 3);
        s.says("2 own ARMS, then, if the MOTHER is an HEIR, QUARTERS of the MOTHER, then those of the FATHER");
        x.rule(2);
        dueRow("FATHER, MOTHER", x, 8, 1, 3, 4, 2);
        dueRow("no FATHER", x, 9, 5, 3, 4);
        dueRow("no HEIR", x, 11, 1, 2);
    }

    private void through() {
        s.says("THROUGH whom a QUARTER came: for the own ARMS of one without a FATHER: that one");
        CoatTraces x = twoFamilies();
        dueThrough("neither FATHER nor MOTHER", x, 0, 0);
        dueThrough("a MOTHER alone", x, 9, 9, 4, 5);
        x.put(MAN, 3, NONE, 7);
        dueThrough("the own, though the MOTHER brings the same", x, 12, 12, 5);
        s.says("else the one THROUGH whom it came to the FATHER, the MOTHER, of whose QUARTERS it was taken (own ARMS: to the FATHER).");
        dueThrough("rule 0", x, 8, 0, 1, 4, 5);
        x.rule(1);
        dueThrough("rule 1", x, 8, 0, 1, 4);
        x.rule(2);
        dueThrough("rule 2", x, 8, 0, 4, 5, 1);
        CoatTraces y = family();
        y.put(MAN, 1, NONE, NONE);
        y.put(WOMAN, 0, 4, NONE);
        y.put(MAN, 0, 3, 5);
        for (int rule = 0; rule < 3; rule++) {
            y.rule(rule);
            dueThrough("own ARMS to the FATHER, by rule " + rule, y, 6, 0, 1);
        }
        CoatTraces z = family();
        z.put(MAN, 2, NONE, NONE);
        z.put(WOMAN, 0, 4, NONE);
        z.put(MAN, 0, 3, 5);
        dueThrough("2 of the FATHER, which came first", z, 6, 0, 1);
        z.rule(2);
        dueThrough("2 of the MOTHER, which came first", z, 6, 0, 4);
    }

    private void years() {
        s.says("YEARS are 0 .. 999.");
        CoatTraces x = menOf(1, 0);
        due("from too small", x.born(0, -1, 5), OUTSIDE);
        due("to too large", x.born(0, 5, 1000), OUTSIDE);
        due("the least", x.born(0, 0, 0), 0);
        due("the greatest", x.born(0, 999, 999), 0);
        s.says("Each of the PEOPLE is BORN in a year between two bounds, DIED between two bounds (0, 999 at first).");
        CoatTraces y = menOf(16, 0);
        for (int p = 0; p < 16; p += 15) {
            due("BORN from", y.person(p, 8), 0);
            due("BORN to", y.person(p, 9), 999);
            due("DIED from", y.person(p, 10), 0);
            due("DIED to", y.person(p, 11), 999);
        }
    }

    // ---- 2 MUST BE

    /** Whether it is SPOILED, when 0 was born and died in these years. */
    private static int spoiledBy(CoatTraces x, int born, int died) {
        x.born(0, born, born);
        return x.died(0, died, died);
    }

    private void lives() {
        s.says("2 MUST BE: DIED is no less than BORN, no more than 100 more");
        CoatTraces x = menOf(1, 0);
        due("in the same year", spoiledBy(x, 500, 500), 0);
        due("a year too early", spoiledBy(x, 500, 499), 1);
        due("100 years", spoiledBy(x, 500, 600), 0);
        due("101 years", spoiledBy(x, 500, 601), 1);
        due("in the first year", spoiledBy(x, 0, 0), 0);
        due("in the last year", spoiledBy(x, 999, 999), 0);
        due("100 years from the first", spoiledBy(x, 0, 100), 0);
        due("101 years from the first", spoiledBy(x, 0, 101), 1);
        due("100 years to the last", spoiledBy(x, 899, 999), 0);
        due("101 years to the last", spoiledBy(x, 898, 999), 1);
    }

    /** 0 with a child, 1, of whom only the birth is told. */
    private static CoatTraces parentAndChild(int sex) {
        CoatTraces x = new CoatTraces();
        x.put(sex, 0, NONE, NONE);
        x.put(MAN, 0, sex == MAN ? 0 : NONE, sex == WOMAN ? 0 : NONE);
        return x;
    }

    private void dueChild(int sex, int born, int died, int childBorn, int want) {
        CoatTraces x = parentAndChild(sex);
        x.born(1, childBorn, childBorn);
        due("a parent of SEX " + sex + ", " + born + " to " + died + ", a child born " + childBorn, spoiledBy(x, born, died), want);
    }

    private void parentsAndChildren() {
        s.says("a child is BORN 15 YEARS or more behind either parent");
        dueChild(MAN, 100, 200, 115, 0);
        dueChild(MAN, 100, 200, 114, 1);
        dueChild(WOMAN, 100, 200, 115, 0);
        dueChild(WOMAN, 100, 200, 114, 1);
        s.says("no more than 50 behind the MOTHER");
        dueChild(WOMAN, 100, 200, 150, 0);
        dueChild(WOMAN, 100, 200, 151, 1);
        dueChild(MAN, 100, 200, 151, 0);
        s.says("not behind the year in which the MOTHER DIED");
        dueChild(WOMAN, 100, 120, 120, 0);
        dueChild(WOMAN, 100, 120, 121, 1);
        s.says("no more than 1 behind that in which the FATHER DIED.");
        dueChild(MAN, 100, 120, 121, 0);
        dueChild(MAN, 100, 120, 122, 1);
        dueChild(MAN, 100, 200, 201, 0);
        dueChild(MAN, 100, 200, 202, 1);
        dueChild(MAN, 100, 114, 115, 0);
        dueChild(MAN, 100, 113, 115, 1);
    }

    private void narrowed() {
        s.says("NARROWED: for each the least and the greatest YEAR that it can have, if each of all these YEARS of all the "
            + "PEOPLE is chosen between its bounds such that all of this is so.");
        CoatTraces x = menOf(1, 0);
        dueYears("one alone: nothing is narrowed", x, 0, 0, 999, 0, 999);
        x.put(MAN, 0, 0, NONE);
        x.put(MAN, 0, 1, NONE);
        x.died(2, 0, 50);
        dueYears("the grandfather", x, 0, 0, 20, 14, 120);
        dueYears("the father", x, 1, 15, 35, 29, 135);
        dueYears("the son", x, 2, 30, 50, 30, 50);
        due("as told all the same", x.person(0, 9), 999);
        x.born(0, 20, 20);
        dueYears("nothing is left to choose", x, 1, 35, 35, 49, 135);
        CoatTraces m = parentAndChild(WOMAN);
        m.put(MAN, 0, NONE, 0);
        m.born(1, 400, 400);
        dueYears("a brother: 35 behind or ahead", m, 2, 365, 435, 365, 535);
        m.died(0, 0, 420);
        dueYears("not behind the death of the MOTHER", m, 2, 365, 420, 365, 520);
        dueYears("the MOTHER", m, 0, 350, 385, 400, 420);
    }

    private void spoiled() {
        s.says("SPOILED: they cannot be chosen so.");
        CoatTraces x = parentAndChild(MAN);
        due("a FATHER born in year 0 at the earliest", x.born(1, 15, 15), 0);
        dueYears("he was", x, 0, 0, 0, 14, 100);
        due("ahead of year 0", x.born(1, 14, 14), 1);
        dueYears("SPOILED for all", x, 0, NONE, NONE, NONE, NONE);
        x.undo(2);
        due("a child born in year 999 at the latest", x.born(0, 984, 999), 0);
        dueYears("it was", x, 1, 999, 999, 999, 999);
        due("behind year 999", x.born(0, 985, 999), 1);
        due("each alone could be, both cannot", x.undo(1) + x.born(1, 0, 998), 3);
        due("no longer when one bound is moved by a year", x.born(1, 0, 999), 0);
        due("nobody, nothing to choose", new CoatTraces().told(5), 0);
        spoiledAndNobody();
    }

    /** Once there were people whose years cannot be: when all of them are gone, nothing is left to be SPOILED. */
    private void spoiledAndNobody() {
        CoatTraces x = new CoatTraces();
        x.keep(1);
        x.put(MAN, 0, NONE, NONE);
        due("one", spoiledBy(x, 500, 499), 1);
        due("undone", x.undo(3), 0);
        due("nobody again by undo", x.told(5), 0);
        due("another, whose years are those at first", x.put(MAN, 0, NONE, NONE) + x.told(5), 0);
        dueYears("another", x, 0, 0, 999, 0, 999);
        due("SPOILED once more", spoiledBy(x, 500, 601), 1);
        due("back", x.goBack(1), 1);
        due("nobody again by goBack", x.told(5), 0);
        due("nobody is DATED", x.dated(0, 999), 0);
    }

    private void monument() {
        s.says("THE MONUMENT is a row of signs (10 at most): ARMS, or worn away (any).");
        CoatTraces x = new CoatTraces();
        due("empty at first", x.told(2), 0);
        for (int v = 1; v <= 10; v++) {
            due("sign " + v, x.sign(v), v);
        }
        due("the eleventh", x.sign(0), FULL);
        due("ARMS", x.signAt(0), 1);
        due("worn away", x.signAt(9), WORN);
        due("11 is no sign", x.wipe() * 0 + x.sign(11), OUTSIDE);
    }

    private void meantByAll() {
        s.says("MEANT by KIND: 0 ALL: PEOPLE with as many QUARTERS, each as the sign tells");
        CoatTraces x = twoFamilies();
        row(x, 1, 2, 3);
        due("a sign too few for 8", x.told(6), 0);
        row(x, 1, 2, 3, 4);
        due("as many", x.told(6), 1 << 8);
        row(x, 1, 2, 3, 4, WORN);
        due("a sign too many", x.told(6), 0);
        row(x, 1, 3, 2, 4);
        due("in another order", x.told(6), 0);
        row(x, 1, 2, 3, 5);
        due("the last is another", x.told(6), 0);
        row(x, WORN, WORN, WORN, WORN);
        due("any, but as many", x.told(6), 1 << 8);
        row(x);
        due("an empty row", x.told(6), 0);
    }

    private void meantBySome() {
        s.says("1 SOME: PEOPLE whose first QUARTER is as the first sign, and of whose others the rest of the row is a part, in order. (An empty row: none.)");
        CoatTraces x = twoFamilies();
        row(x, 1);
        due("no rest", x.told(7), 1 << 0 | 1 << 3 | 1 << 8 | 1 << 11);
        row(x, 1, 4);
        due("a part with a gap", x.told(7), 1 << 8);
        row(x, 1, 2, 3, 4);
        due("all of them are a part, too", x.told(7), 1 << 8);
        row(x, 1, 4, 3);
        due("not in order", x.told(7), 0);
        row(x, 2, 3);
        due("2 is no first QUARTER of one with 3", x.told(7), 0);
        row(x, WORN, 3);
        due("the first is worn away", x.told(7), 1 << 8 | 1 << 9);
        row(x, WORN, 1);
        due("the first QUARTER is none of the others", x.told(7), 0);
        row(x, 1, 2, 2);
        due("none of the others stands for two signs", x.told(7), 0);
        row(x, 1, WORN, WORN, WORN);
        due("worn away ones want a QUARTER each", x.told(7), 1 << 8);
        row(x, 1, WORN, WORN, WORN, WORN);
        due("more than there are", x.told(7), 0);
        row(x);
        due("an empty row", x.told(7), 0);
    }

    private void like() {
        s.says("LIKE of one of the PEOPLE: the most signs that can be found in the QUARTERS in the same order (worn away ones aside, not counted).");
        CoatTraces x = twoFamilies();
        due("an empty row", x.person(8, 6), 0);
        row(x, WORN, WORN, WORN, WORN);
        due("worn away ones", x.person(8, 6), 0);
        row(x, 1, 2, 3, 4);
        due("all of them", x.person(8, 6), 4);
        due("two of them", x.person(3, 6), 2);
        row(x, 4, 3, 2, 1);
        due("in the other order: one", x.person(8, 6), 1);
        row(x, 1, WORN, 4, WORN);
        due("a worn away one is no bar", x.person(8, 6), 2);
        row(x, 1, 1, 1);
        due("each QUARTER once", x.person(8, 6), 1);
        row(x, 2, 3, 1, 4);
        due("the most: 2 3 4, though 1 4 would begin with the first", x.person(8, 6), 3);
        row(x, 0, 5, 6, 7, 8, 9, 0, 5, 6, 1);
        due("the last of ten", x.person(0, 6), 1);
    }

    private void likely() {
        s.says("LIKELY: the one with the greatest LIKE; of like ones with fewer QUARTERS; of like ones the least number; NONE: a LIKE of 0.");
        CoatTraces x = twoFamilies();
        due("an empty row", x.told(8), NONE);
        row(x, 0, WORN, 9);
        due("what nobody bears, and a worn away one", x.told(8), NONE);
        row(x, 1, 3);
        due("the greatest LIKE, though of the most QUARTERS", x.told(8), 8);
        row(x, 3, 4);
        due("7 has fewer QUARTERS than 8, 9", x.told(8), 7);
        row(x, 1, 2);
        due("3 and 11 have as many", x.told(8), 3);
        row(x, 4);
        due("5 and 6 have one each", x.told(8), 5);
        due("nobody", new CoatTraces().told(8), NONE);
        CoatTraces y = menOf(1, 1);
        y.put(WOMAN, 0, 0, NONE);
        y.put(MAN, 2, NONE, 1);
        y.put(MAN, 2, NONE, NONE);
        row(y, 2);
        due("3 bears 2 alone, 2 bears 2 1: fewer QUARTERS, though the greater number", y.told(8), 3);
        row(y, 2, 1);
        due("the greatest LIKE is ahead of fewer QUARTERS", y.told(8), 2);
    }

    // ---- 3 ASKED

    private void asked() {
        s.says("3 ASKED, nothing changes by it.");
        CoatTraces x = family();
        int before = x.told(11);
        x.would(0, 2);
        x.kin(0, 3, 0);
        x.dated(0, 999);
        due("no deed (RefusalsTest looks at all the rest)", x.told(11), before);
    }

    private void coats() {
        s.says("SAME COAT: PEOPLE with the same QUARTERS.");
        CoatTraces x = twoFamilies();
        due("oneself alone", x.person(8, 5), 1 << 8);
        due("oneself and others", x.person(3, 5), 1 << 3 | 1 << 11);
        due("1 is not 1 2", x.person(0, 5), 1 << 0);
        x.rule(1);
        due("1 2 3", x.person(8, 5), 1 << 8);
        s.says("COATS: how many unlike ones there are.");
        due("nobody", new CoatTraces().told(4), 0);
        due("one", menOf(1, 0).told(4), 1);
        due("sixteen alike", menOf(16, 0).told(4), 1);
        CoatTraces y = new CoatTraces();
        for (int p = 0; p < 10; p++) {
            y.put(MAN, p, NONE, NONE);
        }
        due("ten unlike", y.told(4), 10);
        y.put(WOMAN, 0, 9, NONE);
        for (int p = 11; p < 16; p++) {
            y.put(MAN, p - 11, NONE, 10);
        }
        due("fifteen unlike", y.told(4), 15);
    }

    private void dated() {
        s.says("DATED between two YEARS: PEOPLE (a SET) of whom the NARROWED bounds of DIED have a YEAR between these, these too (none, if it is SPOILED).");
        CoatTraces x = menOf(1, 0);
        due("nobody", new CoatTraces().dated(0, 999), 0);
        x.born(0, 200, 200);
        x.died(0, 100, 250);
        due("to a year ahead", x.dated(0, 199), 0);
        due("to the first", x.dated(0, 200), 1);
        due("from the last", x.dated(250, 999), 1);
        due("from a year behind", x.dated(251, 999), 0);
        due("within", x.dated(220, 220), 1);
        due("about", x.dated(0, 999), 1);
        x.put(MAN, 0, NONE, NONE);
        x.born(1, 300, 300);
        due("two", x.dated(250, 300), 3);
        x.died(1, 0, 299);
        due("SPOILED by one: none of both", x.dated(0, 999), 0);
    }

    private void kin() {
        s.says("KIN of two: the least number of steps from child to parent, by both together, to one that both come of (itself is 0 steps); NONE.");
        CoatTraces x = new CoatTraces();
        x.put(MAN, 0, NONE, NONE);
        x.put(WOMAN, 0, NONE, NONE);
        for (int p = 2; p < 16; p++) {
            x.put(MAN, 0, p == 2 ? 0 : p - 1, p == 9 ? 1 : NONE);
        }
        due("itself", x.kin(15, 15, 0), 0);
        due("FATHER and child", x.kin(14, 15, 0), 1);
        due("none of kin", x.kin(0, 1, 0), NONE);
        due("the longest line", x.kin(15, 0, 0), 14);
        due("the longest line, from above", x.kin(0, 15, 0), 14);
        due("by the MOTHER", x.kin(15, 1, 0), 7);
        due("a spouse is none of kin", x.kin(8, 1, 0), NONE);
        CoatTraces y = family();
        y.put(WOMAN, 0, 0, 2);
        y.put(MAN, 0, 3, 4);
        due("two ways, both as long", y.kin(5, 1, 0), 3);
        due("brother and sister", y.kin(3, 4, 0), 2);
        y.put(WOMAN, 0, 5, NONE);
        y.put(MAN, 0, 0, 6);
        due("0 is the FATHER, and is of the MOTHER's forebears too: the shorter way", y.kin(7, 0, 0), 1);
        y.put(MAN, 0, 3, 6);
        due("2 by the FATHER, though 4 by the MOTHER", y.kin(8, 0, 0), 2);
        y.put(MAN, 0, 5, 4);
        due("2 by the MOTHER, though 3 by the FATHER", y.kin(9, 0, 0), 2);
        s.says("NEAREST: the forebear by whom that is; of like ones the greatest number.");
        due("itself", y.kin(5, 5, 1), 5);
        due("both parents: the greater number", y.kin(3, 4, 1), 2);
        due("the parent of the other is it", y.kin(5, 3, 1), 3);
        due("of no kin", y.kin(0, 1, 1), NONE);
        due("the greater number, though it is farther: no", y.kin(5, 0, 1), 0);
    }

    private void would() {
        s.says("WOULD of a man and a woman: how many QUARTERS a child of theirs would bear, by HEIRS as they are now.");
        CoatTraces x = twoFamilies();
        due("both bring theirs", x.would(3, 7), 4);
        due("she is no HEIR", x.would(3, 10), 2);
        due("her own FATHER: she is an HEIR still, though a son would bar her", x.would(4, 6), 2);
        due("the FATHER of an HEIR", x.would(4, 7), 2);
        x.rule(1);
        due("her first one", x.would(3, 7), 3);
        x.rule(2);
        due("all of both", x.would(3, 7), 4);
        for (int p = 12; p < 16; p++) {
            x.put(MAN, 9, NONE, NONE);
        }
        due("no room for a child, but one would", x.would(15, 7), 3);
        due("nobody came of it", x.told(0), 16);
    }

    private void book() {
        s.says("THE BOOK (20 at most) tells the ARMS of a QUARTER of one of the PEOPLE: WRONG: the first that is otherwise now "
            + "(none there, one that there is no more: it is, too); NONE.");
        CoatTraces x = family();
        due("empty", x.told(10), NONE);
        for (int e = 0; e < 19; e++) {
            x.write(3, e % 2, e % 2 + 1);
        }
        due("nineteen right ones", x.told(10), NONE);
        due("the twentieth", x.write(3, 2, 0), 20);
        due("the last is otherwise: none there", x.told(10), 19);
        due("the twenty-first", x.write(3, 0, 1), FULL);
        x.undo(1);
        due("one that there is no more", x.told(10), 0);
        x.put(MAN, 0, 0, NONE);
        due("another now: 1 alone", x.told(10), 1);
        x.undo(1);
        x.put(MAN, 0, 0, 2);
        due("as it was", x.told(10), 19);
    }

    private static final BigInteger TIMES = BigInteger.valueOf(1103515245), MORE = BigInteger.valueOf(12345);

    private static BigInteger next(BigInteger seed) {
        return seed.multiply(TIMES).add(MORE).mod(BigInteger.ONE.shiftLeft(31));
    }

    private void seed() {
        s.says("BY DRAWS: THE SEED (0 at first: each DRAW it becomes it times 1103515245 and 12345, left over by 2 to the 31; "
            + "the DRAW of n is it / 65536, left over by n)");
        due("0 at first", new CoatTraces().seed(0), 0);
        int[] seeds = {0, 1, 65535, 65536, 1 << 30, 1103515245, Integer.MAX_VALUE - 1, Integer.MAX_VALUE};
        for (int v : seeds) {
            CoatTraces x = new CoatTraces();
            x.seed(v);
            BigInteger b = BigInteger.valueOf(v);
            for (int p = 0; p < 16; p++) {
                int[] draws = new int[4];
                int[] of = {2, 10, p + 1, p + 1};
                for (int i = 0; i < 4; i++) {
                    b = next(b);
                    draws[i] = b.divide(BigInteger.valueOf(65536)).mod(BigInteger.valueOf(of[i])).intValueExact();
                }
                due("from " + v + ": drift", x.drift(1), p + 1);
                due("from " + v + ": SEX of " + p, x.person(p, 0), draws[0]);
                int father = x.person(draws[2] - 1, 0) == MAN ? draws[2] - 1 : NONE;
                int mother = x.person(draws[3] - 1, 0) == WOMAN ? draws[3] - 1 : NONE;
                due("from " + v + ": FATHER of " + p, x.person(p, 2), father);
                due("from " + v + ": MOTHER of " + p, x.person(p, 3), mother);
                due("from " + v + ": ARMS of " + p, x.person(p, 1), father == NONE ? draws[1] : x.person(father, 1));
            }
            due("from " + v + ": THE SEED behind 64 draws", x.seed(0), b.intValueExact());
        }
    }

    private void draws() {
        s.says("n times, while there is room: a DRAW of 2 (SEX), of 10 (ARMS), of PEOPLE and 1, of PEOPLE and 1");
        CoatTraces x = menOf(15, 0);
        BigInteger b = BigInteger.ZERO;
        for (int i = 0; i < 4; i++) {
            b = next(b);
        }
        due("room for one", x.drift(16), 16);
        due("one deed", x.told(11), 16);
        due("four draws", x.seed(b.intValueExact()), b.intValueExact());
        due("no room", x.drift(16), 16);
        due("no deed", x.told(11), 16);
        due("no draw", x.seed(0), b.intValueExact());
        s.says("the FATHER is the third less 1, if that is a man, else NONE; the MOTHER the fourth less 1, if that is a woman, else NONE.");
        // From 3 the draws are 1 7 0 0, 0 6 1 1, 0 7 2 1, 1 5 1 0, 0 4 4 3, 1 0 2 2.
        CoatTraces y = new CoatTraces();
        y.seed(3);
        y.drift(6);
        due("the third 0", y.person(0, 2), NONE);
        due("the fourth 0", y.person(0, 3), NONE);
        due("the third 1: 0 is no man", y.person(1, 2), NONE);
        due("the fourth 1: 0 is a woman", y.person(1, 3), 0);
        due("the third 2: 1 is a man", y.person(2, 2), 1);
        due("whose ARMS count, not those drawn", y.person(2, 1), 6);
        due("the third 4: 3 is no man", y.person(4, 2), NONE);
        due("the fourth 3: 2 is no woman", y.person(4, 3), NONE);
    }

    private void undone() {
        s.says("UNDONE: the latest deeds (put(), born(), died(), rule(), sign(), wipe(), each of the times BY DRAWS) since the IMAGE "
            + "(20 at most are kept): PEOPLE, YEARS, RULE, THE MONUMENT are as ahead of them; THE SEED stays.");
        CoatTraces x = menOf(1, 4);
        due("put is one", x.told(11), 1);
        x.born(0, 300, 400);
        due("born is one", x.told(11), 2);
        x.died(0, 350, 360);
        due("died is one", x.told(11), 3);
        x.rule(2);
        due("rule is one", x.told(11), 4);
        x.sign(4);
        due("sign is one", x.told(11), 5);
        x.wipe();
        due("wipe is one", x.told(11), 6);
        x.drift(3);
        due("each of the times is one", x.told(11), 9);
        x.write(0, 0, 4);
        x.tear();
        x.seed(5);
        due("write, tear, seed are none", x.told(11), 9);
        due("one of the times", x.undo(1), 3);
        due("two of the times and wipe", x.undo(3) * 10 + x.told(2), 11);
        due("sign, rule", x.undo(2) * 100 + x.told(2) * 10 + x.told(1), 100);
        due("died", x.undo(1) * 1000 + x.person(0, 11), 1999);
        due("born", x.undo(1) * 1000 + x.person(0, 9), 1999);
        due("put", x.undo(1), 0);
        due("THE SEED stays", x.seed(0), 5);
        due("none is left", x.told(11), 0);
        CoatTraces y = menOf(16, 0);
        for (int i = 0; i < 4; i++) {
            y.sign(i);
        }
        due("twenty", y.told(11), 20);
        y.rule(1);
        due("twenty-one: twenty are kept", y.told(11), 20);
        due("the first is there for good", y.undo(20), 1);
        y.sign(1);
        y.keep(0);
        due("since the IMAGE", y.told(11), 0);
    }

    private void images() {
        s.says("IMAGES 0, 1 keep these, THE SEED.");
        CoatTraces x = family();
        x.born(0, 100, 120);
        x.rule(1);
        x.sign(6);
        x.seed(77);
        x.write(0, 0, 1);
        x.keep(1);
        x.undo(1);
        x.drift(9);
        x.rule(0);
        x.wipe();
        x.born(0, 0, 9);
        x.tear();
        due("IMAGE 1", x.goBack(1), 1);
        due("PEOPLE", x.told(0), 4);
        due("YEARS", x.person(0, 8) * 1000 + x.person(0, 9), 100120);
        due("RULE", x.told(1), 1);
        due("THE MONUMENT", x.told(2) * 10 + x.signAt(0), 16);
        due("THE SEED", x.seed(0), 77);
        due("THE BOOK is none of it", x.told(9), 0);
        due("IMAGE 0 is another", x.goBack(0), NOT);
    }
}
