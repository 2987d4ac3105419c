/** Each promise of the document by hand: ordinary inputs, the edges that it names, wrong inputs. */
public final class PromisesTest {
    private static final int NONE = CoatTraces.NONE, UNKNOWN = CoatTraces.UNKNOWN, OUTSIDE = CoatTraces.OUTSIDE;
    private static final int NOT = CoatTraces.NOT, FULL = CoatTraces.FULL;
    private static final int LEAST = Integer.MIN_VALUE, MOST = Integer.MAX_VALUE;
    private static final Check CHECK = new Check();

    public static void main(String[] args) {
        constants();
        newObject();
        toldOfHeirs();
        toldOfCoats();
        toldOfMonument();
        toldOfLikely();
        toldWrong();
        personPlain();
        personYears();
        personYearsOfMany();
        personSpoiledByPeopleAlone();
        personWrong();
        quartersByRule();
        quartersOnce();
        quartersWithoutFather();
        quartersEight();
        quarterWrong();
        kinOfTwo();
        wouldOfTwo();
        datedBetween();
        signAtPlaces();
        putPeople();
        putRefusals();
        bornBounds();
        diedBounds();
        rules();
        signs();
        wipes();
        drifts();
        driftsOfSix();
        undoes();
        undoesAtMostTwenty();
        writes();
        wrongEntries();
        tears();
        seeds();
        keeps();
        goesBack();
        CHECK.end();
    }

    private static void due(String call, int got, int want) {
        CHECK.due(call, got, want);
    }

    /**
     * 0 a man of 1; 1 a man of 2, 2 his daughter; 3 the son of 0 and 2; 4 a man of 3; 5 a man of 4, 6 his daughter;
     * 7 the daughter of 4 and 6; 8 the son of 3 and 7.
     */
    private static CoatTraces house() {
        CoatTraces x = new CoatTraces();
        x.put(0, 1, NONE, NONE);
        x.put(0, 2, NONE, NONE);
        x.put(1, 0, 1, NONE);
        x.put(0, 0, 0, 2);
        x.put(0, 3, NONE, NONE);
        x.put(0, 4, NONE, NONE);
        x.put(1, 0, 5, NONE);
        x.put(1, 0, 4, 6);
        x.put(0, 0, 3, 7);
        return x;
    }

    private static void dueQuarters(String who, CoatTraces x, int p, int[] arms, int[] through) {
        due(who + " has quarters", x.person(p, 4), arms.length);
        for (int k = 0; k < arms.length; k++) {
            due(who + " arms of quarter " + k, x.quarter(p, k, 0), arms[k]);
            due(who + " through whom quarter " + k, x.quarter(p, k, 1), through[k]);
        }
        due(who + " no arms behind the last", x.quarter(p, arms.length, 0), NONE);
        due(who + " through nobody behind the last", x.quarter(p, arms.length, 1), NONE);
    }

    private static void dueYears(String who, CoatTraces x, int p, int... want) {
        for (int i = 0; i < 4; i++) {
            due(who + " narrowed " + (12 + i), x.person(p, 12 + i), want[i]);
        }
    }

    private static void row(CoatTraces x, int... signs) {
        x.wipe();
        for (int v : signs) {
            x.sign(v);
        }
    }

    // ---- promise 1

    private static void constants() {
        due("NONE", CoatTraces.NONE, -1);
        due("UNKNOWN", CoatTraces.UNKNOWN, -1000000001);
        due("OUTSIDE", CoatTraces.OUTSIDE, -1000000002);
        due("NOT", CoatTraces.NOT, -1000000003);
        due("FULL", CoatTraces.FULL, -1000000004);
    }

    private static void newObject() {
        CoatTraces x = new CoatTraces();
        int[] want = {0, 0, 0, 0, 0, 0, 0, 0, NONE, 0, NONE, 0};
        for (int what = 0; what < want.length; what++) {
            due("new: told(" + what + ")", x.told(what), want[what]);
        }
        due("new: person(0, 0)", x.person(0, 0), UNKNOWN);
        due("new: signAt(0)", x.signAt(0), NONE);
        due("new: dated(0, 999)", x.dated(0, 999), 0);
        due("new: undo(1)", x.undo(1), NOT);
        due("new: tear()", x.tear(), 0);
        due("new: goBack(0)", x.goBack(0), NOT);
        due("new: goBack(1)", x.goBack(1), NOT);
        due("new: seed(0)", x.seed(0), 0);
        CoatTraces other = new CoatTraces();
        x.put(0, 1, NONE, NONE);
        due("another object has its own people", other.told(0), 0);
    }

    // ---- promise 2

    private static void toldOfHeirs() {
        CoatTraces x = new CoatTraces();
        x.put(0, 1, NONE, NONE);
        x.put(1, 2, NONE, NONE);
        due("a woman without a father is no heir", x.told(3), 0);
        x.put(1, 0, 0, 1);
        x.put(1, 0, 0, NONE);
        due("both daughters are heirs", x.told(3), 0b1100);
        x.put(0, 3, NONE, 1);
        due("a son of the mother alone is no bar", x.told(3), 0b1100);
        x.put(0, 0, 0, NONE);
        due("a son of the father is one", x.told(3), 0);
        x.undo(1);
        due("undone, they are heirs again", x.told(3), 0b1100);
        x.put(1, 3, NONE, 2);
        due("a daughter of a mother alone is no heir", x.told(3), 0b1100);
    }

    private static void toldOfCoats() {
        CoatTraces x = new CoatTraces();
        x.put(0, 1, NONE, NONE);
        x.put(0, 2, NONE, NONE);
        x.put(1, 0, 0, NONE);
        x.put(1, 0, 1, NONE);
        due("two coats of four", x.told(4), 2);
        x.put(0, 0, 0, 3);
        x.put(0, 0, 1, 2);
        due("the heirs have brothers now: still two", x.told(4), 2);
        CoatTraces y = new CoatTraces();
        y.put(0, 1, NONE, NONE);
        y.put(0, 2, NONE, NONE);
        y.put(0, 1, NONE, NONE);
        y.put(0, 2, NONE, NONE);
        y.put(1, 0, 0, NONE);
        y.put(1, 0, 1, NONE);
        y.put(0, 0, 2, 5);
        y.put(0, 0, 3, 4);
        due("1 2 and 2 1 are unlike", y.told(4), 4);
        due("1 2 is borne by one", y.person(6, 5), 1 << 6);
        due("2 1 is borne by one", y.person(7, 5), 1 << 7);
        due("1 is borne by three", y.person(0, 5), 0b10101);
        due("one's own is among the same", y.person(4, 5), 0b10101);
    }

    private static void toldOfMonument() {
        CoatTraces x = house();
        due("empty: all", x.told(6), 0);
        due("empty: some", x.told(7), 0);
        row(x, 1);
        due("1: signs", x.told(2), 1);
        due("1: all", x.told(6), 1 << 0);
        due("1: some", x.told(7), 1 << 0 | 1 << 3 | 1 << 8);
        row(x, 1, 3);
        due("1 3: all", x.told(6), 0);
        due("1 3: some, with one between", x.told(7), 1 << 8);
        row(x, 1, 10, 4);
        due("1 ? 4: all", x.told(6), 0);
        due("1 ? 4: some", x.told(7), 1 << 8);
        row(x, 10, 4);
        due("? 4: all", x.told(6), 1 << 7);
        due("? 4: some, the first is the first", x.told(7), 1 << 7 | 1 << 8);
        row(x, 2, 3);
        due("2 3: some, but 2 is not the first of 8", x.told(7), 0);
        row(x, 1, 4, 3);
        due("1 4 3: not in this order", x.told(7), 0);
        row(x, 1, 2, 3, 10);
        due("1 2 3 ?: all", x.told(6), 1 << 8);
        due("1 2 3 ?: some", x.told(7), 1 << 8);
        row(x, 1, 2, 3, 4, 10);
        due("a sign too many: all", x.told(6), 0);
        due("a sign too many: some", x.told(7), 0);
        row(x, 10, 10);
        due("? ?: all", x.told(6), 1 << 3 | 1 << 7);
        due("? ?: some", x.told(7), 1 << 3 | 1 << 7 | 1 << 8);
        row(x, 1, 1);
        due("1 1: some, each quarter once", x.told(7), 0);
    }

    private static void toldOfLikely() {
        CoatTraces x = house();
        row(x, 2, 1, 4);
        due("2 1 4: like of 8", x.person(8, 6), 2);
        due("2 1 4: like of 3", x.person(3, 6), 1);
        due("2 1 4: like of 4", x.person(4, 6), 0);
        due("2 1 4: likely", x.told(8), 8);
        row(x, 1, 10, 2);
        due("1 ? 2: worn ones are not counted", x.person(3, 6), 2);
        due("1 ? 2: of 3 and 8 the one with fewer quarters", x.told(8), 3);
        row(x, 2);
        due("2: of 1 and 2 the least number", x.told(8), 1);
        row(x, 1);
        due("1: the first of the people", x.told(8), 0);
        row(x, 10, 10);
        due("all worn away", x.told(8), NONE);
        due("all worn away: like", x.person(8, 6), 0);
        row(x, 9, 0);
        due("what nobody bears", x.told(8), NONE);
        row(x, 4, 4, 3);
        due("4 4 3: one of them in order", x.person(7, 6), 1);
        due("4 4 3: fewest quarters, least number", x.told(8), 4);
        row(x, 4, 3, 4, 2, 4);
        due("3 and 4 in order", x.person(7, 6), 2);
        due("likely: 7, though 8 has as many, for 7 has fewer quarters", x.told(8), 7);
        row(x, 9, 2, 8, 3, 7, 4, 6, 1);
        due("2, 3, 4 of 8", x.person(8, 6), 3);
    }

    private static void toldWrong() {
        CoatTraces x = house();
        due("told(-1)", x.told(-1), OUTSIDE);
        due("told(12)", x.told(12), OUTSIDE);
        due("told(least)", x.told(LEAST), OUTSIDE);
        due("told(most)", x.told(MOST), OUTSIDE);
    }

    // ---- promise 3

    private static void personPlain() {
        CoatTraces x = house();
        int[] want = {0, 1, 3, 7, 4, 1 << 8, 0, 0, 0, 999, 0, 999};
        for (int what = 0; what < want.length; what++) {
            due("person(8, " + what + ")", x.person(8, what), want[what]);
        }
        int[] wantOfSix = {1, 4, 5, NONE, 1, 1 << 5 | 1 << 6, 0, 1 << 7, 0, 999, 0, 999};
        for (int what = 0; what < wantOfSix.length; what++) {
            due("person(6, " + what + ")", x.person(6, what), wantOfSix[what]);
        }
        x.put(1, 0, 3, NONE);
        due("children of a father", x.person(3, 7), 1 << 8 | 1 << 9);
        due("children of a mother", x.person(7, 7), 1 << 8);
        x.born(6, 100, 200);
        x.died(6, 150, 160);
        due("born from, as told", x.person(6, 8), 100);
        due("born to, as told, though it cannot be", x.person(6, 9), 200);
        due("died from, as told", x.person(6, 10), 150);
        due("died to, as told", x.person(6, 11), 160);
        due("born to, narrowed", x.person(6, 13), 145);
    }

    private static void personYears() {
        CoatTraces x = new CoatTraces();
        x.put(0, 0, NONE, NONE);
        dueYears("one alone", x, 0, 0, 999, 0, 999);
        x.born(0, 500, 510);
        dueYears("a life is 0 to 100 years", x, 0, 500, 510, 500, 610);
        x.died(0, 605, 700);
        dueYears("and from death to birth", x, 0, 505, 510, 605, 610);
        CoatTraces f = new CoatTraces();
        f.put(0, 0, NONE, NONE);
        f.put(0, 0, 0, NONE);
        f.born(1, 500, 510);
        dueYears("a father: 15 years ahead, dead no more than 1 year ahead", f, 0, 399, 495, 499, 595);
        f.died(0, 300, 509);
        dueYears("a father who died", f, 0, 399, 495, 499, 509);
        f.died(0, 300, 502);
        dueYears("the child: no more than 1 behind that", f, 1, 500, 503, 500, 603);
        CoatTraces m = new CoatTraces();
        m.put(1, 0, NONE, NONE);
        m.put(0, 0, NONE, 0);
        m.born(1, 500, 510);
        dueYears("a mother: 15 to 50 years ahead, alive", m, 0, 450, 495, 500, 595);
        m.died(0, 300, 502);
        dueYears("the child: not behind that", m, 1, 500, 502, 500, 602);
        m.died(0, 300, 500);
        due("not spoiled at the edge", m.told(5), 0);
        due("spoiled a year ahead", m.died(0, 300, 499), 1);
        m.undo(1);
        due("spoiled: 14 years", m.born(0, 496, 600), 1);
        m.undo(1);
        due("not spoiled: 15 years", m.born(0, 485, 600), 0);
        m.undo(1);
        due("spoiled: 51 years", m.born(0, 0, 449), 1);
        m.undo(1);
        due("not spoiled: 50 years", m.born(0, 0, 450), 0);
    }

    private static void personYearsOfMany() {
        CoatTraces x = new CoatTraces();
        x.put(0, 0, NONE, NONE);
        x.put(1, 0, NONE, NONE);
        for (int p = 2; p < 16; p++) {
            x.put(0, 0, 0, 1);
        }
        due("the last of fourteen children", x.born(15, 400, 400), 0);
        dueYears("their father", x, 0, 299, 385, 399, 485);
        dueYears("their mother", x, 1, 350, 385, 400, 485);
        dueYears("a brother", x, 2, 365, 435, 365, 535);
        due("the mother dead by then", x.died(1, 0, 399), 1);
        CoatTraces line = new CoatTraces();
        for (int p = 0; p < 16; p++) {
            line.put(1, 0, NONE, p - 1);
        }
        due("the last of a line of mothers", line.born(15, 999, 999), 0);
        dueYears("the first of them", line, 0, 249, 774, 299, 874);
        due("the first", line.born(0, 249, 249), 0);
        dueYears("50 years each", line, 7, 599, 599, 649, 699);
        due("too early by a year", line.born(0, 248, 248), 1);
        due("too late by a year", line.born(0, 775, 999), 1);
        due("at the latest", line.born(0, 774, 999), 0);
        dueYears("15 years each", line, 7, 879, 879, 894, 979);
        due("dead a year ahead of the birth", line.died(15, 0, 998), 1);
    }

    /** A woman and the line of her sons' sons: the fourth of them cannot be the father of a child of hers. */
    private static void personSpoiledByPeopleAlone() {
        CoatTraces x = new CoatTraces();
        x.put(1, 0, NONE, NONE);
        x.put(0, 0, NONE, 0);
        x.put(0, 0, 1, NONE);
        x.put(0, 0, 2, 0);
        due("45 years: not spoiled", x.told(5), 0);
        x.put(0, 0, 3, 0);
        due("60 years: spoiled by people alone", x.told(5), 1);
        dueYears("spoiled", x, 0, NONE, NONE, NONE, NONE);
        x.put(0, 0, NONE, NONE);
        dueYears("spoiled for those too who are of no kin", x, 5, NONE, NONE, NONE, NONE);
        due("spoiled: dated", x.dated(0, 999), 0);
        due("spoiled: bounds as told", x.person(0, 9), 999);
        due("spoiled: others' years change nothing", x.born(5, 3, 4), 1);
        due("undone", x.undo(3), 4);
        due("undone: not spoiled", x.told(5), 0);
    }

    private static void personWrong() {
        CoatTraces x = house();
        for (int p : new int[] {-1, 9, 16, LEAST, MOST}) {
            due("person(" + p + ", 0)", x.person(p, 0), UNKNOWN);
            due("person(" + p + ", 99)", x.person(p, 99), UNKNOWN);
        }
        for (int what : new int[] {-1, 16, LEAST, MOST}) {
            due("person(0, " + what + ")", x.person(0, what), OUTSIDE);
        }
    }

    // ---- promise 4

    private static void quartersByRule() {
        CoatTraces x = house();
        dueQuarters("rule 0: 3", x, 3, new int[] {1, 2}, new int[] {0, 1});
        dueQuarters("rule 0: 7", x, 7, new int[] {3, 4}, new int[] {4, 5});
        dueQuarters("rule 0: 8", x, 8, new int[] {1, 2, 3, 4}, new int[] {0, 1, 4, 5});
        x.rule(1);
        dueQuarters("rule 1: 3", x, 3, new int[] {1, 2}, new int[] {0, 1});
        dueQuarters("rule 1: 8", x, 8, new int[] {1, 2, 3}, new int[] {0, 1, 4});
        x.rule(2);
        dueQuarters("rule 2: 7", x, 7, new int[] {3, 4}, new int[] {4, 5});
        dueQuarters("rule 2: 8", x, 8, new int[] {1, 3, 4, 2}, new int[] {0, 4, 5, 1});
        x.put(0, 0, 4, NONE);
        dueQuarters("rule 2: 8, the mother has a brother", x, 8, new int[] {1, 2}, new int[] {0, 1});
    }

    /** A second line of 2 comes in by the mother: by rules 0 and 1 it is the father's, by rule 2 the mother's. */
    private static void quartersOnce() {
        CoatTraces x = house();
        x.put(0, 2, NONE, NONE);
        x.put(1, 0, 9, NONE);
        x.put(0, 0, 3, 10);
        dueQuarters("rule 0: 2 by the father", x, 11, new int[] {1, 2}, new int[] {0, 1});
        x.rule(1);
        dueQuarters("rule 1: 2 by the father", x, 11, new int[] {1, 2}, new int[] {0, 1});
        x.rule(2);
        dueQuarters("rule 2: 2 by the mother", x, 11, new int[] {1, 2}, new int[] {0, 9});
        x.put(0, 1, NONE, NONE);
        x.put(1, 0, 12, NONE);
        x.put(0, 0, 3, 13);
        dueQuarters("rule 2: the own arms come by the father", x, 14, new int[] {1, 2}, new int[] {0, 1});
    }

    private static void quartersWithoutFather() {
        CoatTraces x = new CoatTraces();
        x.put(0, 2, NONE, NONE);
        x.put(0, 3, NONE, NONE);
        x.put(1, 0, 1, NONE);
        x.put(1, 0, 0, 2);
        x.put(0, 7, NONE, 3);
        x.put(0, 3, NONE, 3);
        for (int rule = 0; rule < 3; rule++) {
            x.rule(rule);
            int[] all = {7, 2, 3}, through = {4, 0, 1}, first = {7, 2}, throughFirst = {4, 0};
            dueQuarters("rule " + rule + ": own, then the mother's", x, 4, rule == 1 ? first : all, rule == 1 ? throughFirst : through);
            dueQuarters("rule " + rule + ": own that the mother bears, too", x, 5, new int[] {3, 2}, new int[] {5, 0});
        }
        dueQuarters("neither father nor mother", x, 0, new int[] {2}, new int[] {0});
    }

    /** As many QUARTERS as 16 PEOPLE can bring together: men 0, 2 .. 14, each but the first of the heir ahead of him. */
    private static void quartersEight() {
        CoatTraces x = new CoatTraces();
        for (int i = 0; i < 8; i++) {
            x.put(0, i, NONE, 2 * i - 1);
            x.put(1, 0, 2 * i, NONE);
        }
        int[] arms = {7, 6, 5, 4, 3, 2, 1, 0}, through = {14, 12, 10, 8, 6, 4, 2, 0};
        dueQuarters("eight of the last man", x, 14, arms, through);
        dueQuarters("eight of the last heir", x, 15, arms, through);
        due("heirs", x.told(3), 0b1010101010101010);
        due("eight coats", x.told(4), 8);
        due("would(0, 13)", x.would(0, 13), 7);
        for (int v : arms) {
            x.sign(v);
        }
        due("like of eight", x.person(15, 6), 8);
        due("all of eight", x.told(6), 1 << 14 | 1 << 15);
        x.sign(10);
        due("some of nine", x.told(7), 0);
        due("likely of nine", x.told(8), 14);
        due("rule 1", x.rule(1), 8);
        dueQuarters("rule 1: the last man", x, 14, new int[] {7, 6}, new int[] {14, 12});
    }

    private static void quarterWrong() {
        CoatTraces x = house();
        due("quarter(9, 0, 0)", x.quarter(9, 0, 0), UNKNOWN);
        due("quarter(-1, 0, 0)", x.quarter(-1, 0, 0), UNKNOWN);
        due("quarter(9, 0, 7)", x.quarter(9, 0, 7), UNKNOWN);
        due("quarter(8, 0, 2)", x.quarter(8, 0, 2), OUTSIDE);
        due("quarter(8, 99, -1)", x.quarter(8, 99, -1), OUTSIDE);
        for (int k : new int[] {-1, 4, 10, LEAST, MOST}) {
            due("quarter(8, " + k + ", 0)", x.quarter(8, k, 0), NONE);
            due("quarter(8, " + k + ", 1)", x.quarter(8, k, 1), NONE);
        }
    }

    // ---- promise 5

    private static void kinOfTwo() {
        CoatTraces x = new CoatTraces();
        x.put(0, 0, NONE, NONE);
        x.put(1, 0, NONE, NONE);
        x.put(0, 0, 0, 1);
        x.put(1, 0, 0, 1);
        x.put(0, 0, 2, NONE);
        x.put(1, 0, 2, 3);
        dueKin(x, 0, 0, 0, 0);
        dueKin(x, 0, 1, NONE, NONE);
        dueKin(x, 2, 0, 1, 0);
        dueKin(x, 1, 3, 1, 1);
        dueKin(x, 2, 3, 2, 1);
        dueKin(x, 4, 5, 2, 2);
        dueKin(x, 4, 3, 3, 1);
        dueKin(x, 5, 0, 2, 0);
        dueKin(x, 5, 3, 1, 3);
        x.put(0, 0, 4, 5);
        dueKin(x, 6, 2, 2, 2);
        dueKin(x, 6, 0, 3, 0);
        dueKin(x, 6, 3, 2, 3);
        x.put(0, 0, 0, NONE);
        dueKin(x, 7, 6, 4, 0);
        due("kin(0, 8, 0)", x.kin(0, 8, 0), UNKNOWN);
        due("kin(-1, 0, 0)", x.kin(-1, 0, 0), UNKNOWN);
        due("kin(0, 8, 5)", x.kin(0, 8, 5), UNKNOWN);
        due("kin(0, 1, 2)", x.kin(0, 1, 2), OUTSIDE);
        due("kin(0, 0, -1)", x.kin(0, 0, -1), OUTSIDE);
    }

    private static void dueKin(CoatTraces x, int p, int q, int steps, int nearest) {
        due("kin(" + p + ", " + q + ", 0)", x.kin(p, q, 0), steps);
        due("kin(" + q + ", " + p + ", 0)", x.kin(q, p, 0), steps);
        due("kin(" + p + ", " + q + ", 1)", x.kin(p, q, 1), nearest);
        due("kin(" + q + ", " + p + ", 1)", x.kin(q, p, 1), nearest);
    }

    // ---- promise 6

    private static void wouldOfTwo() {
        CoatTraces x = house();
        due("would(3, 7)", x.would(3, 7), 4);
        due("would(0, 7)", x.would(0, 7), 3);
        due("would(1, 2): heirs as they are now", x.would(1, 2), 1);
        due("would(5, 7)", x.would(5, 7), 2);
        x.rule(1);
        due("rule 1: would(3, 7)", x.would(3, 7), 3);
        due("rule 1: would(0, 7)", x.would(0, 7), 2);
        x.rule(2);
        due("rule 2: would(3, 7)", x.would(3, 7), 4);
        x.put(1, 9, NONE, NONE);
        due("no heir", x.would(3, 9), 2);
        due("nothing came of it", x.told(0), 10);
        due("nothing can be undone by it", x.told(11), 12);
        due("would(7, 3)", x.would(7, 3), NOT);
        due("would(0, 3)", x.would(0, 3), NOT);
        due("would(2, 7)", x.would(2, 7), NOT);
        due("would(0, 10)", x.would(0, 10), UNKNOWN);
        due("would(10, 2)", x.would(10, 2), UNKNOWN);
        due("would(-1, 2)", x.would(-1, 2), UNKNOWN);
        due("would(7, -1)", x.would(7, -1), UNKNOWN);
        due("would(0, 0): one twice", x.would(0, 0), UNKNOWN);
        due("would(2, 2): one twice", x.would(2, 2), UNKNOWN);
    }

    // ---- promise 7

    private static void datedBetween() {
        CoatTraces x = new CoatTraces();
        x.put(0, 0, NONE, NONE);
        x.put(0, 1, NONE, NONE);
        x.born(0, 100, 110);
        x.died(0, 0, 150);
        due("dated(150, 150)", x.dated(150, 150), 0b11);
        due("dated(151, 999)", x.dated(151, 999), 0b10);
        due("dated(100, 100)", x.dated(100, 100), 0b11);
        due("dated(0, 99): narrowed, not as told", x.dated(0, 99), 0b10);
        due("dated(120, 130): within", x.dated(120, 130), 0b11);
        due("dated(0, 999)", x.dated(0, 999), 0b11);
        due("dated(0, 0)", x.dated(0, 0), 0b10);
        due("dated(999, 999)", x.dated(999, 999), 0b10);
        x.died(0, 0, 50);
        due("spoiled", x.dated(0, 999), 0);
        due("spoiled, outside", x.dated(0, 1000), OUTSIDE);
        int[][] wrong = {{-1, 5}, {5, 1000}, {6, 5}, {-2, -1}, {1000, 1001}, {LEAST, MOST}, {MOST, LEAST}};
        for (int[] w : wrong) {
            due("dated(" + w[0] + ", " + w[1] + ")", x.dated(w[0], w[1]), OUTSIDE);
        }
    }

    // ---- promise 8

    private static void signAtPlaces() {
        CoatTraces x = new CoatTraces();
        for (int v = 1; v <= 10; v++) {
            x.sign(v);
        }
        for (int k = 0; k < 10; k++) {
            due("signAt(" + k + ")", x.signAt(k), k + 1);
        }
        for (int k : new int[] {-1, 10, LEAST, MOST}) {
            due("signAt(" + k + ")", x.signAt(k), NONE);
        }
        x.wipe();
        due("signAt(0), wiped", x.signAt(0), NONE);
    }

    // ---- promise 9

    private static void putPeople() {
        CoatTraces x = new CoatTraces();
        due("the first", x.put(0, 9, NONE, NONE), 0);
        due("the second", x.put(1, 0, NONE, NONE), 1);
        due("the third", x.put(1, 5, 0, 1), 2);
        due("the father's arms", x.person(2, 1), 9);
        due("father", x.person(2, 2), 0);
        due("mother", x.person(2, 3), 1);
        due("a mother alone", x.put(0, 5, NONE, 1), 3);
        due("the arms told", x.person(3, 1), 5);
        due("no father", x.person(3, 2), NONE);
        due("born, died anew behind an undo", x.born(3, 5, 6), 1);
        due("both undone", x.undo(2), 3);
        due("another instead", x.put(1, 2, NONE, NONE), 3);
        due("with bounds of its own", x.person(3, 8) * 1000 + x.person(3, 9), 999);
    }

    private static void putRefusals() {
        CoatTraces x = new CoatTraces();
        due("put(0, 0, 0, -1)", x.put(0, 0, 0, NONE), UNKNOWN);
        due("put(0, 0, -1, 0)", x.put(0, 0, NONE, 0), UNKNOWN);
        due("put(0, 0, -2, -1)", x.put(0, 0, -2, NONE), UNKNOWN);
        due("put(2, 0, -1, -2)", x.put(2, 0, NONE, -2), UNKNOWN);
        due("put(2, 0, -1, -1)", x.put(2, 0, NONE, NONE), OUTSIDE);
        due("put(-1, 0, -1, -1)", x.put(-1, 0, NONE, NONE), OUTSIDE);
        due("put(0, 10, -1, -1)", x.put(0, 10, NONE, NONE), OUTSIDE);
        due("put(0, -1, -1, -1)", x.put(0, -1, NONE, NONE), OUTSIDE);
        due("nothing changed", x.told(0) + x.told(11), 0);
        x.put(0, 1, NONE, NONE);
        x.put(1, 2, NONE, NONE);
        due("arms outside, though the father's count", x.put(0, 10, 0, NONE), OUTSIDE);
        due("a woman as father", x.put(0, 0, 1, NONE), NOT);
        due("a man as mother", x.put(0, 0, NONE, 0), NOT);
        due("a man as both", x.put(0, 0, 0, 0), NOT);
        due("a woman as both", x.put(0, 0, 1, 1), NOT);
        due("outside ahead of not", x.put(0, 10, 1, 1), OUTSIDE);
        due("unknown ahead of not", x.put(0, 0, 1, 2), UNKNOWN);
        for (int p = 2; p < 16; p++) {
            due("put until full", x.put(p & 1, 0, NONE, NONE), p);
        }
        due("full", x.put(0, 0, NONE, NONE), FULL);
        due("not ahead of full", x.put(0, 0, 0, 0), NOT);
        due("outside ahead of full", x.put(0, 11, NONE, NONE), OUTSIDE);
        due("unknown ahead of full", x.put(0, 0, 16, NONE), UNKNOWN);
        due("sixteen", x.told(0), 16);
        due("sixteen deeds", x.told(11), 16);
        due("the last is known", x.person(15, 0), 1);
    }

    // ---- promises 10, 11

    private static void bornBounds() {
        CoatTraces x = new CoatTraces();
        x.put(0, 0, NONE, NONE);
        due("born(0, 0, 999)", x.born(0, 0, 999), 0);
        due("born(0, 700, 700)", x.born(0, 700, 700), 0);
        due("from", x.person(0, 8), 700);
        due("to", x.person(0, 9), 700);
        due("died is untouched", x.person(0, 10) * 1000 + x.person(0, 11), 999);
        due("wider again, not narrowed by the former", x.born(0, 10, 999), 0);
        dueYears("wider", x, 0, 10, 999, 10, 999);
        x.died(0, 200, 300);
        due("spoiled: too late", x.born(0, 301, 400), 1);
        due("spoiled: too early", x.born(0, 50, 99), 1);
        due("not spoiled", x.born(0, 50, 100), 0);
        yearsRefused("born", x, true);
    }

    private static void diedBounds() {
        CoatTraces x = new CoatTraces();
        x.put(0, 0, NONE, NONE);
        due("died(0, 700, 700)", x.died(0, 700, 700), 0);
        due("from", x.person(0, 10), 700);
        due("to", x.person(0, 11), 700);
        due("born is untouched", x.person(0, 8) * 1000 + x.person(0, 9), 999);
        dueYears("narrowed by it", x, 0, 600, 700, 700, 700);
        x.born(0, 500, 500);
        due("told is spoiled", x.told(5), 1);
        due("spoiled: too late", x.died(0, 601, 999), 1);
        due("not spoiled: 100 years", x.died(0, 600, 999), 0);
        due("not spoiled: 0 years", x.died(0, 0, 500), 0);
        due("spoiled: too early", x.died(0, 0, 499), 1);
        yearsRefused("died", x, false);
    }

    private static void yearsRefused(String name, CoatTraces x, boolean births) {
        int deeds = x.told(11);
        int[][] wrong = {{0, -1, 5}, {0, 5, 1000}, {0, 6, 5}, {0, 1000, 1000}, {0, LEAST, MOST}};
        for (int[] w : wrong) {
            due(name + " outside", births ? x.born(w[0], w[1], w[2]) : x.died(w[0], w[1], w[2]), OUTSIDE);
        }
        int[][] unknown = {{1, 0, 9}, {-1, 0, 9}, {16, 0, 9}, {LEAST, 9, 0}, {1, -1, 1000}};
        for (int[] w : unknown) {
            due(name + " unknown", births ? x.born(w[0], w[1], w[2]) : x.died(w[0], w[1], w[2]), UNKNOWN);
        }
        due(name + " refused is no deed", x.told(11), deeds);
    }

    // ---- promises 12, 13, 14

    private static void rules() {
        CoatTraces x = house();
        x.put(0, 3, NONE, NONE);
        x.put(1, 0, 9, NONE);
        x.put(1, 0, 3, 10);
        due("rule 0: 1, 2, 3, 4, 1 2, 3 4, 1 2 3 4, 1 2 3", x.told(4), 8);
        due("rule 1: 8 and 11 are the same", x.rule(1), 7);
        due("told(1)", x.told(1), 1);
        due("same coat", x.person(8, 5), 1 << 8 | 1 << 11);
        due("rule 2", x.rule(2), 8);
        due("rule 0", x.rule(0), 8);
        for (int v : new int[] {-1, 3, LEAST, MOST}) {
            due("rule(" + v + ")", x.rule(v), OUTSIDE);
        }
        due("refused changes nothing", x.told(1), 0);
        due("refused is no deed", x.told(11), 15);
        due("no people, no coats", new CoatTraces().rule(2), 0);
    }

    private static void signs() {
        CoatTraces x = new CoatTraces();
        for (int v : new int[] {-1, 11, LEAST, MOST}) {
            due("sign(" + v + ")", x.sign(v), OUTSIDE);
        }
        for (int i = 1; i <= 10; i++) {
            due("sign " + i, x.sign(i == 4 ? 10 : 0), i);
        }
        due("full", x.sign(0), FULL);
        due("outside ahead of full", x.sign(11), OUTSIDE);
        due("ten", x.told(2), 10);
        due("ten deeds", x.told(11), 10);
        due("worn away", x.signAt(3), 10);
    }

    private static void wipes() {
        CoatTraces x = new CoatTraces();
        due("wipe, empty", x.wipe(), 0);
        due("a deed all the same", x.told(11), 1);
        x.sign(3);
        x.sign(4);
        due("wipe", x.wipe(), 2);
        due("empty", x.told(2), 0);
        x.sign(5);
        due("first anew", x.signAt(0), 5);
        due("undone: sign, wipe", x.undo(2), 0);
        due("as ahead", x.told(2) * 100 + x.signAt(0) * 10 + x.signAt(1), 234);
    }

    // ---- promise 15

    private static void drifts() {
        CoatTraces x = new CoatTraces();
        for (int n : new int[] {0, -1, 17, LEAST, MOST}) {
            due("drift(" + n + ")", x.drift(n), OUTSIDE);
        }
        due("refused draws nothing", x.seed(0), 0);
        // By hand: 0 -> 12345 -> 1406932606 -> 654583775 -> 1449466924, over 65536: 0, 21468, 9988, 22117.
        due("drift(1)", x.drift(1), 1);
        due("sex: 0 of 2", x.person(0, 0), 0);
        due("arms: 21468 of 10", x.person(0, 1), 8);
        due("no father", x.person(0, 2), NONE);
        due("no mother", x.person(0, 3), NONE);
        // On: 229283573, 1109335178, 1051550459, 1293799192: 3498, 16927, 16045, 19741.
        due("drift(1) again", x.drift(1), 2);
        due("sex: 3498 of 2", x.person(1, 0), 0);
        due("father: 16045 of 2 is 1, less 1", x.person(1, 2), 0);
        due("arms of the father, not 7", x.person(1, 1), 8);
        due("mother: 19741 of 2 is 1, less 1: no woman", x.person(1, 3), NONE);
        due("the seed", x.seed(77), 1293799192);
        due("drift to the rim", x.drift(16), 16);
        due("a deed each", x.told(11), 16);
        int seed = x.seed(0);
        x.seed(seed);
        due("drift, full", x.drift(3), 16);
        due("no deed", x.told(11), 16);
        due("no draw", x.seed(0), seed);
        due("undone one by one", x.undo(1), 15);
        due("drift fills just what there is", x.drift(5), 16);
        due("one deed", x.told(11), 16);
    }

    /** From 3 the draws are 1 7 0 0, 0 6 1 1, 0 7 2 1, 1 5 1 0, 0 4 4 3, 1 0 2 2, and THE SEED is 1098410603. */
    private static void driftsOfSix() {
        CoatTraces x = new CoatTraces();
        x.seed(3);
        due("drift(6)", x.drift(6), 6);
        int[][] want = {{1, 7, NONE, NONE}, {0, 6, NONE, 0}, {0, 6, 1, 0}, {1, 5, NONE, NONE}, {0, 4, NONE, NONE}, {1, 6, 1, NONE}};
        for (int p = 0; p < 6; p++) {
            for (int what = 0; what < 4; what++) {
                due("drift: person(" + p + ", " + what + ")", x.person(p, what), want[p][what]);
            }
        }
        due("coats of them", x.told(4), 4);
        due("years of them", x.person(0, 13), 969);
        due("quarters of them", x.quarter(5, 0, 1), 1);
        due("THE SEED of them", x.seed(0), 1098410603);
    }

    // ---- promise 16

    private static void undoes() {
        CoatTraces x = new CoatTraces();
        x.put(0, 1, NONE, NONE);
        x.born(0, 5, 6);
        x.died(0, 7, 8);
        x.rule(2);
        x.sign(4);
        x.wipe();
        x.seed(5);
        x.drift(2);
        int seed = x.seed(9);
        due("a draw was made", seed == 5 ? 1 : 0, 0);
        x.write(0, 0, 1);
        due("eight deeds", x.told(11), 8);
        due("the draws", x.undo(2), 1);
        due("the seed stays", x.seed(9), 9);
        due("the book stays", x.told(9), 1);
        due("the wipe", x.undo(1) * 10 + x.told(2), 11);
        due("the sign", x.undo(1) * 10 + x.told(2), 10);
        due("the rule", x.undo(1) * 10 + x.told(1), 10);
        due("died", x.undo(1), 1);
        due("died is as ahead", x.person(0, 10) * 1000 + x.person(0, 11), 999);
        due("born stays", x.person(0, 8) * 1000 + x.person(0, 9), 5006);
        due("born", x.undo(1), 1);
        due("born is as ahead", x.person(0, 8) * 1000 + x.person(0, 9), 999);
        due("narrowed, too", x.person(0, 12) * 1000 + x.person(0, 13), 999);
        due("not two", x.undo(2), NOT);
        due("the put", x.undo(1), 0);
        due("not one", x.undo(1), NOT);
        due("outside ahead of not", x.undo(21), OUTSIDE);
        due("undo(0)", x.undo(0), OUTSIDE);
        due("undo(-1)", x.undo(-1), OUTSIDE);
        due("undo(least)", x.undo(LEAST), OUTSIDE);
        due("undo(most)", x.undo(MOST), OUTSIDE);
        due("undo(20)", x.undo(20), NOT);
    }

    private static void undoesAtMostTwenty() {
        CoatTraces x = new CoatTraces();
        for (int i = 0; i < 16; i++) {
            x.put(0, i % 10, NONE, NONE);
        }
        for (int i = 0; i < 9; i++) {
            x.sign(i);
        }
        due("twenty are kept", x.told(11), 20);
        due("all of them undone", x.undo(20), 5);
        due("none left", x.told(11), 0);
        due("no more", x.undo(1), NOT);
        due("no signs", x.told(2), 0);
        x.put(1, 3, NONE, NONE);
        due("one deed", x.told(11), 1);
        due("undone", x.undo(1), 5);
        for (int i = 0; i < 100; i++) {
            x.rule(i % 3);
        }
        due("the rule of the hundredth", x.told(1), 0);
        x.undo(1);
        due("of the one ahead", x.told(1), 2);
        x.undo(18);
        due("eighteen more", x.told(1), 2);
        due("one left", x.told(11), 1);
    }

    // ---- promises 17, 18

    private static void writes() {
        CoatTraces x = house();
        int deeds = x.told(11);
        due("write(9, 0, 0)", x.write(9, 0, 0), UNKNOWN);
        due("write(-1, 99, 0)", x.write(-1, 99, 0), UNKNOWN);
        int[][] wrong = {{-1, 0}, {10, 0}, {0, -1}, {0, 10}, {LEAST, MOST}};
        for (int[] w : wrong) {
            due("write(0, " + w[0] + ", " + w[1] + ")", x.write(0, w[0], w[1]), OUTSIDE);
        }
        due("no entries", x.told(9), 0);
        for (int e = 1; e <= 20; e++) {
            due("entry " + e, x.write(8, e % 4, e % 4 + 1), e);
        }
        due("full", x.write(8, 0, 1), FULL);
        due("outside ahead of full", x.write(8, 10, 1), OUTSIDE);
        due("unknown ahead of full", x.write(9, 0, 1), UNKNOWN);
        due("twenty", x.told(9), 20);
        due("none wrong", x.told(10), NONE);
        due("no deeds", x.told(11), deeds);
    }

    private static void wrongEntries() {
        CoatTraces x = house();
        x.write(8, 2, 3);
        x.write(3, 1, 2);
        x.write(8, 3, 4);
        x.write(3, 9, 2);
        due("a quarter that is not there", x.told(10), 3);
        x.rule(1);
        due("rule 1: 4 is not there", x.told(10), 2);
        x.rule(2);
        due("rule 2: 4 is the third", x.told(10), 0);
        x.rule(0);
        x.undo(4);
        due("one that there is no more", x.told(0) * 10 + x.told(10), 80);
        x.put(1, 0, 3, 7);
        due("another of the number, who bears the same", x.told(10), 3);
        x.tear();
        due("no book: none wrong", x.told(10), NONE);
        x.write(0, 0, 2);
        due("wrong at once", x.told(10), 0);
    }

    private static void tears() {
        CoatTraces x = house();
        due("no book", x.tear(), 0);
        x.write(0, 0, 0);
        x.write(0, 0, 1);
        int deeds = x.told(11);
        due("two", x.tear(), 2);
        due("none", x.told(9), 0);
        due("no deed", x.told(11), deeds);
        due("anew", x.write(0, 0, 1), 1);
        due("right", x.told(10), NONE);
    }

    // ---- promises 19, 20, 21

    private static void seeds() {
        CoatTraces x = new CoatTraces();
        due("0 at first", x.seed(MOST), 0);
        due("the greatest", x.seed(5), MOST);
        due("seed(-1)", x.seed(-1), OUTSIDE);
        due("seed(least)", x.seed(LEAST), OUTSIDE);
        due("refused changes nothing", x.seed(0), 5);
        due("no deed", x.told(11), 0);
    }

    private static void keeps() {
        CoatTraces x = house();
        for (int i : new int[] {-1, 2, LEAST, MOST}) {
            due("keep(" + i + ")", x.keep(i), UNKNOWN);
        }
        due("refused: all can be undone", x.told(11), 9);
        due("keep(1)", x.keep(1), 1);
        due("nothing can be undone", x.told(11), 0);
        due("undo", x.undo(1), NOT);
        due("all is as it was", x.told(0) * 100 + x.told(4), 907);
        due("the other was not kept", x.goBack(0), NOT);
        x.sign(1);
        due("since the image", x.told(11), 1);
        due("keep(1) again", x.keep(1), 1);
        x.wipe();
        x.goBack(1);
        due("the later one", x.told(2), 1);
    }

    private static void goesBack() {
        CoatTraces x = house();
        x.rule(1);
        x.sign(7);
        x.born(0, 100, 200);
        x.seed(321);
        due("not kept", x.goBack(0), NOT);
        due("refused: all can be undone", x.told(11), 12);
        x.keep(0);
        x.write(8, 0, 1);
        x.rule(2);
        x.wipe();
        x.drift(7);
        x.died(0, 5, 6);
        x.keep(1);
        for (int i : new int[] {-1, 2, LEAST, MOST}) {
            due("goBack(" + i + ")", x.goBack(i), UNKNOWN);
        }
        due("goBack(0)", x.goBack(0), 1);
        due("people", x.told(0), 9);
        due("rule", x.told(1), 1);
        due("signs", x.told(2) * 10 + x.signAt(0), 17);
        due("years", x.person(0, 8) * 1000 + x.person(0, 9), 100200);
        due("not spoiled", x.told(5), 0);
        due("quarters by its rule", x.person(8, 4), 3);
        due("the seed", x.seed(321), 321);
        due("the book is none of it", x.told(9), 1);
        due("nothing can be undone", x.undo(1), NOT);
        x.wipe();
        due("goBack(1)", x.goBack(1), 1);
        due("people of 1", x.told(0), 16);
        due("spoiled of 1", x.told(5), 1);
        due("nothing can be undone of 1", x.told(11), 0);
        due("goBack(0) again", x.goBack(0), 1);
        due("the image was not touched by the wipe", x.told(2), 1);
    }
}
