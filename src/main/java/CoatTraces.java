/**
 * Coats of arms on monuments, traced to those who bore them.
 *
 * All that deeds change lies in one State, so that an image of it, or a step back, is one copy. What follows
 * from it (the coats, the narrowed years) is reckoned anew behind each deed: asking changes nothing, and no
 * call makes an object.
 */
public final class CoatTraces {
    public static final int NONE = -1, UNKNOWN = -1000000001, OUTSIDE = -1000000002, NOT = -1000000003, FULL = -1000000004;

    private static final int MOST_PEOPLE = 16;
    private static final int MOST_ARMS = 10;
    private static final int MOST_SIGNS = 10;
    private static final int MOST_ENTRIES = 20;
    private static final int MOST_DEEDS = 20;
    private static final int MOST_DRIFT = 16;
    private static final int IMAGES = 2;
    private static final int LAST_YEAR = 999;
    private static final int LAST_RULE = 2;
    private static final int WORN = 10;
    private static final int MAN = 0;
    private static final int WOMAN = 1;

    private final State state;
    private final Coats coats;
    private final Years years;
    private final Tracer tracer;
    private final Kinship kinship;
    private final Book book;
    private final Past past;
    private final Images images;
    private final Draws draws;

    public CoatTraces() {
        state = new State();
        coats = new Coats();
        years = new Years();
        tracer = new Tracer();
        kinship = new Kinship();
        book = new Book();
        past = new Past();
        images = new Images();
        draws = new Draws();
    }

    // ---- people

    public int told(int what) {
        switch (what) {
            case 0: return state.people();
            case 1: return state.ruleNow();
            case 2: return state.signs();
            case 3: return coats.heirs;
            case 4: return coats.unlikeCoats();
            case 5: return years.spoiledBit();
            case 6: return tracer.meantByAll(state, coats);
            case 7: return tracer.meantBySome(state, coats);
            case 8: return tracer.likely(state, coats);
            case 9: return book.entries;
            case 10: return book.firstWrong(coats);
            case 11: return past.deeds;
            default: return OUTSIDE;
        }
    }

    public int person(int p, int what) {
        if (!state.has(p)) {
            return UNKNOWN;
        }
        switch (what) {
            case 0: return state.fact(p, State.SEX);
            case 1: return state.fact(p, State.ARMS);
            case 2: return state.fact(p, State.FATHER);
            case 3: return state.fact(p, State.MOTHER);
            case 4: return coats.sizeOf(p);
            case 5: return coats.sameAs(p);
            case 6: return tracer.like(state, coats, p);
            case 7: return state.childrenOf(p);
            case 8: return state.fact(p, State.BORN_FROM);
            case 9: return state.fact(p, State.BORN_TO);
            case 10: return state.fact(p, State.DIED_FROM);
            case 11: return state.fact(p, State.DIED_TO);
            case 12: return years.leastBirth(p);
            case 13: return years.greatestBirth(p);
            case 14: return years.leastDeath(p);
            case 15: return years.greatestDeath(p);
            default: return OUTSIDE;
        }
    }

    public int quarter(int p, int k, int what) {
        if (!state.has(p)) {
            return UNKNOWN;
        }
        if (what == 0) {
            return coats.armsAt(p, k);
        }
        if (what == 1) {
            return coats.throughAt(p, k);
        }
        return OUTSIDE;
    }

    public int kin(int p, int q, int what) {
        if (!state.has(p) || !state.has(q)) {
            return UNKNOWN;
        }
        if (what < 0 || what > 1) {
            return OUTSIDE;
        }
        kinship.seek(state, p, q);
        return what == 0 ? kinship.steps : kinship.nearest;
    }

    public int would(int man, int woman) {
        if (!state.has(man) || !state.has(woman) || man == woman) {
            return UNKNOWN;
        }
        if (!state.isMan(man) || !state.isWoman(woman)) {
            return NOT;
        }
        return coats.sizeForChild(state, man, woman);
    }

    public int dated(int from, int to) {
        if (!areYears(from, to)) {
            return OUTSIDE;
        }
        return years.diedBetween(state.people(), from, to);
    }

    public int signAt(int k) {
        return state.signNumber(k);
    }

    // ---- deeds

    public int put(int sex, int arms, int father, int mother) {
        if (!state.hasOrNone(father) || !state.hasOrNone(mother)) {
            return UNKNOWN;
        }
        if (sex < MAN || sex > WOMAN || !isArms(arms)) {
            return OUTSIDE;
        }
        if (father != NONE && !state.isMan(father) || mother != NONE && !state.isWoman(mother)) {
            return NOT;
        }
        if (!state.hasRoom()) {
            return FULL;
        }
        past.remember(state);
        state.addPerson(sex, arms, father, mother);
        reckonAll();
        return state.people() - 1;
    }

    public int born(int p, int from, int to) {
        return boundYears(p, State.BORN_FROM, from, to);
    }

    public int died(int p, int from, int to) {
        return boundYears(p, State.DIED_FROM, from, to);
    }

    public int rule(int v) {
        if (v < 0 || v > LAST_RULE) {
            return OUTSIDE;
        }
        past.remember(state);
        state.setRule(v);
        coats.reckon(state);
        return coats.unlikeCoats();
    }

    public int sign(int v) {
        if (v < 0 || v > WORN) {
            return OUTSIDE;
        }
        if (state.signs() >= MOST_SIGNS) {
            return FULL;
        }
        past.remember(state);
        state.addSign(v);
        return state.signs();
    }

    public int wipe() {
        int signs = state.signs();
        past.remember(state);
        state.clearSigns();
        return signs;
    }

    public int drift(int n) {
        if (n < 1 || n > MOST_DRIFT) {
            return OUTSIDE;
        }
        for (int i = 0; i < n && state.hasRoom(); i++) {
            past.remember(state);
            draws.addOne(state);
        }
        reckonAll();
        return state.people();
    }

    public int undo(int n) {
        if (n < 1 || n > MOST_DEEDS) {
            return OUTSIDE;
        }
        if (n > past.deeds) {
            return NOT;
        }
        past.stepBack(state, n);
        reckonAll();
        return state.people();
    }

    // ---- the book

    public int write(int p, int k, int arms) {
        if (!state.has(p)) {
            return UNKNOWN;
        }
        if (k < 0 || k >= MOST_ARMS || !isArms(arms)) {
            return OUTSIDE;
        }
        if (book.entries >= MOST_ENTRIES) {
            return FULL;
        }
        book.addEntry(p, k, arms);
        return book.entries;
    }

    public int tear() {
        int entries = book.entries;
        book.entries = 0;
        return entries;
    }

    // ---- images

    public int seed(int v) {
        if (v < 0) {
            return OUTSIDE;
        }
        int before = draws.seedNow;
        draws.seedNow = v;
        return before;
    }

    public int keep(int i) {
        if (i < 0 || i >= IMAGES) {
            return UNKNOWN;
        }
        images.store(i, state, draws);
        past.deeds = 0;
        return 1;
    }

    public int goBack(int i) {
        if (i < 0 || i >= IMAGES) {
            return UNKNOWN;
        }
        if (!images.isStored(i)) {
            return NOT;
        }
        images.restore(i, state, draws);
        past.deeds = 0;
        reckonAll();
        return 1;
    }

    // ---- what the calls share

    private int boundYears(int p, int firstBound, int from, int to) {
        if (!state.has(p)) {
            return UNKNOWN;
        }
        if (!areYears(from, to)) {
            return OUTSIDE;
        }
        past.remember(state);
        state.setBounds(p, firstBound, from, to);
        years.reckon(state);
        return years.spoiledBit();
    }

    private void reckonAll() {
        coats.reckon(state);
        years.reckon(state);
    }

    private static boolean isArms(int v) {
        return v >= 0 && v < MOST_ARMS;
    }

    private static boolean areYears(int from, int to) {
        return from >= 0 && from <= to && to <= LAST_YEAR;
    }

    /** PEOPLE with the years told of them, RULE and THE MONUMENT: one row of numbers, so that it is copied whole. */
    private static final class State {
        static final int SEX = 0, ARMS = 1, FATHER = 2, MOTHER = 3;
        static final int BORN_FROM = 4, BORN_TO = 5, DIED_FROM = 6, DIED_TO = 7;
        static final int FACTS = 8;

        static final int PEOPLE_CELL = 0, RULE_CELL = 1, SIGNS_CELL = 2, FIRST_SIGN = 3;
        static final int FIRST_PERSON = FIRST_SIGN + MOST_SIGNS;
        static final int CELLS = FIRST_PERSON + MOST_PEOPLE * FACTS;

        final int[] cells;

        State() {
            cells = new int[CELLS];
        }

        int people() {
            return cells[PEOPLE_CELL];
        }

        boolean has(int p) {
            return p >= 0 && p < MOST_PEOPLE && p < cells[PEOPLE_CELL];
        }

        boolean hasOrNone(int p) {
            return p == NONE || has(p);
        }

        boolean hasRoom() {
            return people() < MOST_PEOPLE;
        }

        int fact(int p, int fact) {
            if (!has(p) || fact < 0 || fact >= FACTS) {
                return NONE;
            }
            return cells[FIRST_PERSON + p * FACTS + fact];
        }

        boolean isMan(int p) {
            return fact(p, SEX) == MAN;
        }

        boolean isWoman(int p) {
            return fact(p, SEX) == WOMAN;
        }

        int childrenOf(int p) {
            int set = 0;
            for (int c = 0; c < people(); c++) {
                if (fact(c, FATHER) == p || fact(c, MOTHER) == p) {
                    set |= 1 << c;
                }
            }
            return set;
        }

        void addPerson(int sex, int arms, int father, int mother) {
            if (!hasRoom()) {
                return;
            }
            int at = FIRST_PERSON + people() * FACTS;
            cells[at + SEX] = sex;
            cells[at + ARMS] = father == NONE ? arms : fact(father, ARMS);
            cells[at + FATHER] = father;
            cells[at + MOTHER] = mother;
            cells[at + BORN_FROM] = 0;
            cells[at + BORN_TO] = LAST_YEAR;
            cells[at + DIED_FROM] = 0;
            cells[at + DIED_TO] = LAST_YEAR;
            cells[PEOPLE_CELL]++;
        }

        void setBounds(int p, int firstBound, int from, int to) {
            if (!has(p) || firstBound < BORN_FROM || firstBound > DIED_FROM) {
                return;
            }
            int at = FIRST_PERSON + p * FACTS + firstBound;
            cells[at] = from;
            cells[at + 1] = to;
        }

        int ruleNow() {
            return cells[RULE_CELL];
        }

        void setRule(int v) {
            cells[RULE_CELL] = v;
        }

        int signs() {
            return cells[SIGNS_CELL];
        }

        int signNumber(int k) {
            return k >= 0 && k < MOST_SIGNS && k < signs() ? cells[FIRST_SIGN + k] : NONE;
        }

        void addSign(int v) {
            if (signs() < MOST_SIGNS) {
                cells[FIRST_SIGN + signs()] = v;
                cells[SIGNS_CELL]++;
            }
        }

        void clearSigns() {
            cells[SIGNS_CELL] = 0;
        }
    }

    /** A shelf with places for copies of the State, all in one row that is made once. */
    private static final class Shelf {
        final int places;
        final int[] rows;

        Shelf(int places) {
            this.places = Math.max(places, 0);
            rows = new int[this.places * State.CELLS];
        }

        void lay(int place, State state) {
            if (place >= 0 && place < places) {
                System.arraycopy(state.cells, 0, rows, place * State.CELLS, State.CELLS);
            }
        }

        void fetch(int place, State state) {
            if (place >= 0 && place < places) {
                System.arraycopy(rows, place * State.CELLS, state.cells, 0, State.CELLS);
            }
        }
    }

    /** The State ahead of each of the latest deeds; the places are used round and round. */
    private static final class Past {
        final Shelf shelf;
        int next;
        int deeds;

        Past() {
            shelf = new Shelf(MOST_DEEDS);
        }

        void remember(State state) {
            shelf.lay(next, state);
            next = (next + 1) % MOST_DEEDS;
            deeds = Math.min(deeds + 1, MOST_DEEDS);
        }

        void stepBack(State state, int n) {
            if (n < 1 || n > deeds) {
                return;
            }
            next = (next + MOST_DEEDS - n) % MOST_DEEDS;
            deeds -= n;
            shelf.fetch(next, state);
        }
    }

    /** The IMAGES: THE SEED is kept beside the State, as a step back must leave it alone. */
    private static final class Images {
        final Shelf shelf;
        final int[] seeds;
        final boolean[] stored;

        Images() {
            shelf = new Shelf(IMAGES);
            seeds = new int[IMAGES];
            stored = new boolean[IMAGES];
        }

        boolean isStored(int i) {
            return i >= 0 && i < IMAGES && stored[i];
        }

        void store(int i, State state, Draws draws) {
            if (i < 0 || i >= IMAGES) {
                return;
            }
            shelf.lay(i, state);
            seeds[i] = draws.seedNow;
            stored[i] = true;
        }

        void restore(int i, State state, Draws draws) {
            if (!isStored(i)) {
                return;
            }
            shelf.fetch(i, state);
            draws.seedNow = seeds[i];
        }
    }

    /** THE SEED and those who come by it. */
    private static final class Draws {
        int seedNow;

        Draws() {
            seedNow = 0;
        }

        int draw(int n) {
            // int arithmetic wraps at 2 to the 32, so the lower 31 bits are what is left over by 2 to the 31.
            seedNow = (seedNow * 1103515245 + 12345) & 0x7fffffff;
            return n > 0 ? (seedNow / 65536) % n : 0;
        }

        void addOne(State state) {
            int sex = draw(2);
            int arms = draw(MOST_ARMS);
            int father = draw(state.people() + 1) - 1;
            int mother = draw(state.people() + 1) - 1;
            state.addPerson(sex, arms, state.isMan(father) ? father : NONE, state.isWoman(mother) ? mother : NONE);
        }
    }

    /** HEIRS and the QUARTERS of all the PEOPLE, with a place more for a child that might be. */
    private static final class Coats {
        static final int CHILD = MOST_PEOPLE;
        static final int PLACES = MOST_PEOPLE + 1;

        final int[] sizes;
        final int[] arms;
        final int[] through;
        int people;
        int heirs;

        Coats() {
            sizes = new int[PLACES];
            arms = new int[PLACES * MOST_ARMS];
            through = new int[PLACES * MOST_ARMS];
        }

        void reckon(State state) {
            people = state.people();
            heirs = heirsOf(state);
            // Parents are told ahead of their children, so theirs are always ready.
            for (int p = 0; p < people; p++) {
                compose(p, state, state.fact(p, State.FATHER), state.fact(p, State.MOTHER));
            }
        }

        static int heirsOf(State state) {
            int fathersOfMen = 0;
            for (int p = 0; p < state.people(); p++) {
                int father = state.fact(p, State.FATHER);
                if (father != NONE && state.isMan(p)) {
                    fathersOfMen |= 1 << father;
                }
            }
            int set = 0;
            for (int p = 0; p < state.people(); p++) {
                int father = state.fact(p, State.FATHER);
                if (father != NONE && state.isWoman(p) && !isIn(fathersOfMen, father)) {
                    set |= 1 << p;
                }
            }
            return set;
        }

        int sizeForChild(State state, int man, int woman) {
            compose(CHILD, state, man, woman);
            return sizeOf(CHILD);
        }

        void compose(int place, State state, int father, int mother) {
            if (place < 0 || place >= PLACES) {
                return;
            }
            int rule = state.ruleNow();
            boolean brings = mother != NONE && isIn(heirs, mother);
            sizes[place] = 0;
            // By every rule the own ARMS come first: they are the first QUARTER of a FATHER, too.
            if (father == NONE) {
                take(place, state.fact(place, State.ARMS), place);
            } else {
                take(place, armsAt(father, 0), throughAt(father, 0));
            }
            if (brings && rule == 2) {
                takeFrom(place, mother, sizeOf(mother));
            }
            takeFrom(place, father, sizeOf(father));
            if (brings && rule != 2) {
                takeFrom(place, mother, rule == 0 ? sizeOf(mother) : 1);
            }
        }

        void takeFrom(int place, int parent, int count) {
            for (int k = 0; k < count; k++) {
                take(place, armsAt(parent, k), throughAt(parent, k));
            }
        }

        void take(int place, int newArms, int whom) {
            if (place < 0 || place >= PLACES || sizes[place] >= MOST_ARMS) {
                return;
            }
            int first = place * MOST_ARMS;
            int end = first + sizes[place];
            for (int at = first; at < end; at++) {
                if (arms[at] == newArms) {
                    return;
                }
            }
            arms[end] = newArms;
            through[end] = whom;
            sizes[place]++;
        }

        int sizeOf(int place) {
            return place >= 0 && place < PLACES ? sizes[place] : 0;
        }

        int armsAt(int place, int k) {
            return k >= 0 && k < sizeOf(place) ? arms[place * MOST_ARMS + k] : NONE;
        }

        int throughAt(int place, int k) {
            return k >= 0 && k < sizeOf(place) ? through[place * MOST_ARMS + k] : NONE;
        }

        boolean isSame(int p, int q) {
            if (sizeOf(p) != sizeOf(q)) {
                return false;
            }
            for (int k = 0; k < sizeOf(p); k++) {
                if (armsAt(p, k) != armsAt(q, k)) {
                    return false;
                }
            }
            return true;
        }

        int sameAs(int p) {
            int set = 0;
            for (int q = 0; q < people; q++) {
                if (isSame(p, q)) {
                    set |= 1 << q;
                }
            }
            return set;
        }

        int unlikeCoats() {
            int seen = 0;
            int count = 0;
            for (int p = 0; p < people; p++) {
                if (!isIn(seen, p)) {
                    count++;
                    seen |= sameAs(p);
                }
            }
            return count;
        }

        static boolean isIn(int set, int p) {
            return (set >> p & 1) == 1;
        }
    }

    /**
     * The NARROWED years. All that must be has one form, "the later year is at least the earlier one and a gap",
     * so the least years rise along the gaps and the greatest fall along them until nothing moves, and both are
     * then exact.
     */
    private static final class Years {
        static final int GAPS_EACH = 7;

        final int[] least;
        final int[] greatest;
        final int[] earlier;
        final int[] later;
        final int[] gap;
        int moments;
        int gaps;
        boolean spoiled;

        Years() {
            least = new int[2 * MOST_PEOPLE];
            greatest = new int[2 * MOST_PEOPLE];
            earlier = new int[GAPS_EACH * MOST_PEOPLE];
            later = new int[GAPS_EACH * MOST_PEOPLE];
            gap = new int[GAPS_EACH * MOST_PEOPLE];
        }

        static int birth(int p) {
            return 2 * p;
        }

        static int death(int p) {
            return 2 * p + 1;
        }

        void reckon(State state) {
            moments = Math.min(2 * state.people(), 2 * MOST_PEOPLE);
            layBounds(state);
            layGaps(state);
            spoiled = !raiseLeast() || isCrossed();
            if (!spoiled) {
                lowerGreatest();
            }
        }

        void layBounds(State state) {
            for (int p = 0; p < moments / 2; p++) {
                least[birth(p)] = state.fact(p, State.BORN_FROM);
                greatest[birth(p)] = state.fact(p, State.BORN_TO);
                least[death(p)] = state.fact(p, State.DIED_FROM);
                greatest[death(p)] = state.fact(p, State.DIED_TO);
            }
        }

        void layGaps(State state) {
            gaps = 0;
            for (int p = 0; p < moments / 2; p++) {
                int father = state.fact(p, State.FATHER);
                int mother = state.fact(p, State.MOTHER);
                addGap(birth(p), death(p), 0);
                addGap(death(p), birth(p), -100);
                if (father != NONE) {
                    addGap(birth(father), birth(p), 15);
                    addGap(birth(p), death(father), -1);
                }
                if (mother != NONE) {
                    addGap(birth(mother), birth(p), 15);
                    addGap(birth(p), birth(mother), -50);
                    addGap(birth(p), death(mother), 0);
                }
            }
        }

        /** Only moments that there are, so that raising and lowering along the gaps need not look again. */
        void addGap(int from, int to, int years) {
            if (gaps < gap.length && isMoment(from) && isMoment(to)) {
                earlier[gaps] = from;
                later[gaps] = to;
                gap[gaps] = years;
                gaps++;
            }
        }

        /** False: it would rise for ever. A rise that ends goes through each moment once at most, so it ends in as many rounds. */
        boolean raiseLeast() {
            boolean moved = false;
            for (int round = 0; round < moments; round++) {
                moved = false;
                for (int g = 0; g < gaps; g++) {
                    int year = least[earlier[g]] + gap[g];
                    if (year > least[later[g]]) {
                        least[later[g]] = year;
                        moved = true;
                    }
                }
                if (!moved) {
                    return true;
                }
            }
            return !moved;
        }

        void lowerGreatest() {
            boolean moved = true;
            for (int round = 0; round < moments && moved; round++) {
                moved = false;
                for (int g = 0; g < gaps; g++) {
                    int year = greatest[later[g]] - gap[g];
                    if (year < greatest[earlier[g]]) {
                        greatest[earlier[g]] = year;
                        moved = true;
                    }
                }
            }
        }

        /** The least years are themselves a choice that fits, unless one of them is above its bound. */
        boolean isCrossed() {
            for (int m = 0; m < moments; m++) {
                if (least[m] > greatest[m]) {
                    return true;
                }
            }
            return false;
        }

        int spoiledBit() {
            return spoiled ? 1 : 0;
        }

        boolean isMoment(int moment) {
            return moment >= 0 && moment < moments;
        }

        boolean isKnown(int moment) {
            return !spoiled && isMoment(moment);
        }

        int leastOf(int moment) {
            return isKnown(moment) ? least[moment] : NONE;
        }

        int greatestOf(int moment) {
            return isKnown(moment) ? greatest[moment] : NONE;
        }

        int leastBirth(int p) {
            return leastOf(birth(p));
        }

        int greatestBirth(int p) {
            return greatestOf(birth(p));
        }

        int leastDeath(int p) {
            return leastOf(death(p));
        }

        int greatestDeath(int p) {
            return greatestOf(death(p));
        }

        int diedBetween(int people, int from, int to) {
            int set = 0;
            for (int p = 0; p < people && !spoiled; p++) {
                if (leastDeath(p) <= to && greatestDeath(p) >= from) {
                    set |= 1 << p;
                }
            }
            return set;
        }
    }

    /** Who may be meant by THE MONUMENT, and who most likely. */
    private static final class Tracer {
        final int[] found;

        Tracer() {
            found = new int[MOST_ARMS + 1];
        }

        static boolean fits(int sign, int arms) {
            return sign == WORN || sign == arms;
        }

        int meantByAll(State state, Coats coats) {
            int set = 0;
            for (int p = 0; p < state.people(); p++) {
                if (state.signs() > 0 && coats.sizeOf(p) == state.signs() && fitsEach(state, coats, p)) {
                    set |= 1 << p;
                }
            }
            return set;
        }

        static boolean fitsEach(State state, Coats coats, int p) {
            for (int k = 0; k < state.signs(); k++) {
                if (!fits(state.signNumber(k), coats.armsAt(p, k))) {
                    return false;
                }
            }
            return true;
        }

        int meantBySome(State state, Coats coats) {
            int set = 0;
            for (int p = 0; p < state.people(); p++) {
                if (state.signs() > 0 && fits(state.signNumber(0), coats.armsAt(p, 0)) && holdsRest(state, coats, p)) {
                    set |= 1 << p;
                }
            }
            return set;
        }

        /** Taking each sign at its first fit leaves the most for those behind it. */
        static boolean holdsRest(State state, Coats coats, int p) {
            int sign = 1;
            for (int k = 1; k < coats.sizeOf(p) && sign < state.signs(); k++) {
                if (fits(state.signNumber(sign), coats.armsAt(p, k))) {
                    sign++;
                }
            }
            return sign >= state.signs();
        }

        int like(State state, Coats coats, int p) {
            int size = Math.min(coats.sizeOf(p), MOST_ARMS);
            for (int k = 0; k <= size; k++) {
                found[k] = 0;
            }
            for (int s = 0; s < state.signs(); s++) {
                if (state.signNumber(s) != WORN) {
                    countOneMore(state.signNumber(s), coats, p, size);
                }
            }
            return found[size];
        }

        /** found[k]: the most of the signs up to now that can be found in the first k QUARTERS. */
        void countOneMore(int sign, Coats coats, int p, int size) {
            int without = 0;
            for (int k = 1; k <= size && k < found.length; k++) {
                int before = found[k];
                if (coats.armsAt(p, k - 1) == sign) {
                    found[k] = without + 1;
                } else {
                    found[k] = Math.max(found[k], found[k - 1]);
                }
                without = before;
            }
        }

        int likely(State state, Coats coats) {
            int best = NONE;
            int bestLike = 0;
            for (int p = 0; p < state.people(); p++) {
                int likeness = like(state, coats, p);
                boolean fewer = best != NONE && likeness == bestLike && coats.sizeOf(p) < coats.sizeOf(best);
                if (likeness > bestLike || fewer) {
                    best = p;
                    bestLike = likeness;
                }
            }
            return best;
        }
    }

    /** KIN and NEAREST of the two sought last. */
    private static final class Kinship {
        final int[] stepsOfOne;
        final int[] stepsOfOther;
        int steps;
        int nearest;

        Kinship() {
            stepsOfOne = new int[MOST_PEOPLE];
            stepsOfOther = new int[MOST_PEOPLE];
            steps = NONE;
            nearest = NONE;
        }

        void seek(State state, int p, int q) {
            countSteps(state, p, stepsOfOne);
            countSteps(state, q, stepsOfOther);
            steps = NONE;
            nearest = NONE;
            for (int a = 0; a < state.people() && a < MOST_PEOPLE; a++) {
                int both = stepsOfOne[a] + stepsOfOther[a];
                if (stepsOfOne[a] != NONE && stepsOfOther[a] != NONE && (steps == NONE || both <= steps)) {
                    steps = both;
                    nearest = a;
                }
            }
        }

        static void countSteps(State state, int p, int[] row) {
            for (int a = 0; a < row.length; a++) {
                row[a] = a == p ? 0 : NONE;
            }
            // Parents have lesser numbers, so going down each count is final before it is handed on.
            for (int a = Math.min(p, row.length - 1); a >= 0; a--) {
                if (row[a] != NONE) {
                    handOn(row, state.fact(a, State.FATHER), row[a] + 1);
                    handOn(row, state.fact(a, State.MOTHER), row[a] + 1);
                }
            }
        }

        static void handOn(int[] row, int parent, int count) {
            if (parent >= 0 && parent < row.length && (row[parent] == NONE || count < row[parent])) {
                row[parent] = count;
            }
        }
    }

    /** THE BOOK. It is no part of the State: a step back may leave an entry of one that there is no more. */
    private static final class Book {
        final int[] whose;
        final int[] which;
        final int[] arms;
        int entries;

        Book() {
            whose = new int[MOST_ENTRIES];
            which = new int[MOST_ENTRIES];
            arms = new int[MOST_ENTRIES];
        }

        void addEntry(int p, int k, int armsThere) {
            if (entries < MOST_ENTRIES) {
                whose[entries] = p;
                which[entries] = k;
                arms[entries] = armsThere;
                entries++;
            }
        }

        int firstWrong(Coats coats) {
            for (int e = 0; e < entries && e < MOST_ENTRIES; e++) {
                boolean gone = whose[e] >= coats.people;
                if (gone || coats.armsAt(whose[e], which[e]) != arms[e]) {
                    return e;
                }
            }
            return NONE;
        }
    }
}
