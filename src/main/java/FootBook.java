/**
 * Which foot does what: a chip whose feet can each do several things, given to a board's wishes.
 * The words in capitals are those of the document.
 */
public final class FootBook {
    public static final int NONE = -6, UNKNOWN = -1, OUTSIDE = -2, STATE = -3, FULL = -4, NO = -5;

    private static final int FEWEST_FEET = 4;
    private static final int MOST_FEET = 16;
    private static final int FEET_AT_FIRST = 8;
    private static final int MOST_VOLTS = 4;
    private static final int MOST_UNITS = 6;
    private static final int MOST_USES = 30;
    private static final int MOST_WISHES = 4;
    private static final int MOST_COUNTED = 100000;
    private static final int KINDS = 4;
    private static final int ROLES = 4;
    private static final int ALL_ROLES = 15;
    private static final int NUMBERS_OF_A_USE = 3;
    private static final int FIXED_FROM = 10;
    private static final int ALL_WISHES = 15;

    /** One MOVE outweighs every COST: 16 FEET of at most 8 steps each. */
    private static final int MOVE_WEIGHT = 1000;

    /** Above every weight of a GIVING, and small enough that a sum of some stays an int. */
    private static final int TOO_MUCH = 1000000;

    /** Sets of WISHES as bits, in the order in which they are blamed: fewer first, then by their rows. */
    private static final int[] SETS = {1, 2, 4, 8, 3, 5, 9, 6, 10, 12, 7, 11, 13, 14, 15};

    private final Chip chip;
    private final Board board;
    private final Search search;
    private final Giving hand;
    private final Giving cheapest;
    private int cheapestCost;
    private boolean cheapestKnown;

    public FootBook() {
        chip = new Chip();
        board = new Board();
        search = new Search();
        hand = new Giving();
        cheapest = new Giving();
        cheapestCost = NONE;
        cheapestKnown = false;
    }

    // ---- 1 the book

    public int feet(int n) {
        if (n < FEWEST_FEET || n > MOST_FEET) {
            return OUTSIDE;
        }
        int before = chip.footCount;
        chip.renew(n);
        board.wishCount = 0;
        hand.clear();
        cheapestKnown = false;
        return before;
    }

    public int volt(int foot, int v) {
        if (!chip.hasFoot(foot)) {
            return UNKNOWN;
        }
        if (v < 1 || v > MOST_VOLTS) {
            return OUTSIDE;
        }
        int before = chip.volts[foot];
        chip.volts[foot] = v;
        cheapestKnown = false;
        return before;
    }

    public int unit(int kind) {
        if (!isKind(kind)) {
            return OUTSIDE;
        }
        if (chip.unitCount >= MOST_UNITS) {
            return FULL;
        }
        cheapestKnown = false;
        return chip.addUnit(kind);
    }

    public int kind(int unit) {
        return chip.hasUnit(unit) ? chip.kinds[unit] : UNKNOWN;
    }

    public int use(int foot, int unit, int role) {
        if (!chip.hasFoot(foot) || !chip.hasUnit(unit)) {
            return UNKNOWN;
        }
        if (!isRole(role)) {
            return OUTSIDE;
        }
        if (chip.useCount >= MOST_USES) {
            return FULL;
        }
        if (chip.isAble(foot, unit, role)) {
            return NO;
        }
        cheapestKnown = false;
        return chip.addUse(foot, unit, role);
    }

    public int about(int use, int what) {
        if (use < 0 || use >= chip.useCount) {
            return UNKNOWN;
        }
        if (what < 0 || what >= NUMBERS_OF_A_USE) {
            return OUTSIDE;
        }
        return chip.uses[use * NUMBERS_OF_A_USE + what];
    }

    public int wish(int kind, int roles, int volt, int place) {
        int refusal = refusalOfWish(kind, roles, volt, place);
        if (refusal != 0) {
            return refusal;
        }
        cheapestKnown = false;
        return board.add(kind, roles, volt, place);
    }

    public int wished(int wish, int what) {
        if (!board.hasWish(wish)) {
            return UNKNOWN;
        }
        switch (what) {
            case 0:
                return board.kinds[wish];
            case 1:
                return board.roles[wish];
            case 2:
                return board.volts[wish];
            case 3:
                return board.places[wish];
            default:
                // Compared before the subtraction, so that no number wraps round into a ROLE.
                return what >= FIXED_FROM && what < FIXED_FROM + ROLES
                        ? board.fixed[wish * ROLES + what - FIXED_FROM] : OUTSIDE;
        }
    }

    public int fix(int wish, int role, int foot) {
        if (!board.hasWish(wish) || foot != -1 && !chip.hasFoot(foot)) {
            return UNKNOWN;
        }
        if (!board.wants(wish, role)) {
            return OUTSIDE;
        }
        int slot = wish * ROLES + role;
        int before = board.fixed[slot];
        board.fixed[slot] = foot == -1 ? NONE : foot;
        cheapestKnown = false;
        return before;
    }

    public int drop() {
        if (board.wishCount == 0) {
            return UNKNOWN;
        }
        board.wishCount--;
        cheapestKnown = false;
        return board.wishCount;
    }

    // ---- 2 givings

    public int best() {
        learnCheapest();
        return cheapestCost;
    }

    public int given(int wish, int role) {
        if (!board.hasWish(wish)) {
            return UNKNOWN;
        }
        if (role != -1 && !board.wants(wish, role)) {
            return OUTSIDE;
        }
        learnCheapest();
        return role == -1 ? cheapest.unitOf(wish) : cheapest.footOf(wish, role);
    }

    public int crossings() {
        learnCheapest();
        return cheapestCost == NONE ? NONE : countCrossings(cheapest);
    }

    public int blame() {
        learnCheapest();
        if (cheapestCost != NONE) {
            return 0;
        }
        int all = (1 << board.wishCount) - 1;
        for (int i = 0; i < SETS.length; i++) {
            if ((SETS[i] & ~all) == 0 && SETS[i] != all && !isPossible(SETS[i])) {
                return SETS[i];
            }
        }
        return all;
    }

    public int many() {
        search.aim(chip, board, ALL_WISHES);
        return search.countUpTo(MOST_COUNTED);
    }

    public int trial(int kind, int roles, int volt, int place) {
        int refusal = refusalOfWish(kind, roles, volt, place);
        if (refusal != 0) {
            return refusal;
        }
        board.add(kind, roles, volt, place);
        search.aim(chip, board, ALL_WISHES);
        int cost = search.findLeast();
        board.wishCount--;
        return cost;
    }

    // ---- 3 the hand

    public int hold() {
        learnCheapest();
        if (cheapestCost == NONE) {
            return STATE;
        }
        hand.copy(cheapest);
        return 1;
    }

    public int change() {
        if (!hand.holds) {
            return STATE;
        }
        search.aim(chip, board, ALL_WISHES);
        search.compareWith(hand);
        int weight = search.findLeast();
        if (weight == NONE) {
            return STATE;
        }
        hand.copy(search.found);
        return weight / MOVE_WEIGHT;
    }

    public int held(int wish, int role) {
        if (wish < 0 || wish >= MOST_WISHES) {
            return UNKNOWN;
        }
        if (role != -1 && !isRole(role)) {
            return OUTSIDE;
        }
        return role == -1 ? hand.unitOf(wish) : hand.footOf(wish, role);
    }

    public int setting(int i) {
        int passed = 0;
        for (int foot = 0; foot < chip.footCount; foot++) {
            int slot = hand.slotOn(foot);
            if (slot != NONE) {
                if (passed == i) {
                    return 100 * foot + 10 * hand.units[slot / ROLES] + slot % ROLES;
                }
                passed++;
            }
        }
        return i == -1 ? passed : NONE;
    }

    public int stands() {
        return hand.holds && isGivingNow(hand) ? 1 : 0;
    }

    public int told(int what) {
        switch (what) {
            case 0:
                return chip.footCount;
            case 1:
                return chip.unitCount;
            case 2:
                return chip.useCount;
            case 3:
                return board.wishCount;
            case 4:
                return hand.wishCount;
            default:
                return OUTSIDE;
        }
    }

    // ---- what the calls share

    private static boolean isKind(int kind) {
        return kind >= 0 && kind < KINDS;
    }

    private static boolean isRole(int role) {
        return role >= 0 && role < ROLES;
    }

    /** 0, if the WISH can be taken. */
    private int refusalOfWish(int kind, int roles, int volt, int place) {
        if (!chip.hasFoot(place)) {
            return UNKNOWN;
        }
        if (!isKind(kind) || roles < 1 || roles > ALL_ROLES || volt < 0 || volt > MOST_VOLTS) {
            return OUTSIDE;
        }
        return board.wishCount >= MOST_WISHES ? FULL : 0;
    }

    /** Many calls ask for THE BEST GIVING of the same book; it is sought once. */
    private void learnCheapest() {
        if (cheapestKnown) {
            return;
        }
        search.aim(chip, board, ALL_WISHES);
        cheapestCost = search.findLeast();
        if (cheapestCost == NONE) {
            cheapest.clear();
        } else {
            cheapest.copy(search.found);
        }
        cheapestKnown = true;
    }

    private boolean isPossible(int set) {
        search.aim(chip, board, set);
        return search.countUpTo(1) > 0;
    }

    private int countCrossings(Giving giving) {
        int crossed = 0;
        for (int one = 0; one < MOST_WISHES * ROLES; one++) {
            for (int other = 0; other < one; other++) {
                if (giving.feet[one] != NONE && giving.feet[other] != NONE
                        && cross(board.places[one / ROLES], giving.feet[one],
                                board.places[other / ROLES], giving.feet[other])) {
                    crossed++;
                }
            }
        }
        return crossed;
    }

    /** Whether the wire from a to b crosses that from c to d. */
    private static boolean cross(int a, int b, int c, int d) {
        if (a == b || a == c || a == d || b == c || b == d || c == d) {
            return false;
        }
        int low = Math.min(a, b);
        int high = Math.max(a, b);
        int between = (low < c && c < high ? 1 : 0) + (low < d && d < high ? 1 : 0);
        return between == 1;
    }

    /** THE HAND's UNITS and FEET are unlike since it took them from a GIVING; only the rest may have changed. */
    private boolean isGivingNow(Giving giving) {
        if (giving.wishCount != board.wishCount) {
            return false;
        }
        for (int wish = 0; wish < board.wishCount; wish++) {
            for (int role = 0; role < ROLES; role++) {
                if (!fits(giving, wish, role)) {
                    return false;
                }
            }
        }
        return true;
    }

    private boolean fits(Giving giving, int wish, int role) {
        int foot = giving.footOf(wish, role);
        if (!board.wants(wish, role)) {
            return foot == NONE;
        }
        return foot != NONE && (board.openFeet(chip, wish, giving.unitOf(wish), role) >> foot & 1) != 0;
    }

    /** THE CHIP: its FEET, UNITS and USES. */
    private static final class Chip {
        int footCount;
        int unitCount;
        int useCount;
        final int[] volts = new int[MOST_FEET];
        final int[] kinds = new int[MOST_UNITS];
        /** FOOT, UNIT and ROLE of each USE. */
        final int[] uses = new int[MOST_USES * NUMBERS_OF_A_USE];
        /** For each ROLE of each UNIT the FEET that can do it, as bits. */
        final int[] able = new int[MOST_UNITS * ROLES];

        Chip() {
            renew(FEET_AT_FIRST);
        }

        void renew(int n) {
            footCount = n;
            unitCount = 0;
            useCount = 0;
            for (int foot = 0; foot < MOST_FEET; foot++) {
                volts[foot] = 1;
            }
            for (int slot = 0; slot < able.length; slot++) {
                able[slot] = 0;
            }
        }

        boolean hasFoot(int foot) {
            return foot >= 0 && foot < footCount;
        }

        boolean hasUnit(int unit) {
            return unit >= 0 && unit < unitCount;
        }

        boolean isAble(int foot, int unit, int role) {
            return (able[unit * ROLES + role] >> foot & 1) != 0;
        }

        int addUnit(int kind) {
            kinds[unitCount] = kind;
            unitCount++;
            return unitCount - 1;
        }

        int addUse(int foot, int unit, int role) {
            int at = useCount * NUMBERS_OF_A_USE;
            uses[at] = foot;
            uses[at + 1] = unit;
            uses[at + 2] = role;
            able[unit * ROLES + role] |= 1 << foot;
            useCount++;
            return useCount - 1;
        }

        int countOfKind(int kind) {
            int count = 0;
            for (int unit = 0; unit < unitCount; unit++) {
                if (kinds[unit] == kind) {
                    count++;
                }
            }
            return count;
        }

        /** The FEET of a VOLTAGE as bits; 0 is whatever VOLTAGE. */
        int feetOfVolt(int volt) {
            int bits = 0;
            for (int foot = 0; foot < footCount; foot++) {
                if (volt == 0 || volts[foot] == volt) {
                    bits |= 1 << foot;
                }
            }
            return bits;
        }

        /** The shorter way round. */
        int steps(int from, int to) {
            int oneWay = Math.abs(from - to);
            return Math.min(oneWay, footCount - oneWay);
        }
    }

    /** The WISHES. */
    private static final class Board {
        int wishCount;
        final int[] kinds = new int[MOST_WISHES];
        final int[] roles = new int[MOST_WISHES];
        final int[] volts = new int[MOST_WISHES];
        final int[] places = new int[MOST_WISHES];
        /** For each ROLE of each WISH the FOOT on which it is FIXED, or NONE. */
        final int[] fixed = new int[MOST_WISHES * ROLES];

        boolean hasWish(int wish) {
            return wish >= 0 && wish < wishCount;
        }

        boolean wants(int wish, int role) {
            return isRole(role) && (roles[wish] >> role & 1) != 0;
        }

        int add(int kind, int rolesWished, int volt, int place) {
            int wish = wishCount;
            kinds[wish] = kind;
            roles[wish] = rolesWished;
            volts[wish] = volt;
            places[wish] = place;
            for (int role = 0; role < ROLES; role++) {
                fixed[wish * ROLES + role] = NONE;
            }
            wishCount++;
            return wish;
        }

        /** How many of a set of WISHES are of a KIND. */
        int countOfKind(int kind, int set) {
            int count = 0;
            for (int wish = 0; wish < wishCount; wish++) {
                if ((set >> wish & 1) != 0 && kinds[wish] == kind) {
                    count++;
                }
            }
            return count;
        }

        /** The FEET, as bits, on which a UNIT may do a ROLE for a WISH. */
        int openFeet(Chip chip, int wish, int unit, int role) {
            if (!chip.hasUnit(unit) || chip.kinds[unit] != kinds[wish]) {
                return 0;
            }
            int bits = chip.able[unit * ROLES + role] & chip.feetOfVolt(volts[wish]);
            int foot = fixed[wish * ROLES + role];
            return foot == NONE ? bits : bits & 1 << foot;
        }
    }

    /** A UNIT for each WISH and a FOOT for each ROLE of it; or nothing. */
    private static final class Giving {
        boolean holds;
        int wishCount;
        final int[] units = new int[MOST_WISHES];
        final int[] feet = new int[MOST_WISHES * ROLES];

        Giving() {
            clear();
        }

        void clear() {
            holds = false;
            wishCount = 0;
            for (int wish = 0; wish < MOST_WISHES; wish++) {
                units[wish] = NONE;
            }
            for (int slot = 0; slot < feet.length; slot++) {
                feet[slot] = NONE;
            }
        }

        void copy(Giving other) {
            holds = other.holds;
            wishCount = other.wishCount;
            System.arraycopy(other.units, 0, units, 0, units.length);
            System.arraycopy(other.feet, 0, feet, 0, feet.length);
        }

        int unitOf(int wish) {
            return units[wish];
        }

        int footOf(int wish, int role) {
            return feet[wish * ROLES + role];
        }

        /** 4 times the WISH and the ROLE that a FOOT has; NONE. */
        int slotOn(int foot) {
            for (int slot = 0; slot < feet.length; slot++) {
                if (feet[slot] == foot) {
                    return slot;
                }
            }
            return NONE;
        }
    }

    /**
     * Goes through the GIVINGS in the document's order, WISH by WISH, its UNIT first and then its FEET by ROLES,
     * so that the first one found of several with the same weight is the one that is due.
     */
    private static final class Search {
        /** The first GIVING of the least weight. */
        final Giving found = new Giving();
        /** The GIVING as far as it is made. */
        private final Giving making = new Giving();
        /** The GIVING from which MOVES are counted; it holds nothing, where none are. */
        private final Giving kept = new Giving();
        private int wishCount;
        private int unitCount;
        private int footCount;
        /** The ROLES of each WISH that is looked at; 0 where one is left out. */
        private final int[] roles = new int[MOST_WISHES];
        /** FEET as bits by WISH, UNIT, ROLE; as steps and bounds only set for a WISH that is looked at. */
        private final int[] open = new int[MOST_WISHES * MOST_UNITS * ROLES];
        /** Steps by WISH, FOOT. */
        private final int[] steps = new int[MOST_WISHES * MOST_FEET];
        /** By WISH, UNIT, ROLE: no less than this do that ROLE and the later ones weigh. */
        private final int[] rolesFrom = new int[MOST_WISHES * MOST_UNITS * (ROLES + 1)];
        /** By WISH: no less than this do that WISH and the later ones weigh. */
        private final int[] wishesFrom = new int[MOST_WISHES + 1];
        /** The last ROLE that is given, as 4 times its WISH and the ROLE; NONE without WISHES. */
        private int lastSlot;
        private boolean enoughUnits;
        private int unitsTaken;
        private int feetTaken;
        private int least;
        private int counted;
        private int countLimit;

        /** Sets what is sought: GIVINGS of a set of WISHES by themselves. */
        void aim(Chip chip, Board board, int set) {
            wishCount = board.wishCount;
            unitCount = chip.unitCount;
            footCount = chip.footCount;
            lastSlot = NONE;
            enoughUnits = true;
            kept.clear();
            for (int wish = 0; wish < wishCount; wish++) {
                boolean looked = (set >> wish & 1) != 0;
                roles[wish] = looked ? board.roles[wish] : 0;
                if (looked) {
                    aimAt(chip, board, wish);
                    if (board.countOfKind(board.kinds[wish], set) > chip.countOfKind(board.kinds[wish])) {
                        enoughUnits = false;
                    }
                }
            }
        }

        private void aimAt(Chip chip, Board board, int wish) {
            for (int foot = 0; foot < footCount; foot++) {
                steps[wish * MOST_FEET + foot] = chip.steps(board.places[wish], foot);
            }
            for (int role = 0; role < ROLES; role++) {
                if (board.wants(wish, role)) {
                    lastSlot = wish * ROLES + role;
                }
                for (int unit = 0; unit < unitCount; unit++) {
                    open[(wish * MOST_UNITS + unit) * ROLES + role] = board.openFeet(chip, wish, unit, role);
                }
            }
        }

        /** MOVES from this GIVING weigh, too. */
        void compareWith(Giving giving) {
            kept.copy(giving);
        }

        /** The least weight (NONE: there is no GIVING); what weighs it stands in found. */
        int findLeast() {
            begin(0);
            found.clear();
            if (enoughUnits) {
                giveUnit(0, 0);
            }
            return found.holds ? least : NONE;
        }

        int countUpTo(int limit) {
            begin(limit);
            if (enoughUnits) {
                giveUnit(0, 0);
            }
            return Math.min(counted, limit);
        }

        private void begin(int limit) {
            countLimit = limit;
            counted = 0;
            least = TOO_MUCH;
            unitsTaken = 0;
            feetTaken = 0;
            making.clear();
            making.holds = true;
            making.wishCount = wishCount;
            setBounds();
        }

        private void setBounds() {
            wishesFrom[wishCount] = 0;
            for (int wish = wishCount - 1; wish >= 0; wish--) {
                int lightest = roles[wish] == 0 ? 0 : TOO_MUCH;
                for (int unit = 0; unit < unitCount && roles[wish] != 0; unit++) {
                    int at = (wish * MOST_UNITS + unit) * (ROLES + 1);
                    rolesFrom[at + ROLES] = 0;
                    for (int role = ROLES - 1; role >= 0; role--) {
                        rolesFrom[at + role] = rolesFrom[at + role + 1] + lightestFoot(wish, unit, role);
                    }
                    lightest = Math.min(lightest, rolesFrom[at]);
                }
                wishesFrom[wish] = wishesFrom[wish + 1] + lightest;
            }
        }

        private int lightestFoot(int wish, int unit, int role) {
            if ((roles[wish] >> role & 1) == 0) {
                return 0;
            }
            int lightest = TOO_MUCH;
            int bits = open[(wish * MOST_UNITS + unit) * ROLES + role];
            for (int foot = 0; foot < footCount; foot++) {
                if ((bits >> foot & 1) != 0) {
                    lightest = Math.min(lightest, weigh(wish, unit, role, foot));
                }
            }
            return lightest;
        }

        private int weigh(int wish, int unit, int role, int foot) {
            int cost = steps[wish * MOST_FEET + foot];
            boolean moves = wish < kept.wishCount
                    && (kept.units[wish] != unit || kept.feet[wish * ROLES + role] != foot);
            return moves ? cost + MOVE_WEIGHT : cost;
        }

        private boolean isOver() {
            return countLimit > 0 && counted >= countLimit;
        }

        private void giveUnit(int wish, int weight) {
            if (wish >= wishCount) {
                reach(weight);
                return;
            }
            if (roles[wish] == 0) {
                giveUnit(wish + 1, weight);
                return;
            }
            for (int unit = 0; unit < unitCount && !isOver(); unit++) {
                if ((unitsTaken >> unit & 1) == 0) {
                    making.units[wish] = unit;
                    unitsTaken |= 1 << unit;
                    giveFoot(wish, 0, weight);
                    unitsTaken &= ~(1 << unit);
                }
            }
        }

        private void giveFoot(int wish, int from, int weight) {
            int unit = making.units[wish];
            int role = wishedFrom(wish, from);
            int bound = rolesFrom[(wish * MOST_UNITS + unit) * (ROLES + 1) + role] + wishesFrom[wish + 1];
            if (weight + bound >= least) {
                return;
            }
            if (role >= ROLES) {
                giveUnit(wish + 1, weight);
                return;
            }
            int slot = wish * ROLES + role;
            int bits = open[(wish * MOST_UNITS + unit) * ROLES + role] & ~feetTaken;
            if (countLimit > 0 && slot == lastSlot) {
                counted += Integer.bitCount(bits);
                return;
            }
            for (int foot = 0; foot < footCount && !isOver(); foot++) {
                if ((bits >> foot & 1) != 0) {
                    making.feet[slot] = foot;
                    feetTaken |= 1 << foot;
                    giveFoot(wish, role + 1, weight + weigh(wish, unit, role, foot));
                    feetTaken &= ~(1 << foot);
                }
            }
        }

        /** The first ROLE from this one on that the WISH has; 4 after the last. */
        private int wishedFrom(int wish, int from) {
            int role = from;
            while (role < ROLES && (roles[wish] >> role & 1) == 0) {
                role++;
            }
            return role;
        }

        /** A GIVING is whole. While GIVINGS are counted none is kept, so that no bound leaves one out. */
        private void reach(int weight) {
            if (countLimit > 0) {
                counted++;
            } else {
                least = weight;
                found.copy(making);
            }
        }
    }
}
