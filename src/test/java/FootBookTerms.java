import java.util.function.Consumer;

/** The sentences under 'Terms' of the document: each that names an edge has a test of its own with its words. */
public final class FootBookTerms extends Check {
    public static void main(String[] args) {
        refusals();
        theBook();
        theWishes();
        aGiving();
        theBestGiving();
        crossingsAndBlame();
        theHand();
        theChange();
        theSettings();
        end();
    }

    // ---- refusals

    private static void refusals() {
        sentence("UNKNOWN -1, OUTSIDE -2, STATE -3, FULL -4, NO -5; NONE = -6", FootBookTerms::theConstants);
        sentence("an object is used for at most 512 calls", FootBookTerms::call512);
        sentence("the first of these that fits: UNKNOWN ahead of OUTSIDE", FootBookTerms::unknownAheadOfOutside);
        sentence("the first of these that fits: UNKNOWN ahead of FULL", FootBookTerms::unknownAheadOfFull);
        sentence("the first of these that fits: OUTSIDE ahead of FULL", FootBookTerms::outsideAheadOfFull);
        sentence("the first of these that fits: FULL ahead of NO", FootBookTerms::fullAheadOfNo);
        sentence("refusals ahead of NONE", FootBookTerms::refusalsAheadOfNone);
        sentence("they change nothing", FootBookTerms::refusedCallsInARow);
        sentence("they change nothing (the numbers to come)", FootBookTerms::numbersAfterRefusedCalls);
    }

    private static void theConstants() {
        due("UNKNOWN", FootBook.UNKNOWN, -1);
        due("OUTSIDE", FootBook.OUTSIDE, -2);
        due("STATE", FootBook.STATE, -3);
        due("FULL", FootBook.FULL, -4);
        due("NO", FootBook.NO, -5);
        due("NONE", FootBook.NONE, -6);
    }

    private static void call512() {
        FootBook x = readied(Check::small);
        int calls = 10;
        for (; calls < 510; calls += 2) {
            x.volt(7, 1 + calls / 2 % 4);
            x.best();
        }
        due(x, 3, "volt", 7, 1);
        due(x, 1, "best");
    }

    private static void unknownAheadOfOutside() {
        refused(Check::small, UNKNOWN, "volt", 8, 5);
        refused(Check::small, UNKNOWN, "volt", -1, 0);
        refused(Check::small, UNKNOWN, "use", 8, 0, 4);
        refused(Check::small, UNKNOWN, "use", 0, 2, 4);
        refused(Check::small, UNKNOWN, "about", 5, 3);
        for (String name : new String[] {"wish", "trial"}) {
            refused(Check::small, UNKNOWN, name, 4, 1, 0, 8);
            refused(Check::small, UNKNOWN, name, 0, 0, 0, 8);
            refused(Check::small, UNKNOWN, name, 0, 16, 0, -1);
            refused(Check::small, UNKNOWN, name, 0, 1, 5, 8);
            refused(Check::small, UNKNOWN, name, -1, 0, -1, -1);
        }
        refused(Check::small, UNKNOWN, "wished", 1, 4);
        refused(Check::small, UNKNOWN, "fix", 1, 4, 0);
        refused(Check::small, UNKNOWN, "fix", 0, 2, 8);
        refused(Check::small, UNKNOWN, "fix", 0, 4, -2);
        refused(Check::small, UNKNOWN, "given", 1, 4);
        refused(Check::small, UNKNOWN, "held", 4, 4);
        refused(Check::small, UNKNOWN, "held", -1, -2);
    }

    private static void unknownAheadOfFull() {
        refused(Check::full, UNKNOWN, "use", 16, 0, 0);
        refused(Check::full, UNKNOWN, "use", 0, 6, 0);
        refused(Check::full, UNKNOWN, "use", 16, 6, 4);
        for (String name : new String[] {"wish", "trial"}) {
            refused(Check::full, UNKNOWN, name, 0, 1, 0, 16);
            refused(Check::full, UNKNOWN, name, 4, 16, 5, 16);
        }
    }

    private static void outsideAheadOfFull() {
        refused(Check::full, OUTSIDE, "unit", 4);
        refused(Check::full, OUTSIDE, "unit", -1);
        refused(Check::full, OUTSIDE, "use", 0, 0, 4);
        refused(Check::full, OUTSIDE, "use", 15, 5, -1);
        for (String name : new String[] {"wish", "trial"}) {
            refused(Check::full, OUTSIDE, name, 4, 1, 0, 0);
            refused(Check::full, OUTSIDE, name, 0, 0, 0, 0);
            refused(Check::full, OUTSIDE, name, 0, 16, 0, 15);
            refused(Check::full, OUTSIDE, name, 0, 1, 5, 15);
            refused(Check::full, OUTSIDE, name, 0, 1, -1, 0);
        }
    }

    private static void fullAheadOfNo() {
        FootBook x = readied(Check::full);
        due(x, 0, "about", 0, 0);
        due(x, 0, "about", 0, 1);
        due(x, 0, "about", 0, 2);
        refused(Check::full, FULL, "use", 0, 0, 0);
    }

    private static void refusalsAheadOfNone() {
        refused(Check::impossible, NONE, "given", 0, 0);
        refused(Check::impossible, OUTSIDE, "given", 0, 2);
        refused(Check::impossible, OUTSIDE, "given", 1, -2);
        refused(Check::impossible, UNKNOWN, "given", 2, 0);
        refused(Check::impossible, NONE, "trial", 1, 1, 0, 0);
        refused(Check::impossible, OUTSIDE, "trial", 1, 1, 5, 0);
        refused(Check::impossible, UNKNOWN, "trial", 1, 1, 0, 8);
        refused(Check::nothing, NONE, "held", 3, 3);
        refused(Check::nothing, OUTSIDE, "held", 3, 4);
        refused(Check::nothing, UNKNOWN, "held", 4, 3);
    }

    private static void refusedCallsInARow() {
        FootBook x = readied(Check::full);
        String before = allThatCanBeRead(x);
        due(x, OUTSIDE, "feet", 17);
        due(x, UNKNOWN, "volt", 16, 2);
        due(x, OUTSIDE, "volt", 3, 5);
        due(x, FULL, "unit", 0);
        due(x, UNKNOWN, "kind", 6);
        due(x, FULL, "use", 3, 3, 3);
        due(x, UNKNOWN, "about", 30, 0);
        due(x, FULL, "wish", 0, 1, 0, 0);
        due(x, UNKNOWN, "wished", 4, 0);
        due(x, UNKNOWN, "fix", 0, 0, 16);
        due(x, OUTSIDE, "fix", 0, 2, 0);
        due(x, UNKNOWN, "given", 4, 0);
        due(x, OUTSIDE, "given", 0, 3);
        due(x, FULL, "trial", 0, 1, 0, 0);
        due(x, UNKNOWN, "held", 4, 0);
        due(x, OUTSIDE, "held", 0, 4);
        due(x, OUTSIDE, "told", 5);
        same("all of them were refused", before, allThatCanBeRead(x));
        x = readied(Check::impossible);
        before = allThatCanBeRead(x);
        due(x, STATE, "hold");
        due(x, STATE, "change");
        due(x, NO, "use", 0, 0, 0);
        same("all of them were refused", before, allThatCanBeRead(x));
    }

    private static void numbersAfterRefusedCalls() {
        FootBook x = readied(Check::small);
        due(x, OUTSIDE, "unit", 4);
        due(x, 2, "unit", 3);
        due(x, NO, "use", 4, 1, 2);
        due(x, OUTSIDE, "use", 4, 1, 4);
        due(x, UNKNOWN, "use", 8, 1, 1);
        due(x, 5, "use", 4, 1, 1);
        due(x, OUTSIDE, "wish", 1, 16, 0, 0);
        due(x, UNKNOWN, "wish", 1, 1, 0, 8);
        due(x, OUTSIDE, "trial", 1, 16, 0, 0);
        due(x, 1, "wish", 1, 1, 0, 0);
        due(x, 1, "drop");
        due(x, 0, "drop");
        due(x, UNKNOWN, "drop");
        due(x, 0, "wish", 1, 1, 0, 0);
    }

    // ---- 1 the book

    private static void theBook() {
        sentence("THE CHIP has n FEET (4 to 16)", () -> bounds(Check::small, OUTSIDE, 4, 16, "feet", 0, 8));
        sentence("8 at first", FootBookTerms::eightFeetAtFirst);
        sentence("FEET numbered from 0 on", FootBookTerms::feetFromZeroOn);
        sentence("each has a VOLTAGE (1 to 4)", () -> bounds(Check::small, OUTSIDE, 1, 4, "volt", 1, 2, 1));
        sentence("VOLTAGE 1 at first", FootBookTerms::voltageOneAtFirst);
        sentence("UNITS, 6 at most", FootBookTerms::sixUnitsAtMost);
        sentence("UNITS numbered from 0 on", () -> bounds(Check::sixUnits, UNKNOWN, 0, 5, "kind", 0, 0));
        sentence("of a KIND (0 to 3)", () -> bounds(Check::small, OUTSIDE, 0, 3, "unit", 0, 0));
        sentence("ROLES of a UNIT are 0 to 3", FootBookTerms::rolesZeroToThree);
        sentence("A USE, 30 at most", FootBookTerms::thirtyUsesAtMost);
        sentence("USES numbered from 0 on", () -> bounds(Check::full, UNKNOWN, 0, 29, "about", 0, 0, 0));
        sentence("each such once", FootBookTerms::eachUseOnce);
    }

    private static void eightFeetAtFirst() {
        due(new FootBook(), 8, "told", 0);
        due(new FootBook(), 8, "feet", 5);
        bounds(Check::nothing, UNKNOWN, 0, 7, "volt", 0, 0, 1);
    }

    private static void feetFromZeroOn() {
        for (int n = 4; n <= 16; n++) {
            int feet = n;
            Consumer<FootBook> ready = x -> {
                x.feet(16);
                x.feet(feet);
                x.unit(0);
                x.wish(0, 1, 0, 0);
            };
            bounds(ready, UNKNOWN, 0, n - 1, "volt", 0, 0, 1);
            bounds(ready, UNKNOWN, 0, n - 1, "use", 0, 0, 0, 0);
            bounds(ready, UNKNOWN, 0, n - 1, "wish", 3, 0, 1, 0, 0);
            bounds(ready, UNKNOWN, 0, n - 1, "trial", 3, 0, 1, 0, 0);
            bounds(ready, UNKNOWN, -1, n - 1, "fix", 2, 0, 0, 0);
        }
    }

    private static void voltageOneAtFirst() {
        FootBook x = new FootBook();
        for (int foot = 0; foot < 8; foot++) {
            due(x, 1, "volt", foot, 4);
        }
        for (int n = 4; n <= 16; n++) {
            x.feet(n);
            for (int foot = 0; foot < n; foot++) {
                due(x, 1, "volt", foot, 2 + foot % 3);
            }
        }
    }

    private static void sixUnitsAtMost() {
        FootBook x = new FootBook();
        for (int unit = 0; unit < 6; unit++) {
            due(x, unit, "told", 1);
            due(x, UNKNOWN, "kind", unit);
            due(x, unit, "unit", 3);
            due(x, 3, "kind", unit);
        }
        for (int kind = 0; kind < 4; kind++) {
            refused(Check::sixUnits, FULL, "unit", kind);
        }
        x.feet(8);
        due(x, 0, "unit", 0);
    }

    private static void rolesZeroToThree() {
        bounds(x -> x.unit(0), OUTSIDE, 0, 3, "use", 2, 0, 0, 0);
        FootBook x = readied(b -> b.unit(0));
        for (int role = 0; role < 4; role++) {
            due(x, role, "use", 4 + role, 0, role);
            due(x, role, "about", role, 2);
        }
        x.wish(0, 15, 0, 0);
        due(x, 4 + 3 + 2 + 1, "best");
    }

    private static void thirtyUsesAtMost() {
        FootBook x = new FootBook();
        x.unit(0);
        for (int use = 0; use < 30; use++) {
            due(x, use, "told", 2);
            due(x, UNKNOWN, "about", use, 0);
            due(x, use, "use", use % 8, 0, use / 8);
        }
        due(x, FULL, "use", 6, 0, 3);
        due(x, FULL, "use", 7, 0, 3);
        due(x, 30, "told", 2);
        due(x, UNKNOWN, "about", 30, 0);
        // Neither was kept: from both the nearest FOOT is the next one.
        due(x, 1, "trial", 0, 8, 0, 6);
        due(x, 1, "trial", 0, 8, 0, 7);
        x.feet(8);
        x.unit(0);
        due(x, 0, "use", 7, 0, 3);
    }

    /** The least and the greatest of each number, all others unlike by one of them alone. */
    private static void eachUseOnce() {
        FootBook x = new FootBook();
        x.feet(16);
        sixUnits(x);
        int number = 0;
        for (int corner = 0; corner < 8; corner++) {
            int foot = (corner & 1) * 15;
            int unit = (corner >> 1 & 1) * 5;
            int role = (corner >> 2) * 3;
            due(x, number, "use", foot, unit, role);
            number++;
            due(x, NO, "use", foot, unit, role);
            due(x, number, "told", 2);
        }
        refused(Check::small, NO, "use", 2, 0, 1);
        taken(Check::small, "use", 2, 0, 2);
        taken(Check::small, "use", 2, 1, 1);
        taken(Check::small, "use", 3, 0, 1);
    }

    // ---- 1 the wishes

    private static void theWishes() {
        sentence("WISHES, 4 at most", FootBookTerms::fourWishesAtMost);
        sentence("WISHES numbered from 0 on", FootBookTerms::wishesFromZeroOn);
        sentence("a UNIT of a KIND (0 to 3)", FootBookTerms::kindOfAWish);
        sentence("with some ROLES (bits, 1 to 15)", FootBookTerms::rolesOneToFifteen);
        sentence("all on FEET of one told VOLTAGE", FootBookTerms::oneToldVoltage);
        sentence("0: of whatever ones, also unlike", FootBookTerms::whateverVoltage);
        sentence("at a PLACE of the board (a FOOT's number)", FootBookTerms::placeIsAFootsNumber);
        sentence("some ROLES may be FIXED on a FOOT", FootBookTerms::someRolesFixed);
    }

    private static void fourWishesAtMost() {
        FootBook x = new FootBook();
        for (int wish = 0; wish < 4; wish++) {
            due(x, wish, "told", 3);
            due(x, wish, "wish", 0, 1, 0, 0);
        }
        due(x, FULL, "wish", 0, 1, 0, 0);
        due(x, FULL, "trial", 0, 1, 0, 0);
        due(x, 4, "told", 3);
        due(x, 3, "drop");
        due(x, NONE, "trial", 0, 1, 0, 0);
        due(x, 3, "wish", 0, 1, 0, 0);
        refused(Check::full, FULL, "wish", 3, 15, 4, 15);
        refused(Check::full, FULL, "trial", 3, 15, 4, 15);
        x.feet(8);
        due(x, 0, "wish", 0, 1, 0, 0);
    }

    private static void wishesFromZeroOn() {
        for (int n = 0; n <= 4; n++) {
            int wishes = n;
            Consumer<FootBook> ready = x -> {
                for (int wish = 0; wish < wishes; wish++) {
                    x.wish(wish, 1, 0, 0);
                }
            };
            bounds(ready, UNKNOWN, 0, n - 1, "wished", 0, 0, 0);
            bounds(ready, UNKNOWN, 0, n - 1, "fix", 0, 0, 0, 0);
            bounds(ready, UNKNOWN, 0, n - 1, "given", 0, 0, 0);
            FootBook x = readied(ready);
            for (int wish = 0; wish < n; wish++) {
                due(x, wish, "wished", wish, 0);
            }
        }
    }

    private static void kindOfAWish() {
        bounds(Check::small, OUTSIDE, 0, 3, "wish", 0, 0, 1, 0, 0);
        bounds(Check::small, OUTSIDE, 0, 3, "trial", 0, 0, 1, 0, 0);
    }

    private static void rolesOneToFifteen() {
        bounds(Check::small, OUTSIDE, 1, 15, "wish", 1, 0, 1, 0, 0);
        bounds(Check::small, OUTSIDE, 1, 15, "trial", 1, 0, 1, 0, 0);
        for (int roles = 1; roles <= 15; roles++) {
            FootBook x = readied(b -> b.unit(0));
            for (int role = 0; role < 4; role++) {
                x.use(1 << role & 7, 0, role);
            }
            x.wish(0, roles, 0, 0);
            due(x, roles, "wished", 0, 1);
            int[] stepsOfRole = {1, 2, 4, 0};
            int cost = 0;
            for (int role = 0; role < 4; role++) {
                boolean wished = (roles >> role & 1) == 1;
                cost += wished ? stepsOfRole[role] : 0;
                due(x, wished ? 1 << role & 7 : OUTSIDE, "given", 0, role);
                due(x, wished ? NONE : OUTSIDE, "fix", 0, role, -1);
            }
            due(x, cost, "best");
            due(x, 1, "hold");
            due(x, Integer.bitCount(roles), "setting", -1);
        }
    }

    private static void oneToldVoltage() {
        bounds(Check::small, OUTSIDE, 0, 4, "wish", 2, 0, 1, 0, 0);
        bounds(Check::small, OUTSIDE, 0, 4, "trial", 2, 0, 1, 0, 0);
        for (int told = 1; told <= 4; told++) {
            for (int one = 1; one <= 4; one++) {
                for (int other = 1; other <= 4; other++) {
                    due("best() at " + told + " of " + one + " and " + other, costAtVoltages(told, one, other),
                            one == told && other == told ? 3 : NONE);
                }
            }
        }
    }

    private static void whateverVoltage() {
        for (int one = 1; one <= 4; one++) {
            for (int other = 1; other <= 4; other++) {
                due("best() of " + one + " and " + other, costAtVoltages(0, one, other), 3);
            }
        }
    }

    /** Two ROLES, one of them on FOOT 1, the other on FOOT 2, of these VOLTAGES. */
    private static int costAtVoltages(int told, int one, int other) {
        FootBook x = new FootBook();
        x.volt(1, one);
        x.volt(2, other);
        x.unit(0);
        x.use(1, 0, 0);
        x.use(2, 0, 3);
        x.wish(0, 9, told, 0);
        return x.best();
    }

    private static void placeIsAFootsNumber() {
        for (int n : new int[] {4, 7, 16}) {
            Consumer<FootBook> ready = x -> x.feet(n);
            bounds(ready, UNKNOWN, 0, n - 1, "wish", 3, 0, 1, 0, 0);
            bounds(ready, UNKNOWN, 0, n - 1, "trial", 3, 0, 1, 0, 0);
            FootBook x = readied(ready);
            x.wish(0, 1, 0, n - 1);
            due(x, n - 1, "wished", 0, 3);
        }
    }

    private static void someRolesFixed() {
        FootBook x = new FootBook();
        x.unit(0);
        for (int role = 0; role < 4; role++) {
            x.use(role, 0, role);
            x.use(7 - role, 0, role);
        }
        x.wish(0, 15, 0, 0);
        due(x, 0 + 1 + 2 + 3, "best");
        for (int role = 0; role < 4; role++) {
            due(x, NONE, "fix", 0, role, 7 - role);
            for (int other = 0; other < 4; other++) {
                due(x, other <= role ? 7 - other : other, "given", 0, other);
            }
        }
        due(x, 1 + 2 + 3 + 4, "best");
        due(x, 7, "fix", 0, 0, -1);
        due(x, 0, "given", 0, 0);
        due(x, 6, "given", 0, 1);
    }

    // ---- 2 a giving

    private static void aGiving() {
        sentence("each WISH has a UNIT of its KIND", FootBookTerms::unitOfItsKind);
        sentence("no two the same", FootBookTerms::noUnitTwice);
        sentence("each of its ROLES a FOOT that can do that ROLE of that UNIT", FootBookTerms::footThatCan);
        sentence("of its VOLTAGE", FootBookTerms::footOfItsVoltage);
        sentence("the FIXED ones theirs", FootBookTerms::fixedOnesTheirs);
        sentence("no FOOT has two ROLES", FootBookTerms::noFootTwice);
        sentence("the shorter way round", FootBookTerms::theShorterWayRound);
        sentence("COST: of each of these FEET", FootBookTerms::costOfEachFoot);
    }

    private static void unitOfItsKind() {
        for (int kind = 0; kind < 4; kind++) {
            FootBook x = new FootBook();
            for (int unit = 0; unit < 4; unit++) {
                x.unit(3 - unit);
                x.use(4, unit, 0);
            }
            x.wish(kind, 1, 0, 0);
            due(x, 3 - kind, "given", 0, -1);
            due(x, 1, "many");
        }
        FootBook x = readied(Check::small);
        x.drop();
        x.wish(3, 1, 0, 0);
        due(x, NONE, "best");
        due(x, 0, "many");
    }

    private static void noUnitTwice() {
        for (int units = 0; units <= 6; units++) {
            FootBook x = oneFootEach(units);
            int many = 1;
            for (int wishes = 1; wishes <= 4; wishes++) {
                x.wish(0, 1, 0, 0);
                many *= Math.max(0, units - wishes + 1);
                due(x, many, "many");
                due("there is a giving", x.best() == NONE ? 0 : 1, wishes <= units ? 1 : 0);
            }
        }
        FootBook x = new FootBook();
        x.unit(0);
        x.use(0, 0, 0);
        x.use(1, 0, 0);
        x.use(2, 0, 1);
        x.wish(0, 1, 0, 0);
        x.wish(0, 2, 0, 0);
        due(x, NONE, "best");
    }

    private static void footThatCan() {
        FootBook x = new FootBook();
        x.unit(0);
        x.unit(0);
        x.use(1, 0, 0);
        x.use(2, 1, 1);
        x.wish(0, 3, 0, 0);
        due(x, NONE, "best");
        x.use(5, 0, 1);
        due(x, 1 + 3, "best");
        due(x, 0, "given", 0, -1);
        x.use(4, 1, 0);
        due(x, 1 + 3, "best");
        due(x, 2, "many");
        x.use(1, 1, 0);
        due(x, 1 + 2, "best");
        due(x, 1, "given", 0, -1);
    }

    private static void footOfItsVoltage() {
        FootBook x = new FootBook();
        x.unit(0);
        x.unit(1);
        for (int foot = 0; foot < 4; foot++) {
            x.volt(foot, 1 + foot);
            x.use(foot, 0, 0);
            x.use(foot, 1, 0);
        }
        for (int one = 1; one <= 4; one++) {
            for (int other = 1; other <= 4; other++) {
                x.wish(0, 1, one, 0);
                x.wish(1, 1, other, 0);
                due(x, one == other ? NONE : one + other - 2, "best");
                due(x, one == other ? NONE : other - 1, "given", 1, 0);
                x.drop();
                x.drop();
            }
        }
    }

    private static void fixedOnesTheirs() {
        FootBook x = new FootBook();
        x.unit(0);
        x.unit(0);
        for (int foot = 0; foot < 4; foot++) {
            x.use(foot, foot / 2, 0);
        }
        x.wish(0, 1, 0, 0);
        for (int foot = 0; foot < 8; foot++) {
            x.fix(0, 0, foot);
            due(x, foot < 4 ? foot : NONE, "best");
            due(x, foot < 4 ? foot / 2 : NONE, "given", 0, -1);
            due(x, foot < 4 ? 1 : 0, "many");
        }
        // Not on a FOOT of another VOLTAGE.
        x.volt(3, 2);
        for (int volt = 0; volt <= 4; volt++) {
            x.drop();
            x.wish(0, 1, volt, 0);
            x.fix(0, 0, 3);
            due(x, volt == 0 || volt == 2 ? 3 : NONE, "best");
        }
    }

    private static void noFootTwice() {
        FootBook x = new FootBook();
        x.unit(0);
        for (int role = 0; role < 4; role++) {
            x.use(3, 0, role);
        }
        for (int roles = 1; roles <= 15; roles++) {
            x.wish(0, roles, 0, 0);
            due(x, Integer.bitCount(roles) == 1 ? 1 : 0, "many");
            x.drop();
        }
        x = new FootBook();
        x.unit(0);
        x.unit(1);
        x.use(3, 0, 2);
        x.use(3, 1, 2);
        x.wish(0, 4, 0, 0);
        x.wish(1, 4, 0, 0);
        due(x, NONE, "best");
        x.use(4, 1, 2);
        due(x, 3 + 4, "best");
        due(x, 1, "many");
    }

    /** Every ring, PLACE and FOOT; halfway round both ways are as long. */
    private static void theShorterWayRound() {
        for (int n = 4; n <= 16; n++) {
            for (int place = 0; place < n; place++) {
                for (int foot = 0; foot < n; foot++) {
                    FootBook x = new FootBook();
                    x.feet(n);
                    x.unit(0);
                    x.use(foot, 0, 0);
                    x.wish(0, 1, 0, place);
                    due("best() of " + n + " feet, " + place + " to " + foot, x.best(), walk(n, place, foot));
                }
            }
        }
    }

    private static int walk(int n, int from, int to) {
        int up = from;
        int down = from;
        int steps = 0;
        while (up != to && down != to) {
            up = up == n - 1 ? 0 : up + 1;
            down = down == 0 ? n - 1 : down - 1;
            steps++;
        }
        return steps;
    }

    private static void costOfEachFoot() {
        FootBook x = everyFoot(0, 1, 2, 3);
        int[] costs = {0 + 1 + 2 + 3, 4 + 5 + 6 + 7, 8 + 7 + 6 + 5, 4 + 3 + 2 + 1};
        int cost = 0;
        for (int wish = 0; wish < 4; wish++) {
            cost += costs[wish];
            due(x, cost, "trial", wish, 15, 0, 0);
            x.wish(wish, 15, 0, 0);
            due(x, cost, "best");
        }
    }

    // ---- 2 the best giving

    private static void theBestGiving() {
        sentence("has the least COST", FootBookTerms::theLeastCost);
        sentence("first by WISH 0's UNIT, ahead of its FEET", FootBookTerms::unitAheadOfFeet);
        sentence("its FEET by ROLES", FootBookTerms::feetByRoles);
        sentence("then WISH 1's, and so on", FootBookTerms::wishByWish);
        sentence("the lesser number at the first difference", FootBookTerms::theLesserNumber);
        sentence("Without WISHES there is one, COST 0", FootBookTerms::withoutWishes);
    }

    private static void theLeastCost() {
        FootBook x = new FootBook();
        x.unit(0);
        x.unit(0);
        x.use(2, 0, 0);
        x.use(3, 1, 0);
        x.use(1, 1, 0);
        x.wish(0, 1, 0, 0);
        due(x, 1, "given", 0, -1);
        due(x, 1, "given", 0, 0);
        // WISH 0 alone would stay on FOOT 0; both together cost less if it goes.
        x = new FootBook();
        x.unit(0);
        x.unit(1);
        x.use(0, 0, 0);
        x.use(1, 0, 0);
        x.use(0, 1, 0);
        x.use(4, 1, 0);
        x.wish(0, 1, 0, 0);
        x.wish(1, 1, 0, 0);
        due(x, 1, "best");
        due(x, 1, "given", 0, 0);
        due(x, 0, "given", 1, 0);
    }

    private static void unitAheadOfFeet() {
        FootBook x = new FootBook();
        x.unit(0);
        x.unit(0);
        x.use(1, 1, 0);
        x.use(3, 0, 0);
        x.wish(0, 1, 0, 2);
        due(x, 1, "best");
        due(x, 0, "given", 0, -1);
        due(x, 3, "given", 0, 0);
    }

    /** Two ROLES on FEET 1 and 3, either way round: the lesser ROLE has the lesser FOOT. */
    private static void feetByRoles() {
        for (int one = 0; one < 4; one++) {
            for (int other = one + 1; other < 4; other++) {
                FootBook x = new FootBook();
                x.unit(0);
                x.use(3, 0, one);
                x.use(3, 0, other);
                x.use(1, 0, other);
                x.use(1, 0, one);
                x.wish(0, 1 << one | 1 << other, 0, 2);
                due(x, 2, "best");
                due(x, 2, "many");
                due(x, 1, "given", 0, one);
                due(x, 3, "given", 0, other);
            }
        }
    }

    private static void wishByWish() {
        // WISH 0's FOOT comes ahead of WISH 1's UNIT: FOOT 1 for WISH 0 leaves only UNIT 2 for WISH 1.
        FootBook x = new FootBook();
        x.unit(0);
        x.unit(1);
        x.unit(1);
        x.use(3, 0, 0);
        x.use(1, 0, 0);
        x.use(1, 1, 0);
        x.use(3, 2, 0);
        x.wish(0, 1, 0, 2);
        x.wish(1, 1, 0, 2);
        due(x, 2, "best");
        due(x, 2, "many");
        due(x, 1, "given", 0, 0);
        due(x, 2, "given", 1, -1);
        // Four WISHES, four UNITS, four FEET, all alike: in order.
        x = new FootBook();
        for (int unit = 0; unit < 4; unit++) {
            x.unit(0);
            for (int foot = 3; foot >= 0; foot--) {
                x.use(foot * 2, unit, 0);
            }
        }
        for (int wish = 0; wish < 4; wish++) {
            x.wish(0, 1, 0, 7);
        }
        due(x, 1 + 3 + 3 + 1, "best");
        for (int wish = 0; wish < 4; wish++) {
            due(x, wish, "given", wish, -1);
            due(x, wish * 2, "given", wish, 0);
        }
    }

    private static void theLesserNumber() {
        FootBook x = new FootBook();
        x.feet(16);
        x.unit(0);
        int[] feet = {10, 9, 2, 3};
        for (int foot : feet) {
            x.use(foot, 0, 0);
        }
        x.wish(0, 1, 0, 6);
        due(x, 3, "best");
        due(x, 3, "given", 0, 0);
        x.drop();
        x.wish(0, 1, 0, 14);
        due(x, 4, "best");
        due(x, 2, "given", 0, 0);
    }

    private static void withoutWishes() {
        withoutWishes(new FootBook());
        withoutWishes(readied(Check::sixUnits));
        FootBook x = readied(Check::full);
        for (int wish = 0; wish < 4; wish++) {
            x.drop();
        }
        withoutWishes(x);
    }

    private static void withoutWishes(FootBook x) {
        due(x, 0, "best");
        due(x, 1, "many");
        due(x, 0, "crossings");
        due(x, 0, "blame");
        due(x, UNKNOWN, "given", 0, -1);
        due(x, 1, "hold");
        due(x, 0, "change");
        due(x, 1, "stands");
        due(x, 0, "told", 4);
        due(x, 0, "setting", -1);
    }

    // ---- 2 crossings and the blame

    private static void crossingsAndBlame() {
        sentence("two cross, if their four ends are unlike", FootBookTerms::endsAlikeCrossNot);
        sentence("just one end of the one lies between both ends of the other", FootBookTerms::everyTwoWires);
        sentence("going up from the lesser", FootBookTerms::goingUpFromTheLesser);
        sentence("CROSSINGS (of all wires, each two once)", FootBookTerms::allWires);
        sentence("THE BLAME: the fewest WISHES", FootBookTerms::theFewestWishes);
        sentence("of which there is no GIVING by themselves", FootBookTerms::byThemselves);
        sentence("of several that which has the lesser WISHES, held by their rows in order (one, two)",
                FootBookTerms::blameOfOnesAndPairs);
        sentence("of several that which has the lesser WISHES, held by their rows in order (three)",
                FootBookTerms::blameOfThrees);
    }

    /** CROSSINGS of a wire from one PLACE to one FOOT and another from another. */
    private static int crossingsOf(int n, int placeA, int footA, int placeB, int footB) {
        FootBook x = new FootBook();
        x.feet(n);
        x.unit(0);
        x.unit(1);
        x.use(footA, 0, 0);
        x.use(footB, 1, 0);
        x.wish(0, 1, 0, placeA);
        x.wish(1, 1, 0, placeB);
        return x.crossings();
    }

    private static void endsAlikeCrossNot() {
        due("0-4, 0-2: places alike", crossingsOf(8, 0, 4, 0, 2), 0);
        due("2-4, 2-6: places alike", crossingsOf(8, 2, 4, 2, 6), 0);
        due("4-0, 4-2: places alike", crossingsOf(8, 4, 0, 4, 2), 0);
        due("0-4, 4-2: a place is the other's foot", crossingsOf(8, 0, 4, 4, 2), 0);
        due("0-4, 4-6: a place is the other's foot", crossingsOf(8, 0, 4, 4, 6), 0);
        due("4-2, 0-4: a foot is the other's place", crossingsOf(8, 4, 2, 0, 4), 0);
        due("0-4, 4-0: the same two ends", crossingsOf(8, 0, 4, 4, 0), 0);
        due("0-4, 2-2: a wire without a way", crossingsOf(8, 0, 4, 2, 2), 0);
        due("2-2, 0-4: a wire without a way", crossingsOf(8, 2, 2, 0, 4), 0);
        due("3-3, 5-5: both without a way", crossingsOf(8, 3, 3, 5, 5), 0);
    }

    /** Held against what is seen going round the ring: the ends of the one and of the other by turns. */
    private static void everyTwoWires() {
        for (int n : new int[] {4, 5, 8}) {
            for (int wires = 0; wires < n * n * n * n; wires++) {
                int placeA = wires % n;
                int footA = wires / n % n;
                int placeB = wires / n / n % n;
                int footB = wires / n / n / n;
                if (footA != footB) {
                    due(n + " feet: " + placeA + "-" + footA + ", " + placeB + "-" + footB,
                            crossingsOf(n, placeA, footA, placeB, footB), byTurns(n, placeA, footA, placeB, footB));
                }
            }
        }
    }

    private static int byTurns(int n, int placeA, int footA, int placeB, int footB) {
        StringBuilder ends = new StringBuilder();
        for (int at = 0; at < n; at++) {
            ends.append(at == placeA || at == footA ? "a" : "").append(at == placeB || at == footB ? "b" : "");
        }
        boolean unlike = placeA != footA && placeB != footB && placeA != placeB && placeA != footB && footA != placeB;
        return unlike && (ends.toString().equals("abab") || ends.toString().equals("baba")) ? 1 : 0;
    }

    private static void goingUpFromTheLesser() {
        due("0-15, 1-14: both between", crossingsOf(16, 0, 15, 1, 14), 0);
        due("15-0, 14-1: both between", crossingsOf(16, 15, 0, 14, 1), 0);
        due("1-14, 0-15: none between", crossingsOf(16, 1, 14, 0, 15), 0);
        due("14-1, 0-15: none between", crossingsOf(16, 14, 1, 0, 15), 0);
        due("15-1, 0-14: one between", crossingsOf(16, 15, 1, 0, 14), 1);
        due("1-15, 14-0: one between", crossingsOf(16, 1, 15, 14, 0), 1);
        due("0-14, 15-1: one between", crossingsOf(16, 0, 14, 15, 1), 1);
        due("0-1, 2-3: side by side", crossingsOf(16, 0, 1, 2, 3), 0);
        due("0-2, 1-3: one between", crossingsOf(16, 0, 2, 1, 3), 1);
    }

    private static void allWires() {
        FootBook x = new FootBook();
        x.feet(16);
        for (int unit = 0; unit < 4; unit++) {
            x.unit(unit);
            for (int role = 0; role < 4; role++) {
                x.use(4 * role + unit, unit, role);
            }
        }
        for (int wish = 0; wish < 4; wish++) {
            x.wish(wish, 15, 0, 4 * wish);
            due(x, crossingsByTurns(wish + 1), "crossings");
        }
    }

    /** Of the book above: WISH w's wires go from 4 times w to 4 times ROLE and w. */
    private static int crossingsByTurns(int wishes) {
        int crossings = 0;
        for (int one = 0; one < 4 * wishes; one++) {
            for (int other = one + 1; other < 4 * wishes; other++) {
                crossings += byTurns(16, one / 4 * 4, one % 4 * 4 + one / 4, other / 4 * 4, other % 4 * 4 + other / 4);
            }
        }
        return crossings;
    }

    /** Each set of WISHES is blamed where it is one UNIT short and the other WISHES have all they want. */
    private static void theFewestWishes() {
        for (int set = 1; set <= 15; set++) {
            FootBook x = new FootBook();
            for (int unit = 0; unit < 3; unit++) {
                x.unit(unit < Integer.bitCount(set) - 1 ? 0 : 1);
                x.use(unit, unit, 0);
            }
            for (int wish = 0; wish < 4; wish++) {
                x.wish(set >> wish & 1 ^ 1, 1, 0, 0);
            }
            due(x, set, "blame");
            due(x, NONE, "best");
        }
        // Three short of a UNIT, and the latest can't be at all: one is fewer.
        FootBook x = oneFootEach(2);
        x.wish(0, 1, 0, 0);
        x.wish(0, 1, 0, 0);
        x.wish(0, 1, 0, 0);
        due(x, 7, "blame");
        x.wish(3, 1, 0, 0);
        due(x, 8, "blame");
    }

    private static void byThemselves() {
        FootBook x = new FootBook();
        x.unit(0);
        x.unit(1);
        x.use(0, 0, 0);
        x.use(0, 1, 0);
        x.wish(0, 1, 0, 0);
        due(x, 0, "blame");
        x.wish(1, 1, 0, 0);
        due(x, 3, "blame");
        x.use(1, 1, 0);
        due(x, 0, "blame");
        x.fix(1, 0, 0);
        due(x, 3, "blame");
        x.fix(0, 0, 1);
        due(x, 1, "blame");
        x.fix(0, 0, -1);
        x.fix(1, 0, 5);
        due(x, 2, "blame");
        x.fix(1, 0, -1);
        x.volt(0, 2);
        x.wish(1, 1, 0, 0);
        due(x, 6, "blame");
        x.drop();
        x.drop();
        x.wish(1, 1, 3, 0);
        due(x, 2, "blame");
    }

    /** Every choice of pairs that share a FOOT which both need, and of WISHES that can't be at all. */
    private static void blameOfOnesAndPairs() {
        for (int ones = 0; ones < 16; ones++) {
            for (int pairs = 0; pairs < 64; pairs++) {
                due("blame() of ones " + ones + ", pairs " + pairs, bookOfPairs(ones, pairs).blame(),
                        ones != 0 ? ones & -ones : firstPair(pairs));
            }
        }
    }

    /** The six pairs in their order, as bits. */
    private static final int[] PAIRS = {3, 5, 9, 6, 10, 12};

    private static int firstPair(int pairs) {
        for (int pair = 0; pair < 6; pair++) {
            if ((pairs >> pair & 1) != 0) {
                return PAIRS[pair];
            }
        }
        return 0;
    }

    /** For each other WISH a WISH has a ROLE, on a FOOT of its own or on one that both need. */
    private static FootBook bookOfPairs(int ones, int pairs) {
        FootBook x = new FootBook();
        x.feet(16);
        for (int unit = 0; unit < 4; unit++) {
            x.unit(unit);
        }
        for (int pair = 0; pair < 6; pair++) {
            int low = Integer.numberOfTrailingZeros(PAIRS[pair]);
            int high = Integer.numberOfTrailingZeros(PAIRS[pair] & PAIRS[pair] - 1);
            boolean shared = (pairs >> pair & 1) != 0;
            x.use(pair, low, high);
            x.use(shared ? pair : 6 + pair, high, low);
        }
        for (int wish = 0; wish < 4; wish++) {
            boolean can = (ones >> wish & 1) == 0;
            x.wish(wish, can ? 15 & ~(1 << wish) : 15, 0, 0);
        }
        return x;
    }

    /** Every choice of threes that have two FEET together, in their order: without WISH 3, 2, 1, 0. */
    private static void blameOfThrees() {
        for (int threes = 0; threes < 16; threes++) {
            int want = 0;
            for (int without = 0; without < 4; without++) {
                want = (threes >> without & 1) != 0 ? 15 & ~(1 << without) : want;
            }
            due("blame() of threes " + threes, bookOfThrees(threes).blame(), want);
        }
    }

    /** For each three it is in a WISH has a ROLE, on a FOOT of its own or on one of two for all three. */
    private static FootBook bookOfThrees(int threes) {
        FootBook x = new FootBook();
        x.feet(16);
        int foot = 0;
        for (int unit = 0; unit < 4; unit++) {
            x.unit(unit);
        }
        for (int without = 0; without < 4; without++) {
            boolean shared = (threes >> without & 1) != 0;
            for (int wish = 0; wish < 4; wish++) {
                if (wish != without) {
                    x.use(foot, wish, without);
                    if (shared) {
                        x.use(foot + 1, wish, without);
                    } else {
                        foot++;
                    }
                }
            }
            foot += shared ? 2 : 0;
        }
        for (int wish = 0; wish < 4; wish++) {
            x.wish(wish, 15 & ~(1 << wish), 0, 0);
        }
        return x;
    }

    // ---- 3 the hand

    private static void theHand() {
        sentence("THE HAND holds a GIVING (none at first)", FootBookTerms::noneAtFirst);
        sentence("MOVES: for each WISH that THE HAND gives (by number)", FootBookTerms::wishesThatTheHandGives);
        sentence("each ROLE that is wished now", FootBookTerms::rolesWishedNow);
        sentence("1, if THE HAND has another UNIT for that WISH", FootBookTerms::anotherUnit);
        sentence("or another FOOT for that ROLE", FootBookTerms::anotherFoot);
        sentence("(or none) for that ROLE", FootBookTerms::noFootYet);
        sentence("MOVES: the most", FootBookTerms::sixteenMoves);
    }

    private static void noneAtFirst() {
        FootBook x = new FootBook();
        for (int wish = 0; wish < 4; wish++) {
            for (int role = -1; role < 4; role++) {
                due(x, NONE, "held", wish, role);
            }
        }
        due(x, 0, "setting", -1);
        due(x, NONE, "setting", 0);
        due(x, 0, "stands");
        due(x, 0, "told", 4);
        due(x, STATE, "change");
    }

    private static void wishesThatTheHandGives() {
        FootBook x = oneFootEach(6);
        x.wish(0, 1, 0, 0);
        x.wish(0, 1, 0, 1);
        due(x, 1, "hold");
        // New WISHES are no MOVES.
        x.wish(0, 1, 0, 2);
        x.wish(0, 1, 0, 3);
        due(x, 0, "change");
        due(x, 4, "told", 4);
        due(x, 3, "held", 3, 0);
        // Of the hand's four WISHES just those count that are wished now.
        x.drop();
        x.drop();
        x.drop();
        x.fix(0, 0, 5);
        due(x, 1, "change");
        due(x, 1, "told", 4);
        // By number: another WISH of the same number counts as that one.
        x.drop();
        x.wish(0, 1, 0, 4);
        due(x, 0, "change");
        due(x, 5, "held", 0, 0);
        x.drop();
        x.unit(1);
        due(x, 0, "wish", 0, 1, 0, 4);
        x.wish(0, 1, 0, 5);
        due(x, 0, "change");
        due(x, 5, "held", 0, 0);
        due(x, 4, "held", 1, 0);
        // THE HAND gives no WISH: none counts.
        x.drop();
        x.drop();
        due(x, 1, "hold");
        x.wish(0, 1, 0, 2);
        due(x, 0, "change");
        due(x, 2, "held", 0, 0);
    }

    private static void rolesWishedNow() {
        FootBook x = new FootBook();
        x.unit(0);
        for (int role = 0; role < 4; role++) {
            x.use(role, 0, role);
            x.use(4 + role, 0, role);
        }
        x.wish(0, 15, 0, 0);
        x.hold();
        due(x, 1, "held", 0, 1);
        x.drop();
        x.wish(0, 5, 0, 0);
        due(x, 0, "change");
        due(x, NONE, "held", 0, 1);
        due(x, 2, "setting", -1);
        x.fix(0, 2, 6);
        due(x, 1, "change");
    }

    private static void anotherUnit() {
        // Both UNITS can do both ROLES on the same FEET: the FEET stay, but the UNIT moves, so both ROLES count.
        FootBook x = new FootBook();
        x.unit(0);
        x.unit(0);
        for (int unit = 0; unit < 2; unit++) {
            x.use(0, unit, 0);
            x.use(1, unit, 1);
        }
        x.use(2, 1, 2);
        x.wish(0, 3, 0, 0);
        x.hold();
        due(x, 0, "held", 0, -1);
        x.drop();
        x.wish(0, 7, 0, 0);
        due(x, 3, "change");
        due(x, 1, "held", 0, -1);
        due(x, 0, "held", 0, 0);
        // UNIT and FOOT both another: one MOVE.
        FootBook y = oneFootEach(2);
        y.wish(0, 1, 0, 0);
        y.hold();
        y.fix(0, 0, 1);
        due(y, 1, "change");
        due(y, 1, "held", 0, -1);
    }

    private static void anotherFoot() {
        FootBook x = new FootBook();
        x.unit(0);
        for (int role = 0; role < 4; role++) {
            x.use(role, 0, role);
            x.use(4 + role, 0, role);
        }
        x.wish(0, 15, 0, 0);
        x.fix(0, 3, 3);
        x.hold();
        for (int role = 0; role < 4; role++) {
            due(x, role, "held", 0, role);
            x.fix(0, role, 4 + role);
            due(x, 1, "change");
            due(x, 4 + role, "held", 0, role);
        }
        for (int role = 0; role < 4; role++) {
            x.fix(0, role, role);
        }
        due(x, 4, "change");
    }

    private static void noFootYet() {
        for (int roles = 1; roles <= 15; roles++) {
            FootBook x = new FootBook();
            x.unit(0);
            for (int role = 0; role < 4; role++) {
                x.use(role, 0, role);
            }
            x.wish(0, roles, 0, 0);
            x.hold();
            x.drop();
            x.wish(0, 15, 0, 0);
            due(x, 4 - Integer.bitCount(roles), "change");
            due(x, 0, "change");
        }
    }

    private static void sixteenMoves() {
        FootBook x = everyFoot(0, 0, 0, 0);
        for (int wish = 0; wish < 4; wish++) {
            x.wish(0, 15, 0, 4 * wish);
        }
        x.hold();
        due(x, 0, "change");
        x.fix(0, 0, 4);
        due(x, 8, "change");
        x.fix(2, 3, 15);
        due(x, 8, "change");
        x.fix(0, 0, 0);
        x.fix(2, 3, 11);
        due(x, 16, "change");
    }

    // ---- 3 the change

    private static void theChange() {
        sentence("THE CHANGE is a GIVING with the fewest MOVES", FootBookTerms::theFewestMoves);
        sentence("of several the least COST", FootBookTerms::thenTheLeastCost);
        sentence("then the first, as above", FootBookTerms::thenTheFirst);
    }

    private static void theFewestMoves() {
        FootBook x = new FootBook();
        x.feet(16);
        x.unit(0);
        x.use(8, 0, 0);
        x.use(7, 0, 1);
        x.wish(0, 3, 0, 0);
        x.hold();
        x.use(0, 0, 0);
        x.use(1, 0, 1);
        due(x, 1, "best");
        due(x, 0, "change");
        due(x, 8, "held", 0, 0);
        due(x, 7, "held", 0, 1);
        // One MOVE at the greatest COST is fewer than two at none.
        x.fix(0, 0, 0);
        due(x, 1, "change");
        due(x, 7, "held", 0, 1);
        // WISH 1 moves rather than both ROLES of WISH 0.
        FootBook y = new FootBook();
        y.unit(0);
        y.unit(0);
        for (int unit = 0; unit < 2; unit++) {
            y.use(2 * unit, unit, 0);
            y.use(2 * unit + 1, unit, 1);
        }
        y.wish(0, 3, 0, 0);
        y.hold();
        y.wish(0, 1, 0, 0);
        y.fix(1, 0, 0);
        due(y, 2, "change");
        due(y, 1, "held", 0, -1);
        due(y, 0, "held", 1, -1);
    }

    private static void thenTheLeastCost() {
        FootBook x = offFoot4(new int[][] {{2, 0}, {7, 0}, {3, 0}});
        due(x, 1, "change");
        due(x, 7, "held", 0, 0);
    }

    private static void thenTheFirst() {
        FootBook x = offFoot4(new int[][] {{1, 1}, {7, 0}});
        due(x, 1, "change");
        due(x, 0, "held", 0, -1);
        due(x, 7, "held", 0, 0);
        x = offFoot4(new int[][] {{7, 0}, {1, 0}});
        due(x, 1, "change");
        due(x, 1, "held", 0, 0);
    }

    /** A WISH at PLACE 0 is held on UNIT 0 and FOOT 4 and can't stay there; it may go to these FEET and UNITS. */
    private static FootBook offFoot4(int[][] feetAndUnits) {
        FootBook x = new FootBook();
        x.unit(0);
        x.unit(0);
        x.use(4, 0, 0);
        x.wish(0, 1, 0, 0);
        x.hold();
        for (int[] use : feetAndUnits) {
            x.use(use[0], use[1], 0);
        }
        x.volt(4, 2);
        x.drop();
        x.wish(0, 1, 1, 0);
        return x;
    }

    // ---- 3 the settings

    private static void theSettings() {
        sentence("SETTINGS: for each FOOT that has a ROLE, in order", FootBookTerms::settingsInOrderOfFeet);
        sentence("100 times the FOOT, 10 times the UNIT, and the ROLE", FootBookTerms::settingOfEach);
    }

    private static void settingsInOrderOfFeet() {
        FootBook x = new FootBook();
        x.unit(0);
        x.unit(1);
        x.use(6, 0, 0);
        x.use(2, 0, 1);
        x.use(7, 1, 2);
        x.use(0, 1, 3);
        x.wish(1, 12, 0, 0);
        x.wish(0, 3, 0, 0);
        x.hold();
        int[] want = {13, 201, 600, 712};
        due(x, 4, "setting", -1);
        for (int i = 0; i < 4; i++) {
            due(x, want[i], "setting", i);
        }
        due(x, NONE, "setting", 4);
    }

    private static void settingOfEach() {
        for (int foot = 0; foot < 16; foot++) {
            for (int slot = 0; slot < 24; slot++) {
                FootBook x = new FootBook();
                x.feet(16);
                for (int unit = 0; unit < 6; unit++) {
                    x.unit(unit == slot / 4 ? 0 : 1);
                }
                x.use(foot, slot / 4, slot % 4);
                x.wish(0, 1 << slot % 4, 0, 0);
                x.hold();
                due(x, 100 * foot + 10 * (slot / 4) + slot % 4, "setting", 0);
                due(x, 1, "setting", -1);
            }
        }
    }
}
