import java.util.function.Consumer;

/** The sentences of 'Promise 1' to 'Promise 23': each has a test of its own, which bears its words. */
public final class FootBookPromises extends Check {
    public static void main(String[] args) {
        promise1NewObject();
        promise2Feet();
        promise3Volt();
        promise4Unit();
        promise5Kind();
        promise6Use();
        promise7About();
        promise8Wish();
        promise9Wished();
        promise10Fix();
        promise11Drop();
        promise12Best();
        promise13Given();
        promise14Crossings();
        promise15Blame();
        promise16Many();
        promise17Trial();
        promise18Hold();
        promise19Change();
        promise20Held();
        promise21Setting();
        promise22Stands();
        promise23Told();
        end();
    }

    /** Nothing but the told number of FEET of VOLTAGE 1. */
    private static void isNew(FootBook x, int feet) {
        due(x, feet, "told", 0);
        for (int what = 1; what <= 4; what++) {
            due(x, 0, "told", what);
        }
        due(x, UNKNOWN, "kind", 0);
        due(x, UNKNOWN, "about", 0, 0);
        due(x, UNKNOWN, "wished", 0, 0);
        due(x, UNKNOWN, "drop");
        for (int wish = 0; wish < 4; wish++) {
            for (int role = -1; role < 4; role++) {
                due(x, NONE, "held", wish, role);
            }
        }
        due(x, 0, "setting", -1);
        due(x, NONE, "setting", 0);
        due(x, STATE, "change");
        due(x, 0, "stands");
        due(x, 0, "best");
        due(x, UNKNOWN, "volt", feet, 1);
        for (int foot = 0; foot < feet; foot++) {
            due(x, 1, "volt", foot, 2);
        }
    }

    private static void promise1NewObject() {
        sentence("1 FootBook: 8 FEET of VOLTAGE 1; no UNITS, USES, WISHES; THE HAND holds nothing",
                () -> isNew(new FootBook(), 8));
        sentence("1 FootBook: each object is a book of its own", FootBookPromises::objectsApart);
    }

    private static void objectsApart() {
        FootBook x = readied(Check::small);
        String before = allThatCanBeRead(x);
        FootBook other = readied(Check::full);
        other.feet(5);
        same("another object was used", before, allThatCanBeRead(x));
        isNew(new FootBook(), 8);
    }

    private static void promise2Feet() {
        sentence("2 feet: FEET anew (VOLTAGES 1; no UNITS, USES, WISHES, THE HAND holds nothing)",
                FootBookPromises::feetAnew);
        sentence("2 feet: nothing of what was is left", FootBookPromises::nothingIsLeft);
        sentence("2 feet: how many there were", FootBookPromises::howManyFeetThereWere);
        sentence("2 feet: OUTSIDE", () -> bounds(Check::full, OUTSIDE, 4, 16, "feet", 0, 8));
        sentence("2 feet: OUTSIDE of a new book", () -> bounds(Check::nothing, OUTSIDE, 4, 16, "feet", 0, 8));
    }

    private static void feetAnew() {
        for (int n = 4; n <= 16; n++) {
            FootBook x = readied(Check::full);
            due(x, 16, "feet", n);
            isNew(x, n);
            x = readied(Check::small);
            due(x, 8, "feet", n);
            isNew(x, n);
        }
    }

    private static void nothingIsLeft() {
        FootBook x = readied(Check::small);
        due(x, 1, "best");
        x.feet(8);
        due(x, 0, "best");
        due(x, 1, "many");
        due(x, 0, "unit", 0);
        due(x, 0, "wish", 0, 1, 0, 0);
        due(x, NONE, "best");
        due(x, 0, "use", 0, 0, 0);
        due(x, 0, "best");
        x.fix(0, 0, 7);
        x.feet(8);
        due(x, 0, "wish", 0, 1, 0, 0);
        due(x, NONE, "wished", 0, 10);
    }

    private static void howManyFeetThereWere() {
        FootBook x = new FootBook();
        int before = 8;
        for (int n : new int[] {16, 4, 4, 5, 15, 8, 8}) {
            due(x, before, "feet", n);
            due(x, n, "told", 0);
            before = n;
        }
        due(x, OUTSIDE, "feet", 3);
        due(x, 8, "feet", 9);
    }

    private static void promise3Volt() {
        sentence("3 volt: which it was", FootBookPromises::whichVoltageItWas);
        sentence("3 volt: of a FOOT", FootBookPromises::voltageOfOneFoot);
        sentence("3 volt: from now on", FootBookPromises::voltageFromNowOn);
        sentence("3 volt: UNKNOWN", () -> bounds(Check::small, UNKNOWN, 0, 7, "volt", 0, 0, 1));
        sentence("3 volt: UNKNOWN, of 16", () -> bounds(Check::full, UNKNOWN, 0, 15, "volt", 0, 0, 1));
        sentence("3 volt: OUTSIDE", () -> bounds(Check::small, OUTSIDE, 1, 4, "volt", 1, 7, 1));
    }

    private static void whichVoltageItWas() {
        FootBook x = new FootBook();
        int before = 1;
        for (int v : new int[] {4, 1, 2, 3, 3, 4, 4, 1}) {
            due(x, before, "volt", 7, v);
            before = v;
        }
    }

    private static void voltageOfOneFoot() {
        FootBook x = readied(b -> b.feet(16));
        for (int foot = 0; foot < 16; foot++) {
            due(x, 1, "volt", foot, 1 + foot % 4);
        }
        for (int foot = 0; foot < 16; foot++) {
            due(x, 1 + foot % 4, "volt", foot, 1);
        }
    }

    private static void voltageFromNowOn() {
        FootBook x = new FootBook();
        x.unit(0);
        x.use(3, 0, 0);
        x.wish(0, 1, 2, 0);
        due(x, NONE, "best");
        due(x, 1, "volt", 3, 2);
        due(x, 3, "best");
        due(x, 2, "volt", 3, 4);
        due(x, NONE, "best");
    }

    private static void promise4Unit() {
        sentence("4 unit: its number", FootBookPromises::numberOfAUnit);
        sentence("4 unit: OUTSIDE", () -> bounds(Check::small, OUTSIDE, 0, 3, "unit", 0, 0));
        sentence("4 unit: FULL", FootBookPromises::unitIsFull);
    }

    private static void numberOfAUnit() {
        FootBook x = new FootBook();
        for (int unit = 0; unit < 6; unit++) {
            due(x, unit, "unit", 3 - unit % 4);
            due(x, unit + 1, "told", 1);
        }
    }

    private static void unitIsFull() {
        for (int kind = 0; kind < 4; kind++) {
            refused(Check::sixUnits, FULL, "unit", kind);
            refused(Check::full, FULL, "unit", kind);
        }
        taken(b -> {
            for (int unit = 0; unit < 5; unit++) {
                b.unit(0);
            }
        }, "unit", 0);
    }

    private static void promise5Kind() {
        sentence("5 kind: KIND of a UNIT", FootBookPromises::kindOfAUnit);
        sentence("5 kind: UNKNOWN", () -> bounds(Check::small, UNKNOWN, 0, 1, "kind", 0, 0));
        sentence("5 kind: UNKNOWN without UNITS", () -> bounds(Check::nothing, UNKNOWN, 0, -1, "kind", 0, 0));
        sentence("5 kind: UNKNOWN with all", () -> bounds(Check::sixUnits, UNKNOWN, 0, 5, "kind", 0, 0));
    }

    private static void kindOfAUnit() {
        FootBook x = new FootBook();
        int[] kinds = {3, 0, 2, 1, 1, 3};
        for (int kind : kinds) {
            x.unit(kind);
        }
        for (int unit = 0; unit < 6; unit++) {
            due(x, kinds[unit], "kind", unit);
        }
    }

    private static void promise6Use() {
        sentence("6 use: its number", FootBookPromises::numberOfAUse);
        sentence("6 use: from now on", FootBookPromises::useFromNowOn);
        sentence("6 use: UNKNOWN (FOOT)", () -> bounds(Check::small, UNKNOWN, 0, 7, "use", 0, 0, 1, 3));
        sentence("6 use: UNKNOWN (UNIT)", () -> bounds(Check::small, UNKNOWN, 0, 1, "use", 1, 0, 0, 3));
        sentence("6 use: OUTSIDE: ROLE", () -> bounds(Check::small, OUTSIDE, 0, 3, "use", 2, 7, 1, 0));
        sentence("6 use: FULL", FootBookPromises::useIsFull);
        sentence("6 use: NO: there is that one", FootBookPromises::thereIsThatUse);
    }

    private static void thirtyUses(FootBook x) {
        x.unit(0);
        x.unit(1);
        for (int use = 0; use < 30; use++) {
            x.use(use % 8, 0, use / 8);
        }
    }

    private static void numberOfAUse() {
        FootBook x = new FootBook();
        sixUnits(x);
        for (int use = 0; use < 30; use++) {
            due(x, use, "use", use % 8, 5, use / 8);
            due(x, use + 1, "told", 2);
        }
    }

    private static void useFromNowOn() {
        FootBook x = new FootBook();
        x.unit(0);
        x.wish(0, 1, 0, 0);
        due(x, NONE, "best");
        x.use(4, 0, 0);
        due(x, 4, "best");
        x.use(3, 0, 0);
        due(x, 3, "best");
        x.use(0, 0, 1);
        due(x, 3, "best");
    }

    private static void useIsFull() {
        refused(FootBookPromises::thirtyUses, FULL, "use", 7, 0, 3);
        refused(FootBookPromises::thirtyUses, FULL, "use", 0, 1, 0);
        refused(FootBookPromises::thirtyUses, FULL, "use", 0, 0, 0);
        refused(Check::full, FULL, "use", 15, 5, 3);
    }

    private static void thereIsThatUse() {
        FootBook x = readied(Check::small);
        for (int use = 0; use < 5; use++) {
            refused(Check::small, NO, "use", x.about(use, 0), x.about(use, 1), x.about(use, 2));
        }
        // Right up to the last but one, where there is still room.
        FootBook y = new FootBook();
        y.unit(0);
        for (int use = 0; use < 29; use++) {
            due(y, use, "use", use % 8, 0, use / 8);
            due(y, NO, "use", use % 8, 0, use / 8);
        }
        due(y, 29, "use", 7, 0, 3);
        due(y, FULL, "use", 7, 0, 3);
    }

    private static void promise7About() {
        sentence("7 about: 0 FOOT, 1 UNIT, 2 ROLE", FootBookPromises::footUnitRole);
        sentence("7 about: UNKNOWN: there is none such", () -> bounds(Check::small, UNKNOWN, 0, 4, "about", 0, 0, 2));
        sentence("7 about: UNKNOWN without USES", () -> bounds(Check::nothing, UNKNOWN, 0, -1, "about", 0, 0, 0));
        sentence("7 about: UNKNOWN with all", () -> bounds(Check::full, UNKNOWN, 0, 29, "about", 0, 0, 2));
        sentence("7 about: OUTSIDE", () -> bounds(Check::small, OUTSIDE, 0, 2, "about", 1, 4, 0));
    }

    private static void footUnitRole() {
        FootBook x = new FootBook();
        x.feet(16);
        sixUnits(x);
        for (int use = 0; use < 30; use++) {
            x.use(15 - use / 2, use % 6, use % 4);
        }
        for (int use = 0; use < 30; use++) {
            due(x, 15 - use / 2, "about", use, 0);
            due(x, use % 6, "about", use, 1);
            due(x, use % 4, "about", use, 2);
        }
    }

    private static void promise8Wish() {
        sentence("8 wish: its number", FootBookPromises::numberOfAWish);
        sentence("8 wish: from now on", FootBookPromises::wishFromNowOn);
        wishRefusals("8", "wish");
    }

    private static void numberOfAWish() {
        FootBook x = new FootBook();
        due(x, 0, "wish", 0, 1, 0, 0);
        due(x, 1, "wish", 3, 15, 4, 7);
        due(x, 2, "wish", 3, 15, 4, 7);
        due(x, 3, "wish", 1, 8, 1, 3);
        due(x, 3, "drop");
        due(x, 3, "wish", 2, 2, 2, 2);
        due(x, 2, "wished", 3, 0);
    }

    private static void wishFromNowOn() {
        FootBook x = oneFootEach(2);
        due(x, 0, "best");
        x.wish(0, 1, 0, 4);
        due(x, 3, "best");
        x.wish(0, 1, 0, 4);
        due(x, 3 + 4, "best");
        x.wish(0, 1, 0, 4);
        due(x, NONE, "best");
    }

    /** wish() and trial() refuse alike. */
    private static void wishRefusals(String number, String name) {
        String of = number + " " + name + ": ";
        sentence(of + "UNKNOWN: the PLACE", () -> bounds(Check::small, UNKNOWN, 0, 7, name, 3, 1, 1, 0, 0));
        sentence(of + "OUTSIDE (KIND)", () -> bounds(Check::small, OUTSIDE, 0, 3, name, 0, 0, 1, 0, 0));
        sentence(of + "OUTSIDE (ROLES)", () -> bounds(Check::small, OUTSIDE, 1, 15, name, 1, 1, 1, 0, 0));
        sentence(of + "OUTSIDE (VOLTAGE)", () -> bounds(Check::small, OUTSIDE, 0, 4, name, 2, 1, 1, 0, 0));
        sentence(of + "FULL", () -> {
            for (int kind = 0; kind < 4; kind++) {
                refused(Check::full, FULL, name, kind, 1 + 4 * kind, kind, 5 * kind);
            }
        });
        sentence(of + "several refusals at once", () -> {
            for (int bad : new int[] {LOWEST, HIGHEST, -1, 16}) {
                refused(Check::full, UNKNOWN, name, bad, bad, bad, bad);
                refused(Check::full, OUTSIDE, name, bad, bad, bad, 0);
                refused(Check::small, UNKNOWN, name, bad, bad, bad, bad);
            }
        });
    }

    private static void promise9Wished() {
        sentence("9 wished: 0 KIND, 1 ROLES, 2 VOLTAGE, 3 PLACE", FootBookPromises::kindRolesVoltagePlace);
        sentence("9 wished: 10 and a ROLE: the FOOT on which it is FIXED (NONE)", FootBookPromises::footOnWhichFixed);
        sentence("9 wished: UNKNOWN", () -> bounds(Check::impossible, UNKNOWN, 0, 1, "wished", 0, 0, 0));
        sentence("9 wished: UNKNOWN without WISHES", () -> bounds(Check::nothing, UNKNOWN, 0, -1, "wished", 0, 0, 13));
        sentence("9 wished: UNKNOWN with all", () -> bounds(Check::full, UNKNOWN, 0, 3, "wished", 0, 0, 10));
        sentence("9 wished: OUTSIDE (0 to 3)", () -> bounds(Check::small, OUTSIDE, 0, 3, "wished", 1, 0, 0));
        sentence("9 wished: OUTSIDE (10 to 13)", () -> bounds(Check::full, OUTSIDE, 10, 13, "wished", 1, 3, 0));
        sentence("9 wished: OUTSIDE (between)", () -> {
            for (int what = 4; what < 10; what++) {
                refused(Check::full, OUTSIDE, "wished", 3, what);
            }
        });
    }

    private static void kindRolesVoltagePlace() {
        FootBook x = new FootBook();
        int[][] wishes = {{3, 5, 4, 7}, {0, 1, 0, 0}, {1, 15, 2, 3}, {2, 8, 1, 6}};
        for (int[] wish : wishes) {
            x.wish(wish[0], wish[1], wish[2], wish[3]);
        }
        for (int wish = 0; wish < 4; wish++) {
            for (int what = 0; what < 4; what++) {
                due(x, wishes[wish][what], "wished", wish, what);
            }
        }
    }

    private static void footOnWhichFixed() {
        FootBook x = new FootBook();
        x.feet(16);
        for (int wish = 0; wish < 4; wish++) {
            x.wish(0, 15, 0, 0);
        }
        for (int slot = 0; slot < 16; slot++) {
            due(x, NONE, "wished", slot / 4, 10 + slot % 4);
            x.fix(slot / 4, slot % 4, 15 - slot);
        }
        for (int slot = 0; slot < 16; slot++) {
            due(x, 15 - slot, "wished", slot / 4, 10 + slot % 4);
        }
        x.fix(2, 1, -1);
        due(x, NONE, "wished", 2, 11);
        // A ROLE that is not wished is not FIXED.
        x.feet(8);
        x.wish(0, 2, 0, 0);
        x.fix(0, 1, 0);
        int[] want = {NONE, 0, NONE, NONE};
        for (int role = 0; role < 4; role++) {
            due(x, want[role], "wished", 0, 10 + role);
        }
    }

    private static void promise10Fix() {
        sentence("10 fix: on which it was (NONE)", FootBookPromises::onWhichItWas);
        sentence("10 fix: -1: it is not", FootBookPromises::fixedNoMore);
        sentence("10 fix: from now on", FootBookPromises::fixedFromNowOn);
        sentence("10 fix: UNKNOWN (WISH)", () -> bounds(Check::small, UNKNOWN, 0, 0, "fix", 0, 0, 0, 0));
        sentence("10 fix: UNKNOWN (WISH), with all", () -> bounds(Check::full, UNKNOWN, 0, 3, "fix", 0, 0, 0, -1));
        sentence("10 fix: UNKNOWN (FOOT)", () -> bounds(Check::small, UNKNOWN, -1, 7, "fix", 2, 0, 0, 0));
        sentence("10 fix: UNKNOWN (FOOT), of 16", () -> bounds(Check::full, UNKNOWN, -1, 15, "fix", 2, 3, 1, 0));
        sentence("10 fix: OUTSIDE: the ROLE is not wished", () -> roleIsNotWished("fix", 0));
        sentence("10 fix: OUTSIDE: the ROLE is not wished, -1", () -> roleIsNotWished("fix", -1));
        sentence("10 fix: OUTSIDE: what is FIXED stays", FootBookPromises::refusedFixOfAFixedWish);
    }

    private static void onWhichItWas() {
        FootBook x = new FootBook();
        x.wish(0, 15, 0, 0);
        x.wish(0, 15, 0, 0);
        int before = NONE;
        for (int foot : new int[] {0, 7, 7, 3, -1, -1, 5, 0}) {
            due(x, before, "fix", 1, 3, foot);
            before = foot == -1 ? NONE : foot;
            due(x, before, "wished", 1, 13);
            due(x, NONE, "wished", 0, 13);
            due(x, NONE, "wished", 1, 12);
        }
    }

    private static void fixedNoMore() {
        FootBook x = readied(Check::small);
        due(x, NONE, "fix", 0, 0, -1);
        due(x, NONE, "fix", 0, 0, 7);
        due(x, NONE, "best");
        due(x, 7, "fix", 0, 0, -1);
        due(x, NONE, "wished", 0, 10);
        due(x, 1, "best");
        due(x, 1, "given", 0, 0);
    }

    private static void fixedFromNowOn() {
        FootBook x = readied(Check::small);
        due(x, 1, "best");
        x.fix(0, 0, 0);
        due(x, 2, "best");
        due(x, 0, "given", 0, 0);
        x.fix(0, 0, 1);
        due(x, 1, "best");
        x.fix(0, 1, 2);
        due(x, 1, "best");
        x.fix(0, 1, 1);
        due(x, NONE, "best");
        // It goes with its WISH.
        x.drop();
        x.wish(0, 3, 0, 1);
        due(x, NONE, "wished", 0, 11);
        due(x, 1, "best");
    }

    /** ROLE 0 of WISH 1 and ROLE 1 of WISH 3 are FIXED. */
    private static void refusedFixOfAFixedWish() {
        for (int wish = 1; wish <= 3; wish += 2) {
            bounds(Check::full, OUTSIDE, 0, 1, "fix", 1, wish, 0, -1);
            bounds(Check::full, OUTSIDE, 0, 1, "fix", 1, wish, 0, 15);
        }
    }

    /** Of every set of ROLES: all that are not in it, and all that are none. */
    private static void roleIsNotWished(String name, int... rest) {
        for (int set = 1; set <= 15; set++) {
            int roles = set;
            Consumer<FootBook> ready = x -> x.wish(0, roles, 0, 0);
            for (int role = 0; role < 4; role++) {
                if ((roles >> role & 1) != 0) {
                    taken(ready, name, with(role, rest));
                } else {
                    refused(ready, OUTSIDE, name, with(role, rest));
                }
            }
        }
        for (int role : new int[] {-2, 4, 5, 31, 32, 33, 35, -29, -31, -32, LOWEST, LOWEST + 1, HIGHEST - 1, HIGHEST}) {
            refused(x -> x.wish(0, 15, 0, 0), OUTSIDE, name, with(role, rest));
        }
    }

    private static int[] with(int role, int[] rest) {
        int[] all = new int[2 + rest.length];
        all[1] = role;
        System.arraycopy(rest, 0, all, 2, rest.length);
        return all;
    }

    private static void promise11Drop() {
        sentence("11 drop: the latest WISH goes: how many there are", FootBookPromises::theLatestGoes);
        sentence("11 drop: THE HAND stays", FootBookPromises::handStaysAfterDrop);
        sentence("11 drop: UNKNOWN: there is none", FootBookPromises::dropOfNone);
    }

    private static void theLatestGoes() {
        FootBook x = new FootBook();
        for (int wish = 0; wish < 4; wish++) {
            x.wish(wish, 1 + wish, wish, wish);
        }
        for (int left = 3; left >= 0; left--) {
            due(x, left, "drop");
            due(x, left, "told", 3);
            due(x, UNKNOWN, "wished", left, 0);
            for (int wish = 0; wish < left; wish++) {
                due(x, wish, "wished", wish, 0);
                due(x, 1 + wish, "wished", wish, 1);
            }
        }
        x = readied(Check::impossible);
        due(x, NONE, "best");
        due(x, 1, "drop");
        due(x, 1, "best");
        due(x, 0, "drop");
        due(x, 0, "best");
    }

    private static void handStaysAfterDrop() {
        FootBook x = readied(Check::small);
        x.drop();
        due(x, 1, "held", 0, 0);
        due(x, 1, "told", 4);
        due(x, 2, "setting", -1);
    }

    private static void dropOfNone() {
        refused(Check::nothing, UNKNOWN, "drop");
        refused(Check::sixUnits, UNKNOWN, "drop");
        refused(x -> {
            small(x);
            x.drop();
        }, UNKNOWN, "drop");
        FootBook x = new FootBook();
        x.drop();
        x.drop();
        due(x, 0, "wish", 0, 1, 0, 0);
    }

    private static void promise12Best() {
        sentence("12 best: COST of THE BEST GIVING", FootBookPromises::costOfTheBest);
        sentence("12 best: whatever THE HAND holds", FootBookPromises::bestWhateverIsHeld);
        sentence("12 best: NONE: there is none", FootBookPromises::noneIsBest);
    }

    private static void costOfTheBest() {
        FootBook x = readied(Check::small);
        due(x, 1, "best");
        x.wish(1, 5, 0, 0);
        due(x, 1 + 3 + 4, "best");
        x.feet(5);
        x.unit(0);
        x.use(4, 0, 0);
        x.wish(0, 1, 0, 0);
        due(x, 1, "best");
        x.feet(16);
        x.unit(0);
        for (int role = 0; role < 4; role++) {
            x.use(role, 0, role);
        }
        x.wish(0, 15, 0, 10);
        due(x, 6 + 7 + 8 + 7, "best");
        due(readied(Check::nothing), 0, "best");
    }

    private static void bestWhateverIsHeld() {
        FootBook x = heldOnUnit1();
        due(x, 0, "change");
        x.wish(0, 1, 0, 0);
        due(x, 0 + 1 + 2, "best");
        due(x, 0, "given", 0, -1);
        due(x, 2, "many");
        due(x, 0, "blame");
        x.drop();
        due(x, 0, "change");
        due(x, 0 + 1 + 2, "trial", 0, 1, 0, 0);
        due(x, 1, "best");
        due(x, 1, "held", 0, -1);
    }

    private static void noneIsBest() {
        FootBook x = readied(Check::small);
        x.wish(0, 1, 0, 0);
        due(x, NONE, "best");
        x.drop();
        x.wish(2, 1, 0, 0);
        due(x, NONE, "best");
        x.drop();
        x.wish(1, 2, 0, 0);
        due(x, NONE, "best");
        x.drop();
        x.wish(1, 1, 4, 0);
        due(x, NONE, "best");
        x.drop();
        x.wish(1, 1, 0, 0);
        x.fix(1, 0, 0);
        due(x, NONE, "best");
        due(x, NONE, "best");
        refused(Check::impossible, NONE, "best");
    }

    private static void promise13Given() {
        sentence("13 given: the UNIT of a WISH (role = -1), the FOOT of a ROLE of it", FootBookPromises::unitAndFeet);
        sentence("13 given: UNKNOWN", () -> bounds(Check::small, UNKNOWN, 0, 0, "given", 0, 0, -1));
        sentence("13 given: UNKNOWN with all", () -> bounds(Check::full, UNKNOWN, 0, 3, "given", 0, 0, 1));
        sentence("13 given: UNKNOWN without WISHES", () -> bounds(Check::nothing, UNKNOWN, 0, -1, "given", 0, 0, -1));
        sentence("13 given: OUTSIDE: the ROLE is not wished", FootBookPromises::roleNotGiven);
        sentence("13 given: NONE: there is no GIVING", FootBookPromises::nothingGiven);
    }

    private static void unitAndFeet() {
        FootBook x = readied(Check::small);
        x.wish(1, 4, 0, 0);
        due(x, 0, "given", 0, -1);
        due(x, 1, "given", 0, 0);
        due(x, 2, "given", 0, 1);
        due(x, 1, "given", 1, -1);
        due(x, 4, "given", 1, 2);
        // Of the best, not of the hand.
        x.use(1, 0, 1);
        due(x, 0, "given", 0, 0);
        due(x, 1, "given", 0, 1);
        due(x, 1, "held", 0, 0);
    }

    private static void roleNotGiven() {
        roleIsNotWished("given");
        bounds(x -> x.wish(0, 15, 0, 0), OUTSIDE, -1, 3, "given", 1, 0, 0);
        refused(Check::small, OUTSIDE, "given", 0, 2);
        refused(Check::small, OUTSIDE, "given", 0, 3);
    }

    private static void nothingGiven() {
        FootBook x = readied(Check::impossible);
        due(x, NONE, "given", 0, -1);
        due(x, NONE, "given", 0, 0);
        due(x, NONE, "given", 0, 1);
        due(x, OUTSIDE, "given", 0, 2);
        due(x, NONE, "given", 1, -1);
        due(x, NONE, "given", 1, 0);
        due(x, UNKNOWN, "given", 2, -1);
        x.drop();
        due(x, 0, "given", 0, -1);
    }

    private static void promise14Crossings() {
        sentence("14 crossings: CROSSINGS of THE BEST GIVING", FootBookPromises::crossingsOfTheBest);
        sentence("14 crossings: NONE", FootBookPromises::crossingsOfNone);
    }

    private static void crossingsOfTheBest() {
        FootBook x = new FootBook();
        due(x, 0, "crossings");
        x.unit(0);
        x.unit(1);
        x.use(4, 0, 0);
        x.use(5, 0, 1);
        x.use(6, 1, 2);
        x.use(7, 1, 3);
        x.wish(0, 3, 0, 0);
        due(x, 0, "crossings");
        x.wish(1, 12, 0, 2);
        due(x, 4, "crossings");
        // The hand goes on with what it has; the best is another now.
        x.hold();
        x.use(3, 1, 2);
        due(x, 2, "crossings");
        x.use(1, 1, 3);
        due(x, 0, "crossings");
        x.drop();
        due(x, 0, "crossings");
    }

    private static void crossingsOfNone() {
        due(readied(Check::impossible), NONE, "crossings");
        due(readied(Check::impossibleAndNothingHeld), NONE, "crossings");
        refused(Check::impossible, NONE, "crossings");
    }

    private static void promise15Blame() {
        sentence("15 blame: THE BLAME, as bits", FootBookPromises::blameAsBits);
        sentence("15 blame: 0: there is a GIVING", FootBookPromises::noBlame);
    }

    private static void blameAsBits() {
        FootBook x = readied(Check::small);
        x.wish(0, 1, 0, 0);
        due(x, 3, "blame");
        x.wish(2, 1, 0, 0);
        due(x, 4, "blame");
        x.wish(3, 1, 0, 0);
        due(x, 4, "blame");
        x.fix(0, 0, 7);
        due(x, 1, "blame");
        x = oneFootEach(3);
        for (int wish = 0; wish < 4; wish++) {
            x.wish(0, 1, 0, 0);
        }
        due(x, 15, "blame");
        refused(Check::impossible, 2, "blame");
    }

    private static void noBlame() {
        due(new FootBook(), 0, "blame");
        due(readied(Check::small), 0, "blame");
        due(readied(Check::full), 0, "blame");
        FootBook x = readied(Check::impossible);
        due(x, 2, "blame");
        x.drop();
        due(x, 0, "blame");
    }

    private static void promise16Many() {
        sentence("16 many: how many GIVINGS there are", FootBookPromises::howManyGivings);
        sentence("16 many: 100000 at most", FootBookPromises::hundredThousandAtMost);
    }

    private static void howManyGivings() {
        FootBook x = new FootBook();
        due(x, 1, "many");
        x = readied(Check::small);
        due(x, 2, "many");
        x.wish(1, 5, 0, 0);
        due(x, 2, "many");
        x.use(2, 1, 0);
        due(x, 2, "many");
        x.use(5, 1, 0);
        due(x, 4, "many");
        x.wish(0, 1, 0, 0);
        due(x, 0, "many");
        for (int feet = 1; feet <= 15; feet++) {
            due("many() on the same " + feet + " feet", manyOnTheSameFeet(feet), feet * (feet - 1));
        }
        x = oneFootEach(6);
        int many = 1;
        for (int wish = 0; wish < 4; wish++) {
            x.wish(0, 1, 0, wish);
            many *= 6 - wish;
            due(x, many, "many");
        }
    }

    /** Two UNITS of unlike KINDS that can both do ROLE 0 on the same FEET. */
    private static int manyOnTheSameFeet(int feet) {
        FootBook x = new FootBook();
        x.feet(16);
        for (int unit = 0; unit < 2; unit++) {
            x.unit(unit);
            for (int foot = 0; foot < feet; foot++) {
                x.use(foot, unit, 0);
            }
        }
        x.wish(0, 1, 0, 0);
        x.wish(1, 1, 0, 0);
        return x.many();
    }

    /** Books whose GIVINGS were counted by another program: a few less than 100000, just so many, a few more. */
    private static void hundredThousandAtMost() {
        int[][] less = {{6, 8, 11, 13, 14}, {0, 1, 5, 7, 8, 10}, {0, 8, 14}, {2, 4, 5, 15}, {2, 5, 8, 9, 10},
            {3, 6, 8, 10, 15}};
        int[][] justSo = {{0, 4, 6, 7}, {2, 5, 8, 9, 15}, {1, 3, 6, 12, 13}, {7, 8, 10, 11, 14}, {1, 3, 5, 11},
            {3, 6, 10, 12, 13}};
        int[][] more = {{2, 3, 8, 15}, {1, 2, 4, 11, 14, 15}, {6, 7, 8, 9, 12, 14}, {2, 3, 6, 10, 12}, {0, 5, 7, 9},
            {4, 5, 6, 12}};
        due("many() of 99996", manyOfFeet(less, 1), 99996);
        due("many() of 100000", manyOfFeet(justSo, 5, 9), 100000);
        due("many() of 100004", manyOfFeet(more, 4, 7), 100000);
        FootBook x = new FootBook();
        x.feet(16);
        for (int unit = 0; unit < 6; unit++) {
            x.unit(0);
            for (int i = 0; i < 5; i++) {
                x.use((unit * 5 + i) % 16, unit, 0);
            }
        }
        for (int wish = 0; wish < 4; wish++) {
            x.wish(0, 1, 0, 0);
        }
        due(x, 100000, "many");
        due(x, 0, "blame");
        x.drop();
        x.drop();
        due(x, 30 * 25 - 2 * 14, "many");
    }

    /** One ROLE, FEET by UNIT; WISHES 1 and 3 may not have the told FEET. */
    private static int manyOfFeet(int[][] feetByUnit, int... otherVoltage) {
        FootBook x = new FootBook();
        x.feet(16);
        for (int foot : otherVoltage) {
            x.volt(foot, 2);
        }
        for (int unit = 0; unit < 6; unit++) {
            x.unit(0);
            for (int foot : feetByUnit[unit]) {
                x.use(foot, unit, 0);
            }
        }
        for (int wish = 0; wish < 4; wish++) {
            x.wish(0, 1, wish % 2, 0);
        }
        return x.many();
    }

    private static void promise17Trial() {
        sentence("17 trial: COST of the best; NONE", FootBookPromises::costOfATrial);
        sentence("17 trial: it is not kept", FootBookPromises::trialIsNotKept);
        wishRefusals("17", "trial");
    }

    private static void costOfATrial() {
        FootBook x = readied(Check::small);
        due(x, 1 + 3, "trial", 1, 1, 0, 0);
        due(x, NONE, "trial", 0, 1, 0, 0);
        due(x, NONE, "trial", 1, 1, 2, 0);
        due(x, 1 + 0 + 1, "trial", 1, 5, 1, 3);
        FootBook one = new FootBook();
        one.unit(0);
        one.use(3, 0, 0);
        due(one, 3, "trial", 0, 1, 0, 0);
        due(one, 0, "trial", 0, 1, 0, 3);
        due(readied(Check::impossible), NONE, "trial", 1, 1, 0, 0);
        // The WISHES that are there may move for it.
        FootBook moved = new FootBook();
        moved.unit(0);
        moved.unit(1);
        moved.use(0, 0, 0);
        moved.use(1, 0, 0);
        moved.use(0, 1, 0);
        moved.wish(0, 1, 0, 0);
        due(moved, 1, "trial", 1, 1, 0, 0);
        due(moved, 0, "given", 0, 0);
        // What was FIXED of a WISH that went is not of this one.
        moved.wish(1, 1, 0, 0);
        moved.fix(1, 0, 5);
        moved.drop();
        due(moved, 1, "trial", 1, 1, 0, 0);
        // What is FIXED of the others holds.
        moved.fix(0, 0, 0);
        due(moved, NONE, "trial", 1, 1, 0, 0);
    }

    private static void trialIsNotKept() {
        int[][] trials = {{1, 1, 0, 0}, {0, 1, 0, 0}, {1, 5, 1, 3}, {3, 15, 4, 7}};
        for (int[] w : trials) {
            FootBook x = readied(Check::small);
            String before = allThatCanBeRead(x);
            x.trial(w[0], w[1], w[2], w[3]);
            same("trial()", before, allThatCanBeRead(x));
            due(x, 1, "wish", 1, 1, 0, 0);
        }
        FootBook x = oneFootEach(6);
        for (int wish = 0; wish < 3; wish++) {
            x.wish(0, 1, 0, 0);
            x.hold();
        }
        String before = allThatCanBeRead(x);
        due(x, 0 + 1 + 2 + 3, "trial", 0, 1, 0, 0);
        same("trial() as the fourth", before, allThatCanBeRead(x));
        due(x, UNKNOWN, "wished", 3, 0);
        due(x, UNKNOWN, "given", 3, -1);
    }

    private static void promise18Hold() {
        sentence("18 hold: THE HAND holds THE BEST GIVING: 1", FootBookPromises::handHoldsTheBest);
        sentence("18 hold: of no WISHES", FootBookPromises::handHoldsNoWishes);
        sentence("18 hold: STATE: there is none", FootBookPromises::noneToHold);
    }

    private static void handHoldsTheBest() {
        FootBook x = readied(Check::small);
        x.wish(1, 4, 0, 0);
        due(x, NONE, "held", 1, 2);
        due(x, 1, "hold");
        due(x, 1, "held", 1, -1);
        due(x, 4, "held", 1, 2);
        due(x, 2, "told", 4);
        due(x, 1, "stands");
        x.use(1, 0, 1);
        x.use(5, 0, 0);
        due(x, 1, "held", 0, 0);
        due(x, 1, "hold");
        due(x, 0, "held", 0, 0);
        due(x, 1, "held", 0, 1);
        x.drop();
        due(x, 1, "hold");
        due(x, NONE, "held", 1, -1);
        due(x, NONE, "held", 1, 2);
        due(x, 1, "told", 4);
        due(x, 1, "hold");
    }

    private static void handHoldsNoWishes() {
        FootBook x = new FootBook();
        due(x, 1, "hold");
        due(x, 1, "stands");
        due(x, 0, "told", 4);
        due(x, 0, "setting", -1);
        due(x, 0, "change");
        x.wish(0, 1, 0, 0);
        due(x, 0, "stands");
        due(x, STATE, "change");
    }

    private static void noneToHold() {
        refused(Check::impossible, STATE, "hold");
        refused(Check::impossibleAndNothingHeld, STATE, "hold");
        FootBook x = readied(Check::impossibleAndNothingHeld);
        due(x, STATE, "hold");
        due(x, STATE, "change");
        due(x, 0, "stands");
        x.drop();
        due(x, STATE, "change");
        due(x, 1, "hold");
    }

    private static void promise19Change() {
        sentence("19 change: THE HAND holds THE CHANGE: MOVES", FootBookPromises::handHoldsTheChange);
        sentence("19 change: to fewer WISHES and to none", FootBookPromises::changeToFewer);
        sentence("19 change: STATE: THE HAND holds nothing", FootBookPromises::nothingToChange);
        sentence("19 change: STATE: or there is no GIVING", FootBookPromises::noChange);
    }

    /** UNIT 0 on FEET 0 and 1, UNIT 1 on 2 and 3, for ROLES 0 and 1; all of KIND 0; WISH 0 held on UNIT 1. */
    private static FootBook heldOnUnit1() {
        FootBook x = new FootBook();
        x.unit(0);
        x.unit(0);
        x.use(2, 1, 0);
        x.use(3, 1, 1);
        x.wish(0, 3, 0, 0);
        x.hold();
        x.use(0, 0, 0);
        x.use(1, 0, 1);
        return x;
    }

    private static void handHoldsTheChange() {
        FootBook x = heldOnUnit1();
        due(x, 1, "best");
        due(x, 0, "change");
        due(x, 1, "held", 0, -1);
        due(x, 0, "given", 0, -1);
        x.fix(0, 0, 0);
        due(x, 2, "change");
        due(x, 0, "held", 0, -1);
        due(x, 0, "held", 0, 0);
        due(x, 1, "held", 0, 1);
        due(x, 1, "stands");
        x.use(5, 0, 1);
        x.use(7, 0, 1);
        x.fix(0, 1, 5);
        due(x, 1, "change");
        due(x, 501, "setting", 1);
        x.fix(0, 1, -1);
        x.volt(5, 2);
        x.drop();
        x.wish(0, 3, 1, 0);
        due(x, 1, "change");
        due(x, 1, "held", 0, 1);
        due(x, 0, "change");
    }

    private static void changeToFewer() {
        FootBook x = heldOnUnit1();
        x.wish(0, 1, 0, 2);
        due(x, 0, "change");
        due(x, 2, "told", 4);
        due(x, 0, "held", 1, 0);
        x.drop();
        due(x, 0, "change");
        due(x, 1, "told", 4);
        due(x, NONE, "held", 1, 0);
        due(x, NONE, "held", 1, -1);
        x.drop();
        due(x, 0, "change");
        due(x, 0, "told", 4);
        due(x, NONE, "held", 0, -1);
        due(x, 0, "setting", -1);
        due(x, 1, "stands");
        x.wish(0, 3, 0, 0);
        due(x, 0, "change");
        due(x, 0, "held", 0, -1);
    }

    private static void nothingToChange() {
        refused(Check::nothing, STATE, "change");
        refused(x -> {
            small(x);
            x.feet(8);
        }, STATE, "change");
        refused(x -> {
            x.unit(0);
            x.use(0, 0, 0);
            x.wish(0, 1, 0, 0);
        }, STATE, "change");
        refused(Check::impossibleAndNothingHeld, STATE, "change");
    }

    private static void noChange() {
        refused(Check::impossible, STATE, "change");
        FootBook x = readied(Check::impossible);
        due(x, STATE, "change");
        x.drop();
        due(x, 0, "change");
        due(x, 1, "held", 0, 0);
    }

    private static void promise20Held() {
        sentence("20 held: the UNIT of a WISH (0 to 3; role = -1), the FOOT of a ROLE",
                FootBookPromises::whatTheHandHas);
        sentence("20 held: NONE", FootBookPromises::heldNone);
        sentence("20 held: of WISHES that are there no more", FootBookPromises::heldThoughDropped);
        sentence("20 held: UNKNOWN: not 0 to 3", FootBookPromises::notZeroToThree);
        sentence("20 held: OUTSIDE: ROLE", FootBookPromises::heldOutside);
    }

    private static void whatTheHandHas() {
        FootBook x = everyFoot(3, 2, 1, 0);
        for (int wish = 0; wish < 4; wish++) {
            x.wish(wish, 15, 0, 0);
        }
        x.hold();
        for (int wish = 0; wish < 4; wish++) {
            due(x, 3 - wish, "held", wish, -1);
            for (int role = 0; role < 4; role++) {
                due(x, 4 * (3 - wish) + role, "held", wish, role);
            }
        }
    }

    private static void heldNone() {
        FootBook x = readied(Check::small);
        due(x, NONE, "held", 0, 2);
        due(x, NONE, "held", 0, 3);
        for (int wish = 1; wish < 4; wish++) {
            for (int role = -1; role < 4; role++) {
                due(x, NONE, "held", wish, role);
            }
        }
        x.wish(1, 1, 0, 0);
        due(x, NONE, "held", 1, -1);
        due(x, NONE, "held", 1, 0);
    }

    private static void heldThoughDropped() {
        FootBook x = readied(Check::small);
        x.drop();
        due(x, 0, "held", 0, -1);
        due(x, 1, "held", 0, 0);
        due(x, 2, "held", 0, 1);
        due(x, NONE, "held", 0, 2);
    }

    private static void notZeroToThree() {
        bounds(Check::nothing, UNKNOWN, 0, 3, "held", 0, 0, -1);
        bounds(Check::small, UNKNOWN, 0, 3, "held", 0, 0, 0);
        bounds(Check::full, UNKNOWN, 0, 3, "held", 0, 0, 3);
    }

    private static void heldOutside() {
        bounds(Check::nothing, OUTSIDE, -1, 3, "held", 1, 0, 0);
        bounds(Check::small, OUTSIDE, -1, 3, "held", 1, 0, 0);
        bounds(Check::full, OUTSIDE, -1, 3, "held", 1, 3, 0);
    }

    private static void promise21Setting() {
        sentence("21 setting: SETTING i (from 0)", FootBookPromises::settingFromZero);
        sentence("21 setting: i = -1: how many", FootBookPromises::howManySettings);
        sentence("21 setting: NONE", FootBookPromises::noSuchSetting);
        sentence("21 setting: every FOOT", FootBookPromises::sixteenSettings);
    }

    /** FEET 0, 9 and 15 have a ROLE. */
    private static void threeSettings(FootBook x) {
        x.feet(16);
        for (int unit = 0; unit < 6; unit++) {
            x.unit(unit == 5 ? 1 : 0);
        }
        x.use(15, 5, 3);
        x.use(9, 5, 0);
        x.use(0, 4, 2);
        x.wish(1, 9, 0, 0);
        x.wish(0, 4, 0, 0);
        x.hold();
    }

    private static void settingFromZero() {
        FootBook x = readied(FootBookPromises::threeSettings);
        due(x, 42, "setting", 0);
        due(x, 950, "setting", 1);
        due(x, 1553, "setting", 2);
        // Of THE HAND, though the WISHES go.
        x.drop();
        x.drop();
        due(x, 42, "setting", 0);
        due(x, 1553, "setting", 2);
    }

    private static void howManySettings() {
        due(new FootBook(), 0, "setting", -1);
        due(readied(Check::small), 2, "setting", -1);
        FootBook x = readied(FootBookPromises::threeSettings);
        due(x, 3, "setting", -1);
        x.drop();
        due(x, 3, "setting", -1);
        x.change();
        due(x, 2, "setting", -1);
        x.drop();
        x.change();
        due(x, 0, "setting", -1);
    }

    private static void noSuchSetting() {
        for (int bad : new int[] {-2, -3, NONE, LOWEST, LOWEST + 1, HIGHEST - 1, HIGHEST, 16, 17}) {
            due(new FootBook(), NONE, "setting", bad);
            due(readied(FootBookPromises::threeSettings), NONE, "setting", bad);
        }
        for (int i = 3; i < 16; i++) {
            due(readied(FootBookPromises::threeSettings), NONE, "setting", i);
        }
        due(new FootBook(), NONE, "setting", 0);
    }

    private static void sixteenSettings() {
        FootBook x = everyFoot(3, 2, 1, 0);
        for (int wish = 0; wish < 4; wish++) {
            x.wish(wish, 15, 1, 0);
        }
        x.hold();
        due(x, 16, "setting", -1);
        for (int foot = 0; foot < 16; foot++) {
            due(x, 100 * foot + 10 * (foot / 4) + foot % 4, "setting", foot);
        }
        due(x, NONE, "setting", 16);
    }

    private static void promise22Stands() {
        sentence("22 stands: what THE HAND holds", FootBookPromises::standsOfNothing);
        sentence("22 stands: a GIVING (its FEET's VOLTAGES)", FootBookPromises::standsByVoltage);
        sentence("22 stands: a GIVING (what is FIXED)", FootBookPromises::standsByFixed);
        sentence("22 stands: a GIVING, not the best one", FootBookPromises::standsThoughNotBest);
        sentence("22 stands: of WISHES as they are now: how many", FootBookPromises::standsByWishes);
        sentence("22 stands: of WISHES as they are now: each of them", FootBookPromises::standsByEachWish);
        sentence("22 stands: of WISHES as they are now: what is wished", FootBookPromises::standsByWhatIsWished);
    }

    private static void standsOfNothing() {
        FootBook x = new FootBook();
        due(x, 0, "stands");
        x.wish(0, 1, 0, 0);
        due(x, 0, "stands");
        x = readied(Check::small);
        due(x, 1, "stands");
        x.feet(8);
        due(x, 0, "stands");
        x.hold();
        due(x, 1, "stands");
    }

    private static void standsByVoltage() {
        FootBook x = new FootBook();
        x.unit(0);
        x.use(0, 0, 0);
        x.use(1, 0, 3);
        x.wish(0, 9, 2, 0);
        x.volt(0, 2);
        x.volt(1, 2);
        x.hold();
        due(x, 1, "stands");
        x.volt(0, 3);
        due(x, 0, "stands");
        x.volt(0, 2);
        due(x, 1, "stands");
        x.volt(1, 1);
        due(x, 0, "stands");
        FootBook whatever = readied(Check::small);
        whatever.volt(1, 2);
        due(whatever, 1, "stands");
    }

    private static void standsByFixed() {
        FootBook x = readied(Check::small);
        x.fix(0, 0, 1);
        due(x, 1, "stands");
        x.fix(0, 0, 0);
        due(x, 0, "stands");
        x.fix(0, 0, -1);
        due(x, 1, "stands");
        x.fix(0, 1, 7);
        due(x, 0, "stands");
        due(readied(Check::full), 0, "stands");
    }

    private static void standsThoughNotBest() {
        FootBook x = readied(Check::small);
        x.drop();
        x.wish(0, 3, 0, 7);
        due(x, 0, "given", 0, 0);
        due(x, 1, "held", 0, 0);
        due(x, 1, "stands");
    }

    private static void standsByWishes() {
        FootBook x = readied(Check::small);
        x.wish(1, 1, 0, 0);
        due(x, 0, "stands");
        x.drop();
        due(x, 1, "stands");
        x.drop();
        due(x, 0, "stands");
        x.wish(0, 3, 0, 1);
        due(x, 1, "stands");
    }

    /** Every FOOT has a ROLE; one FOOT of another VOLTAGE, or one ROLE FIXED elsewhere, and it stands no more. */
    private static void standsByEachWish() {
        FootBook x = everyFoot(0, 1, 2, 3);
        for (int wish = 0; wish < 4; wish++) {
            x.wish(wish, 15, 1, 0);
            x.hold();
            due(x, 1, "stands");
        }
        for (int slot = 0; slot < 16; slot++) {
            x.volt(slot, 2);
            due(x, 0, "stands");
            x.volt(slot, 1);
            due(x, 1, "stands");
            x.fix(slot / 4, slot % 4, (slot + 1) % 16);
            due(x, 0, "stands");
            x.fix(slot / 4, slot % 4, slot);
            due(x, 1, "stands");
        }
    }

    private static void standsByWhatIsWished() {
        standsAnew("the same", 0, 3, 0, 1, 1);
        standsAnew("another place", 0, 3, 0, 5, 1);
        standsAnew("another kind", 1, 3, 0, 1, 0);
        standsAnew("a role more", 0, 7, 0, 1, 0);
        standsAnew("a role less", 0, 1, 0, 1, 0);
        standsAnew("another role", 0, 5, 0, 1, 0);
        standsAnew("another voltage", 0, 3, 1, 1, 0);
    }

    /** The held WISH goes and another comes. */
    private static void standsAnew(String what, int kind, int roles, int volt, int place, int want) {
        FootBook x = readied(Check::small);
        x.drop();
        x.wish(kind, roles, volt, place);
        due("stands(), " + what, x.stands(), want);
    }

    private static void promise23Told() {
        sentence("23 told: 0 FEET, 1 UNITS, 2 USES, 3 WISHES, 4 WISHES that THE HAND gives",
                FootBookPromises::howManyOfEach);
        sentence("23 told: OUTSIDE", () -> bounds(Check::small, OUTSIDE, 0, 4, "told", 0, 0));
        sentence("23 told: OUTSIDE of a new book", () -> bounds(Check::nothing, OUTSIDE, 0, 4, "told", 0, 0));
    }

    private static void howManyOfEach() {
        FootBook x = readied(Check::small);
        x.wish(1, 1, 0, 0);
        x.wish(1, 1, 0, 0);
        int[] want = {8, 2, 5, 3, 1};
        for (int what = 0; what < 5; what++) {
            due(x, want[what], "told", what);
        }
        x.drop();
        x.drop();
        x.drop();
        due(x, 0, "told", 3);
        due(x, 1, "told", 4);
        int[] all = {16, 6, 30, 4, 4};
        for (int what = 0; what < 5; what++) {
            due(readied(Check::full), all[what], "told", what);
        }
    }
}
