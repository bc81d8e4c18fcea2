import java.util.function.Consumer;
import java.util.function.ToIntFunction;

/** For each promise of the document: ordinary calls, the edges that it names, and calls that are refused. */
public final class FootBookPromises {
    private static final int NONE = -6, UNKNOWN = -1, OUTSIDE = -2, STATE = -3, FULL = -4, NO = -5;
    private static final int LOWEST = Integer.MIN_VALUE, HIGHEST = Integer.MAX_VALUE;

    private static int wrong = 0;
    private static int asked = 0;

    public static void main(String[] args) {
        promise1NewObject();
        promise2Feet();
        promise3Volt();
        promise4Unit();
        promise5Kind();
        promise6Use();
        promise7About();
        promise8Wish();
        promise9Wished();
        promise10Fix();
        promise11Drop();
        promise12Best();
        promise12BestIsTheFirst();
        promise13Given();
        promise14Crossings();
        promise15Blame();
        promise16Many();
        promise17Trial();
        promise18Hold();
        promise19Change();
        promise20Held();
        promise21Setting();
        promise22Stands();
        promise23Told();
        System.out.println(asked + " answers asked, " + wrong + " not as due");
        if (wrong != 0) {
            System.exit(1);
        }
    }

    private static void due(String what, int got, int want) {
        asked++;
        if (got != want) {
            wrong++;
            System.out.println(what + " answered " + got + ", due is " + want);
        }
    }

    /** On a new object that was readied: the call is refused so, and all that can be read stays as it was. */
    private static void refused(String what, Consumer<FootBook> ready, ToIntFunction<FootBook> call, int want) {
        FootBook untouched = new FootBook();
        ready.accept(untouched);
        FootBook touched = new FootBook();
        ready.accept(touched);
        due(what, call.applyAsInt(touched), want);
        asked++;
        String before = allThatCanBeRead(untouched);
        String after = allThatCanBeRead(touched);
        if (!before.equals(after)) {
            wrong++;
            System.out.println(what + " was refused, but changed\n  " + before + "\nto\n  " + after);
        }
    }

    private static String allThatCanBeRead(FootBook x) {
        StringBuilder all = new StringBuilder();
        for (int what = 0; what < 5; what++) {
            all.append(x.told(what)).append(' ');
        }
        for (int unit = 0; unit < x.told(1); unit++) {
            all.append("k").append(x.kind(unit)).append(' ');
        }
        for (int use = 0; use < x.told(2); use++) {
            all.append("u").append(x.about(use, 0)).append(x.about(use, 1)).append(x.about(use, 2)).append(' ');
        }
        for (int wish = 0; wish < x.told(3); wish++) {
            for (int what = 0; what < 14; what++) {
                all.append("w").append(x.wished(wish, what)).append(' ');
            }
            for (int role = -1; role < 4; role++) {
                all.append("g").append(x.given(wish, role)).append(' ');
            }
        }
        for (int wish = 0; wish < 4; wish++) {
            for (int role = -1; role < 4; role++) {
                all.append("h").append(x.held(wish, role)).append(' ');
            }
        }
        all.append(x.best()).append(' ').append(x.many()).append(' ').append(x.stands()).append(" v");
        for (int foot = 0; foot < x.told(0); foot++) {
            all.append(x.volt(foot, 1));
        }
        return all.toString();
    }

    /** 8 FEET; UNIT 0 of KIND 0 on FEET 0, 1 and 2, UNIT 1 of KIND 1 on 3 and 4; one WISH, held. */
    private static void small(FootBook x) {
        x.volt(2, 3);
        x.unit(0);
        x.unit(1);
        x.use(0, 0, 0);
        x.use(1, 0, 0);
        x.use(2, 0, 1);
        x.use(3, 1, 0);
        x.use(4, 1, 2);
        x.wish(0, 3, 0, 1);
        x.hold();
    }

    private static FootBook smallOne() {
        FootBook x = new FootBook();
        small(x);
        return x;
    }

    private static void nothing(FootBook x) {
    }

    private static void fourWishes(FootBook x) {
        x.unit(0);
        x.use(0, 0, 0);
        for (int i = 0; i < 4; i++) {
            x.wish(i, 1 + i, i, i);
        }
    }

    /** UNITS 0 to 5 of KIND 0, each of which can do ROLE 0 on one FOOT, its own number. */
    private static FootBook oneFootEach(int units) {
        FootBook x = new FootBook();
        for (int unit = 0; unit < units; unit++) {
            x.unit(0);
            x.use(unit, unit, 0);
        }
        return x;
    }

    private static void promise1NewObject() {
        FootBook x = new FootBook();
        due("new: told(0)", x.told(0), 8);
        for (int what = 1; what < 5; what++) {
            due("new: told(" + what + ")", x.told(what), 0);
        }
        for (int foot = 0; foot < 8; foot++) {
            due("new: volt(" + foot + ", 1)", x.volt(foot, 1), 1);
        }
        due("new: volt(8, 1)", x.volt(8, 1), UNKNOWN);
        due("new: kind(0)", x.kind(0), UNKNOWN);
        due("new: about(0, 0)", x.about(0, 0), UNKNOWN);
        due("new: wished(0, 0)", x.wished(0, 0), UNKNOWN);
        due("new: held(0, -1)", x.held(0, -1), NONE);
        due("new: held(0, 0)", x.held(0, 0), NONE);
        due("new: setting(-1)", x.setting(-1), 0);
        due("new: change()", x.change(), STATE);
        due("new: stands()", x.stands(), 0);
        FootBook other = new FootBook();
        other.feet(5);
        due("another object's feet stay its own", x.told(0), 8);
    }

    private static void promise2Feet() {
        FootBook x = smallOne();
        due("feet(16)", x.feet(16), 8);
        due("feet(4)", x.feet(4), 16);
        due("feet(4) again", x.feet(4), 4);
        due("feet: told(0)", x.told(0), 4);
        x = smallOne();
        x.volt(7, 4);
        due("feet(8), as many as before", x.feet(8), 8);
        for (int what = 1; what < 5; what++) {
            due("feet: told(" + what + ")", x.told(what), 0);
        }
        due("feet: volt(2, 1)", x.volt(2, 1), 1);
        due("feet: volt(7, 1)", x.volt(7, 1), 1);
        due("feet: held(0, -1)", x.held(0, -1), NONE);
        due("feet: held(0, 0)", x.held(0, 0), NONE);
        due("feet: setting(-1)", x.setting(-1), 0);
        due("feet: stands()", x.stands(), 0);
        due("feet: change()", x.change(), STATE);
        due("feet: best()", x.best(), 0);
        due("feet: unit(0)", x.unit(0), 0);
        due("feet: use(0, 0, 0), new again", x.use(0, 0, 0), 0);
        due("feet: wish(0, 2, 0, 0)", x.wish(0, 2, 0, 0), 0);
        due("feet: no use of role 1 is left", x.best(), NONE);
        x = smallOne();
        due("feet: best() ahead of it", x.best(), 1);
        x.feet(8);
        due("feet: best() right after it", x.best(), 0);
        x.feet(16);
        for (int foot = 0; foot < 16; foot++) {
            due("feet: volt(" + foot + ", 2) of 16", x.volt(foot, 2), 1);
        }
        x.feet(4);
        x.feet(16);
        due("feet: volt(15, 1) anew", x.volt(15, 1), 1);
        for (int n : new int[] {3, 17, 0, -1, -8, LOWEST, HIGHEST}) {
            refused("feet(" + n + ")", FootBookPromises::small, b -> b.feet(n), OUTSIDE);
        }
    }

    private static void promise3Volt() {
        FootBook x = new FootBook();
        due("volt(0, 4)", x.volt(0, 4), 1);
        due("volt(0, 1)", x.volt(0, 1), 4);
        due("volt(7, 2)", x.volt(7, 2), 1);
        due("volt(7, 3)", x.volt(7, 3), 2);
        due("volt(7, 3) again", x.volt(7, 3), 3);
        for (int foot : new int[] {8, -1, 15, 16, LOWEST, HIGHEST}) {
            refused("volt(" + foot + ", 1)", FootBookPromises::small, b -> b.volt(foot, 1), UNKNOWN);
            refused("volt(" + foot + ", 5)", FootBookPromises::small, b -> b.volt(foot, 5), UNKNOWN);
        }
        for (int v : new int[] {0, 5, -1, LOWEST, HIGHEST}) {
            refused("volt(2, " + v + ")", FootBookPromises::small, b -> b.volt(2, v), OUTSIDE);
        }
    }

    private static void sixUnits(FootBook x) {
        for (int unit = 0; unit < 6; unit++) {
            x.unit(unit % 4);
        }
    }

    private static void promise4Unit() {
        FootBook x = new FootBook();
        for (int unit = 0; unit < 6; unit++) {
            due("unit(" + unit % 4 + ")", x.unit(unit % 4), unit);
        }
        due("unit: told(1)", x.told(1), 6);
        refused("unit(0) as the seventh", FootBookPromises::sixUnits, b -> b.unit(0), FULL);
        refused("unit(4) as the seventh", FootBookPromises::sixUnits, b -> b.unit(4), OUTSIDE);
        for (int kind : new int[] {-1, 4, LOWEST, HIGHEST}) {
            refused("unit(" + kind + ")", FootBookPromises::small, b -> b.unit(kind), OUTSIDE);
        }
    }

    private static void promise5Kind() {
        FootBook x = new FootBook();
        sixUnits(x);
        for (int unit = 0; unit < 6; unit++) {
            due("kind(" + unit + ")", x.kind(unit), unit % 4);
        }
        for (int unit : new int[] {-1, 2, 5, 6, LOWEST, HIGHEST}) {
            refused("kind(" + unit + ")", FootBookPromises::small, b -> b.kind(unit), UNKNOWN);
        }
        refused("kind(6) of six", FootBookPromises::sixUnits, b -> b.kind(6), UNKNOWN);
    }

    private static void thirtyUses(FootBook x) {
        x.unit(0);
        x.unit(1);
        for (int use = 0; use < 30; use++) {
            x.use(use % 8, 0, use / 8);
        }
    }

    private static void promise6Use() {
        FootBook x = new FootBook();
        x.unit(0);
        for (int use = 0; use < 30; use++) {
            due("use " + use, x.use(use % 8, 0, use / 8), use);
        }
        due("use: told(2)", x.told(2), 30);
        refused("use(7, 0, 3) as the 31st", FootBookPromises::thirtyUses, b -> b.use(7, 0, 3), FULL);
        refused("use(0, 0, 0), there and full", FootBookPromises::thirtyUses, b -> b.use(0, 0, 0), FULL);
        refused("use(0, 0, 4), full", FootBookPromises::thirtyUses, b -> b.use(0, 0, 4), OUTSIDE);
        refused("use(0, 2, 4), full", FootBookPromises::thirtyUses, b -> b.use(0, 2, 4), UNKNOWN);
        refused("use(2, 0, 1), there", FootBookPromises::small, b -> b.use(2, 0, 1), NO);
        x = smallOne();
        due("use(2, 0, 2), another role", x.use(2, 0, 2), 5);
        due("use(2, 1, 1), another unit", x.use(2, 1, 1), 6);
        due("use(3, 0, 1), another foot", x.use(3, 0, 1), 7);
        for (int bad : new int[] {-1, 8, 16, LOWEST, HIGHEST}) {
            refused("use(" + bad + ", 0, 0)", FootBookPromises::small, b -> b.use(bad, 0, 0), UNKNOWN);
            refused("use(" + bad + ", 0, 9)", FootBookPromises::small, b -> b.use(bad, 0, 9), UNKNOWN);
            refused("use(0, " + bad + ", 0)", FootBookPromises::small, b -> b.use(0, bad, 0), UNKNOWN);
            refused("use(0, " + bad + ", 9)", FootBookPromises::small, b -> b.use(0, bad, 9), UNKNOWN);
            refused("use(0, 0, " + bad + ")", FootBookPromises::small, b -> b.use(0, 0, bad), OUTSIDE);
        }
        refused("use(0, 2, 0)", FootBookPromises::small, b -> b.use(0, 2, 0), UNKNOWN);
        refused("use(0, 0, 4)", FootBookPromises::small, b -> b.use(0, 0, 4), OUTSIDE);
    }

    private static void promise7About() {
        FootBook x = new FootBook();
        thirtyUses(x);
        for (int use = 0; use < 30; use++) {
            due("about(" + use + ", 0)", x.about(use, 0), use % 8);
            due("about(" + use + ", 1)", x.about(use, 1), 0);
            due("about(" + use + ", 2)", x.about(use, 2), use / 8);
        }
        x = smallOne();
        due("about(4, 0)", x.about(4, 0), 4);
        due("about(4, 1)", x.about(4, 1), 1);
        due("about(4, 2)", x.about(4, 2), 2);
        refused("about(30, 0) of 30", FootBookPromises::thirtyUses, b -> b.about(30, 0), UNKNOWN);
        for (int bad : new int[] {-1, 5, 30, LOWEST, HIGHEST}) {
            refused("about(" + bad + ", 0)", FootBookPromises::small, b -> b.about(bad, 0), UNKNOWN);
            refused("about(" + bad + ", 3)", FootBookPromises::small, b -> b.about(bad, 3), UNKNOWN);
            refused("about(0, " + bad + ")", FootBookPromises::small, b -> b.about(0, bad), OUTSIDE);
        }
        refused("about(0, 3)", FootBookPromises::small, b -> b.about(0, 3), OUTSIDE);
    }

    private static void promise8Wish() {
        FootBook x = new FootBook();
        due("wish(0, 1, 0, 0)", x.wish(0, 1, 0, 0), 0);
        due("wish(3, 15, 4, 7)", x.wish(3, 15, 4, 7), 1);
        due("wish(3, 15, 4, 7) again", x.wish(3, 15, 4, 7), 2);
        due("wish(1, 8, 1, 3)", x.wish(1, 8, 1, 3), 3);
        due("wish: told(3)", x.told(3), 4);
        due("wish: drop()", x.drop(), 3);
        due("wish(2, 2, 2, 2)", x.wish(2, 2, 2, 2), 3);
        due("wish: wished(3, 0)", x.wished(3, 0), 2);
        wishRefusals("wish", (b, w) -> b.wish(w[0], w[1], w[2], w[3]));
    }

    private interface Wish {
        int on(FootBook x, int[] w);
    }

    /** wish() and trial() refuse alike. */
    private static void wishRefusals(String name, Wish call) {
        int[] unlike = {LOWEST, HIGHEST, -1, -2, 8, 16, 100};
        for (int bad : unlike) {
            int[][] refusals = {{0, 1, 0, bad}, {bad, 1, 0, bad}, {0, 0, 0, bad}, {0, 1, 5, bad}};
            for (int[] w : refusals) {
                dueOfWish(name, FootBookPromises::small, call, w, UNKNOWN);
                dueOfWish(name, FootBookPromises::fourWishes, call, w, UNKNOWN);
            }
        }
        int[][] outside = {{-1, 1, 0, 0}, {4, 1, 0, 0}, {LOWEST, 1, 0, 0}, {HIGHEST, 1, 0, 0}, {0, 0, 0, 0},
            {0, 16, 0, 0}, {0, -1, 0, 0}, {0, LOWEST, 0, 0}, {0, HIGHEST, 0, 0}, {0, 1, -1, 0}, {0, 1, 5, 0},
            {0, 1, LOWEST, 0}, {0, 1, HIGHEST, 0}};
        for (int[] w : outside) {
            dueOfWish(name, FootBookPromises::small, call, w, OUTSIDE);
            dueOfWish(name, FootBookPromises::fourWishes, call, w, OUTSIDE);
        }
        dueOfWish(name, FootBookPromises::fourWishes, call, new int[] {0, 1, 0, 0}, FULL);
        dueOfWish(name, FootBookPromises::fourWishes, call, new int[] {3, 15, 4, 7}, FULL);
    }

    private static void dueOfWish(String name, Consumer<FootBook> ready, Wish call, int[] w, int want) {
        refused(name + "(" + w[0] + ", " + w[1] + ", " + w[2] + ", " + w[3] + ")", ready, b -> call.on(b, w), want);
    }

    private static void promise9Wished() {
        FootBook x = new FootBook();
        x.wish(3, 5, 4, 7);
        x.wish(1, 15, 0, 2);
        x.fix(1, 0, 6);
        x.fix(1, 3, 0);
        int[][] want = {{3, 5, 4, 7}, {1, 15, 0, 2}};
        for (int wish = 0; wish < 2; wish++) {
            for (int what = 0; what < 4; what++) {
                due("wished(" + wish + ", " + what + ")", x.wished(wish, what), want[wish][what]);
            }
        }
        int[][] fixed = {{NONE, NONE, NONE, NONE}, {6, NONE, NONE, 0}};
        for (int wish = 0; wish < 2; wish++) {
            for (int role = 0; role < 4; role++) {
                due("wished(" + wish + ", 1" + role + ")", x.wished(wish, 10 + role), fixed[wish][role]);
            }
        }
        for (int bad : new int[] {-1, 1, 4, LOWEST, HIGHEST}) {
            refused("wished(" + bad + ", 0)", FootBookPromises::small, b -> b.wished(bad, 0), UNKNOWN);
            refused("wished(" + bad + ", 4)", FootBookPromises::small, b -> b.wished(bad, 4), UNKNOWN);
        }
        for (int bad : new int[] {-1, 4, 5, 9, 14, LOWEST, LOWEST + 9, HIGHEST}) {
            refused("wished(0, " + bad + ")", FootBookPromises::small, b -> b.wished(0, bad), OUTSIDE);
        }
    }

    private static void promise10Fix() {
        FootBook x = smallOne();
        due("fix(0, 0, 0)", x.fix(0, 0, 0), NONE);
        due("fix: wished(0, 10)", x.wished(0, 10), 0);
        due("fix: best(), as it is fixed", x.best(), 2);
        due("fix: given(0, 0)", x.given(0, 0), 0);
        due("fix(0, 0, 1)", x.fix(0, 0, 1), 0);
        due("fix: best(), fixed anew", x.best(), 1);
        due("fix(0, 0, 7), which can't", x.fix(0, 0, 7), 1);
        due("fix: best(), on a foot that can't", x.best(), NONE);
        due("fix(0, 0, -1)", x.fix(0, 0, -1), 7);
        due("fix(0, 0, -1) again", x.fix(0, 0, -1), NONE);
        due("fix: best(), free again", x.best(), 1);
        x.fix(0, 1, 2);
        x.drop();
        x.wish(0, 3, 0, 1);
        due("a new wish has nothing fixed", x.wished(0, 11), NONE);
        x = smallOne();
        x.wish(1, 1, 0, 0);
        x.fix(0, 0, 3);
        due("fix: the other wish is free", x.wished(1, 10), NONE);
        for (int bad : new int[] {-1, 1, 4, LOWEST, HIGHEST}) {
            refused("fix(" + bad + ", 0, 0)", FootBookPromises::small, b -> b.fix(bad, 0, 0), UNKNOWN);
            refused("fix(" + bad + ", 3, 0)", FootBookPromises::small, b -> b.fix(bad, 3, 0), UNKNOWN);
        }
        for (int bad : new int[] {-2, 8, 16, NONE, LOWEST, HIGHEST}) {
            refused("fix(0, 0, " + bad + ")", FootBookPromises::small, b -> b.fix(0, 0, bad), UNKNOWN);
            refused("fix(0, 3, " + bad + ")", FootBookPromises::small, b -> b.fix(0, 3, bad), UNKNOWN);
        }
        for (int bad : new int[] {2, 3, 4, -1, 32, 33, LOWEST, HIGHEST}) {
            refused("fix(0, " + bad + ", 0)", FootBookPromises::small, b -> b.fix(0, bad, 0), OUTSIDE);
            refused("fix(0, " + bad + ", -1)", FootBookPromises::small, b -> b.fix(0, bad, -1), OUTSIDE);
        }
    }

    private static void promise11Drop() {
        FootBook x = new FootBook();
        fourWishes(x);
        for (int left = 3; left >= 0; left--) {
            due("drop()", x.drop(), left);
            due("drop: told(3)", x.told(3), left);
            due("drop: the latest is gone", x.wished(left, 0), UNKNOWN);
            if (left > 0) {
                due("drop: the one ahead stays", x.wished(left - 1, 1), left);
            }
        }
        due("drop: best() of none", x.best(), 0);
        refused("drop() of none", FootBookPromises::nothing, b -> b.drop(), UNKNOWN);
        x = smallOne();
        x.drop();
        due("drop: the hand stays", x.held(0, 0), 1);
    }

    private static void promise12Best() {
        due("best() without wishes", new FootBook().best(), 0);
        FootBook x = smallOne();
        due("best()", x.best(), 1);
        x.wish(0, 1, 0, 0);
        due("best(): one unit for two wishes", x.best(), NONE);
        x.drop();
        x.wish(2, 1, 0, 0);
        due("best(): no unit of the kind", x.best(), NONE);
        x.drop();
        x.wish(1, 2, 0, 0);
        due("best(): no foot for the role", x.best(), NONE);
        x.drop();
        x.wish(1, 5, 0, 0);
        due("best(): both ways round", x.best(), 1 + 3 + 4);
        x.volt(4, 2);
        due("best(): unlike voltages where 0 is told", x.best(), 1 + 3 + 4);
        x.drop();
        x.wish(1, 5, 2, 0);
        due("best(): one foot is of another voltage", x.best(), NONE);
        x.volt(3, 2);
        due("best(): both of the told voltage", x.best(), 1 + 3 + 4);
        x.use(2, 1, 0);
        x.volt(2, 2);
        due("best(): no foot has two roles", x.best(), 1 + 3 + 4);
        x.feet(5);
        x.unit(0);
        x.use(4, 0, 0);
        x.wish(0, 1, 0, 0);
        due("best(): one step back round the ring", x.best(), 1);
        x.feet(16);
        x.unit(0);
        x.use(0, 0, 0);
        x.use(1, 0, 1);
        x.use(2, 0, 2);
        x.use(3, 0, 3);
        x.wish(0, 15, 0, 10);
        due("best(): 6 + 7 + 8 + 7 steps", x.best(), 28);
    }

    private static void promise12BestIsTheFirst() {
        FootBook x = new FootBook();
        x.unit(0);
        x.unit(0);
        x.use(3, 1, 0);
        x.use(3, 0, 0);
        x.use(1, 0, 0);
        x.use(1, 1, 0);
        x.wish(0, 1, 0, 2);
        due("best(): two units, two feet", x.best(), 1);
        due("best(): the lesser unit", x.given(0, -1), 0);
        due("best(): the lesser foot", x.given(0, 0), 1);
        x.wish(0, 1, 0, 2);
        due("best(): wish 1 takes the other unit", x.given(1, -1), 1);
        due("best(): wish 1 takes the other foot", x.given(1, 0), 3);
        x = new FootBook();
        x.unit(0);
        x.unit(0);
        x.unit(1);
        x.use(1, 0, 0);
        x.use(0, 1, 0);
        x.use(1, 2, 0);
        x.use(2, 2, 0);
        x.wish(0, 1, 0, 0);
        x.wish(1, 1, 0, 1);
        due("best(): the least cost comes ahead of the first", x.best(), 0);
        due("best(): so the greater unit", x.given(0, -1), 1);
    }

    private static void promise13Given() {
        FootBook x = smallOne();
        x.wish(1, 4, 0, 0);
        due("given(0, -1)", x.given(0, -1), 0);
        due("given(0, 0)", x.given(0, 0), 1);
        due("given(0, 1)", x.given(0, 1), 2);
        due("given(1, -1)", x.given(1, -1), 1);
        due("given(1, 2)", x.given(1, 2), 4);
        x.volt(4, 2);
        due("given(1, 2) of voltage 0", x.given(1, 2), 4);
        x.wish(1, 1, 0, 0);
        due("given(0, -1), no giving", x.given(0, -1), NONE);
        due("given(0, 0), no giving", x.given(0, 0), NONE);
        due("given(0, 2), no giving", x.given(0, 2), OUTSIDE);
        due("given(3, 0), no giving", x.given(3, 0), UNKNOWN);
        for (int bad : new int[] {-1, 1, 4, LOWEST, HIGHEST}) {
            refused("given(" + bad + ", -1)", FootBookPromises::small, b -> b.given(bad, -1), UNKNOWN);
            refused("given(" + bad + ", 3)", FootBookPromises::small, b -> b.given(bad, 3), UNKNOWN);
        }
        for (int bad : new int[] {-2, 2, 3, 4, 32, LOWEST, HIGHEST}) {
            refused("given(0, " + bad + ")", FootBookPromises::small, b -> b.given(0, bad), OUTSIDE);
        }
        due("given(0, 0) without wishes", new FootBook().given(0, 0), UNKNOWN);
    }

    /** CROSSINGS of a wire from one PLACE to one FOOT and another from another. */
    private static int crossingsOf(int placeA, int footA, int placeB, int footB) {
        FootBook x = new FootBook();
        x.unit(0);
        x.unit(1);
        x.use(footA, 0, 0);
        x.use(footB, 1, 0);
        x.wish(0, 1, 0, placeA);
        x.wish(1, 1, 0, placeB);
        return x.crossings();
    }

    private static void promise14Crossings() {
        due("crossings() without wishes", new FootBook().crossings(), 0);
        due("crossings: 0-4, 2-6", crossingsOf(0, 4, 2, 6), 1);
        due("crossings: 4-0, 6-2", crossingsOf(4, 0, 6, 2), 1);
        due("crossings: 2-6, 4-0", crossingsOf(2, 6, 4, 0), 1);
        due("crossings: 0-4, 1-3, within", crossingsOf(0, 4, 1, 3), 0);
        due("crossings: 1-3, 0-4, round it", crossingsOf(1, 3, 0, 4), 0);
        due("crossings: 0-4, 5-7, outside", crossingsOf(0, 4, 5, 7), 0);
        due("crossings: 0-4, 4-6, one end alike", crossingsOf(0, 4, 4, 6), 0);
        due("crossings: 4-0, 0-6, one end alike", crossingsOf(4, 0, 0, 6), 0);
        due("crossings: 0-4, 4-2, one end alike, the other within", crossingsOf(0, 4, 4, 2), 0);
        due("crossings: 4-0, 2-4, one end alike, the other within", crossingsOf(4, 0, 2, 4), 0);
        due("crossings: 0-4, 0-2, places alike", crossingsOf(0, 4, 0, 2), 0);
        due("crossings: 4-0, 4-2, places alike", crossingsOf(4, 0, 4, 2), 0);
        due("crossings: 0-4, 2-2, no way at all", crossingsOf(0, 4, 2, 2), 0);
        due("crossings: 3-3, 0-6", crossingsOf(3, 3, 0, 6), 0);
        due("crossings: 0-7, 6-1", crossingsOf(0, 7, 6, 1), 0);
        due("crossings: 0-6, 7-1", crossingsOf(0, 6, 7, 1), 1);
        due("crossings: one foot for both", crossingsOf(0, 4, 2, 4), NONE);
        FootBook x = new FootBook();
        x.unit(0);
        x.unit(1);
        x.use(4, 0, 0);
        x.use(5, 0, 1);
        x.use(6, 1, 2);
        x.use(7, 1, 3);
        x.wish(0, 3, 0, 0);
        x.wish(1, 12, 0, 2);
        due("crossings: each wire of one over each of the other", x.crossings(), 4);
    }

    private static void promise15Blame() {
        due("blame() without wishes", new FootBook().blame(), 0);
        FootBook x = smallOne();
        due("blame(), a giving", x.blame(), 0);
        x.wish(0, 1, 0, 0);
        due("blame(): both of one unit", x.blame(), 3);
        x.wish(2, 1, 0, 0);
        due("blame(): one alone is fewer", x.blame(), 4);
        x.wish(3, 1, 0, 0);
        due("blame(): of two alone the lesser", x.blame(), 4);
        x = smallOne();
        x.wish(2, 1, 0, 0);
        x.fix(0, 0, 7);
        due("blame(): wish 0 alone ahead of wish 1 alone", x.blame(), 1);
        blameOfPairs();
        x = oneFootEach(2);
        x.wish(0, 1, 0, 0);
        x.wish(0, 1, 0, 0);
        x.wish(0, 1, 0, 0);
        due("blame(): three for two units", x.blame(), 7);
        x.wish(0, 1, 0, 0);
        due("blame(): of several threes the first", x.blame(), 7);
        x = oneFootEach(3);
        for (int i = 0; i < 4; i++) {
            x.wish(0, 1, 0, i);
        }
        due("blame(): four for three units", x.blame(), 15);
        x = new FootBook();
        x.unit(0);
        x.unit(1);
        x.use(0, 0, 0);
        x.use(1, 0, 0);
        x.use(0, 1, 0);
        x.use(1, 1, 0);
        x.wish(0, 1, 0, 0);
        x.wish(1, 1, 0, 0);
        x.fix(0, 0, 1);
        due("blame(): one fixed, the other goes elsewhere", x.blame(), 0);
        x.fix(1, 0, 1);
        due("blame(): both fixed on one foot", x.blame(), 3);
    }

    private static void blameOfPairs() {
        // WISHES 0 and 3 want the one UNIT of KIND 0, 1 and 2 that of KIND 1: 0 and 3 come first, though their bits are more.
        FootBook x = new FootBook();
        for (int kind = 0; kind < 2; kind++) {
            x.unit(kind);
            x.use(kind, kind, 0);
        }
        x.wish(0, 1, 0, 0);
        x.wish(1, 1, 0, 0);
        x.wish(1, 1, 0, 0);
        due("blame(): wishes 1 and 2", x.blame(), 6);
        x.wish(0, 1, 0, 0);
        due("blame(): wishes 0 and 3 ahead of 1 and 2", x.blame(), 9);
        x.drop();
        x.wish(1, 1, 0, 0);
        due("blame(): 1 and 2 ahead of 1 and 3 and 2 and 3", x.blame(), 6);
        x = new FootBook();
        x.unit(0);
        x.unit(0);
        x.unit(1);
        x.use(0, 0, 0);
        x.use(1, 1, 0);
        x.use(2, 2, 0);
        int[] kinds = {0, 1, 0, 0};
        for (int kind : kinds) {
            x.wish(kind, 1, 0, 0);
        }
        due("blame(): wishes 0, 2 and 3", x.blame(), 13);
    }

    private static void promise16Many() {
        due("many() without wishes", new FootBook().many(), 1);
        FootBook x = smallOne();
        due("many()", x.many(), 2);
        x.wish(1, 5, 0, 0);
        due("many(): the other unit can do it in one way", x.many(), 2);
        x.use(2, 1, 0);
        due("many(): foot 2 is taken", x.many(), 2);
        x.use(5, 1, 0);
        due("many(): foot 5 is not", x.many(), 4);
        x.wish(0, 1, 0, 0);
        due("many(): none", x.many(), 0);
        manyOnTheSameFeet(1);
        manyOnTheSameFeet(2);
        manyOnTheSameFeet(15);
        x = oneFootEach(6);
        for (int i = 0; i < 4; i++) {
            x.wish(0, 1, 0, i);
        }
        due("many(): units in order", x.many(), 6 * 5 * 4 * 3);
        x = new FootBook();
        x.feet(16);
        for (int unit = 0; unit < 6; unit++) {
            x.unit(0);
            for (int i = 0; i < 5; i++) {
                x.use((unit * 5 + i) % 16, unit, 0);
            }
        }
        for (int i = 0; i < 4; i++) {
            x.wish(0, 1, 0, 0);
        }
        due("many(): no more than 100000", x.many(), 100000);
    }

    /** Two UNITS of unlike KINDS that can both do ROLE 0 on the same FEET. */
    private static void manyOnTheSameFeet(int feet) {
        FootBook x = new FootBook();
        x.feet(16);
        for (int unit = 0; unit < 2; unit++) {
            x.unit(unit);
            for (int foot = 0; foot < feet; foot++) {
                x.use(foot, unit, 0);
            }
        }
        x.wish(0, 1, 0, 0);
        x.wish(1, 1, 0, 0);
        due("many(): two of " + feet + " feet, unlike", x.many(), feet * (feet - 1));
    }

    private static void promise17Trial() {
        FootBook x = smallOne();
        due("trial(1, 1, 0, 0)", x.trial(1, 1, 0, 0), 1 + 3);
        due("trial: it is not kept", x.told(3), 1);
        due("trial: best() stays", x.best(), 1);
        due("trial: given(0, 0) stays", x.given(0, 0), 1);
        due("trial: given(1, -1) stays", x.given(1, -1), UNKNOWN);
        due("trial(0, 1, 0, 0), the unit is given", x.trial(0, 1, 0, 0), NONE);
        due("trial(1, 1, 2, 0), no such voltage", x.trial(1, 1, 2, 0), NONE);
        due("trial(1, 5, 1, 3)", x.trial(1, 5, 1, 3), 1 + 0 + 1);
        due("trial: held(1, -1) stays", x.held(1, -1), NONE);
        FootBook one = new FootBook();
        one.unit(0);
        one.use(3, 0, 0);
        due("trial(0, 1, 0, 0) of the first wish", one.trial(0, 1, 0, 0), 3);
        due("trial: wished(0, 0)", one.wished(0, 0), UNKNOWN);
        FootBook moved = new FootBook();
        moved.unit(0);
        moved.unit(1);
        moved.use(0, 0, 0);
        moved.use(1, 0, 0);
        moved.use(0, 1, 0);
        moved.wish(0, 1, 0, 0);
        due("trial(1, 1, 0, 0) moves wish 0", moved.trial(1, 1, 0, 0), 1);
        due("trial: given(0, 0) is not moved", moved.given(0, 0), 0);
        moved.wish(1, 1, 0, 0);
        moved.fix(1, 0, 0);
        moved.drop();
        due("trial: what was fixed is gone", moved.trial(1, 1, 0, 0), 1);
        FootBook none = smallOne();
        none.wish(2, 1, 0, 0);
        due("trial(1, 1, 0, 0), none even without it", none.trial(1, 1, 0, 0), NONE);
        wishRefusals("trial", (b, w) -> b.trial(w[0], w[1], w[2], w[3]));
    }

    private static void impossible(FootBook x) {
        small(x);
        x.wish(2, 1, 0, 0);
    }

    private static void impossibleAndNothingHeld(FootBook x) {
        x.wish(2, 1, 0, 0);
    }

    private static void promise18Hold() {
        FootBook x = new FootBook();
        due("hold() without wishes", x.hold(), 1);
        due("hold: stands(), a giving of none", x.stands(), 1);
        due("hold: told(4), none given", x.told(4), 0);
        due("hold: change(), none to none", x.change(), 0);
        x = smallOne();
        x.wish(1, 4, 0, 0);
        due("hold: not yet", x.held(1, 2), NONE);
        due("hold()", x.hold(), 1);
        due("hold: held(1, -1)", x.held(1, -1), 1);
        due("hold: held(1, 2)", x.held(1, 2), 4);
        due("hold: told(4)", x.told(4), 2);
        x.drop();
        due("hold() of fewer", x.hold(), 1);
        due("hold: held(1, -1) of fewer", x.held(1, -1), NONE);
        due("hold: held(1, 2) of fewer", x.held(1, 2), NONE);
        refused("hold(), no giving", FootBookPromises::impossible, b -> b.hold(), STATE);
        refused("hold(), no giving, nothing held", FootBookPromises::impossibleAndNothingHeld, b -> b.hold(), STATE);
    }

    /** UNIT 0 on FEET 0 and 1, UNIT 1 on 2 and 3, for ROLES 0 and 1; all of KIND 0; WISH 0 held on UNIT 1. */
    private static FootBook heldOnUnit1() {
        FootBook x = new FootBook();
        x.unit(0);
        x.unit(0);
        x.use(2, 1, 0);
        x.use(3, 1, 1);
        x.wish(0, 3, 0, 0);
        x.hold();
        x.use(0, 0, 0);
        x.use(1, 0, 1);
        return x;
    }

    private static void promise19Change() {
        FootBook x = heldOnUnit1();
        due("change: best() would move", x.best(), 1);
        due("change(), nothing need move", x.change(), 0);
        due("change: held(0, -1) stays", x.held(0, -1), 1);
        due("change: given(0, -1)", x.given(0, -1), 0);
        x.fix(0, 0, 0);
        due("change(), both roles move with the unit", x.change(), 2);
        due("change: held(0, -1)", x.held(0, -1), 0);
        due("change: held(0, 1)", x.held(0, 1), 1);
        x.use(5, 0, 1);
        x.use(7, 0, 1);
        x.fix(0, 1, 5);
        due("change(), one role moves", x.change(), 1);
        x.fix(0, 1, -1);
        x.volt(5, 2);
        x.drop();
        x.wish(0, 3, 1, 0);
        due("change(), a foot of another voltage; the cheapest of the rest", x.change(), 1);
        due("change: held(0, 1), the first of the cheapest", x.held(0, 1), 1);
        changeOfWishes();
        changeOfRoles();
        refused("change(), nothing held", FootBookPromises::nothing, b -> b.change(), STATE);
        refused("change(), no giving", FootBookPromises::impossible, b -> b.change(), STATE);
        refused("change(), neither", FootBookPromises::impossibleAndNothingHeld, b -> b.change(), STATE);
    }

    private static void changeOfWishes() {
        FootBook x = heldOnUnit1();
        x.wish(0, 1, 0, 2);
        due("change(), a new wish does not move", x.change(), 0);
        due("change: told(4)", x.told(4), 2);
        due("change: held(1, 0), the new wish", x.held(1, 0), 0);
        x.drop();
        due("change(), a wish that went does not move", x.change(), 0);
        due("change: told(4) of fewer", x.told(4), 1);
        due("change: held(1, 0) of fewer", x.held(1, 0), NONE);
        x.drop();
        due("change(), no wish at all", x.change(), 0);
        due("change: told(4), no wish at all", x.told(4), 0);
        due("change: held(0, -1), no wish at all", x.held(0, -1), NONE);
        due("change: stands(), no wish at all", x.stands(), 1);
        x.wish(0, 3, 0, 0);
        due("change(), as new as can be", x.change(), 0);
        due("change: the best, as nothing was given", x.held(0, -1), 0);
    }

    private static void changeOfRoles() {
        FootBook x = new FootBook();
        x.unit(0);
        x.use(3, 0, 0);
        x.use(4, 0, 1);
        x.use(5, 0, 2);
        x.wish(0, 1, 0, 0);
        x.hold();
        x.drop();
        x.wish(0, 7, 0, 0);
        due("change(), two roles that the hand has not", x.change(), 2);
        x.drop();
        x.wish(0, 2, 0, 0);
        due("change(), roles that are wished no more", x.change(), 0);
        due("change: held(0, 0), wished no more", x.held(0, 0), NONE);
        due("change: held(0, 1)", x.held(0, 1), 4);
        FootBook y = new FootBook();
        y.unit(0);
        y.use(1, 0, 0);
        y.wish(0, 1, 0, 0);
        y.hold();
        y.use(7, 0, 0);
        y.use(2, 0, 0);
        y.volt(1, 2);
        y.drop();
        y.wish(0, 1, 1, 0);
        due("change(), fewest moves alike", y.change(), 1);
        due("change: then the least cost", y.held(0, 0), 7);
        FootBook z = new FootBook();
        z.unit(0);
        z.use(4, 0, 0);
        z.wish(0, 1, 0, 0);
        z.hold();
        z.use(1, 0, 0);
        z.use(7, 0, 0);
        z.volt(4, 2);
        z.drop();
        z.wish(0, 1, 1, 0);
        due("change(), moves and cost alike", z.change(), 1);
        due("change: then the first", z.held(0, 0), 1);
    }

    private static void promise20Held() {
        FootBook x = smallOne();
        due("held(0, -1)", x.held(0, -1), 0);
        due("held(0, 0)", x.held(0, 0), 1);
        due("held(0, 1)", x.held(0, 1), 2);
        due("held(0, 2), not given", x.held(0, 2), NONE);
        due("held(0, 3), not given", x.held(0, 3), NONE);
        for (int wish = 1; wish < 4; wish++) {
            due("held(" + wish + ", -1), no such wish", x.held(wish, -1), NONE);
            due("held(" + wish + ", 0), no such wish", x.held(wish, 0), NONE);
        }
        x.wish(1, 1, 0, 0);
        due("held(1, -1), wished but not held", x.held(1, -1), NONE);
        x.drop();
        x.drop();
        due("held(0, -1), dropped but held", x.held(0, -1), 0);
        due("held(0, 1), dropped but held", x.held(0, 1), 2);
        for (int bad : new int[] {-1, 4, LOWEST, HIGHEST}) {
            refused("held(" + bad + ", -1)", FootBookPromises::small, b -> b.held(bad, -1), UNKNOWN);
            refused("held(" + bad + ", 4)", FootBookPromises::small, b -> b.held(bad, 4), UNKNOWN);
        }
        for (int bad : new int[] {-2, 4, LOWEST, HIGHEST}) {
            refused("held(0, " + bad + ")", FootBookPromises::small, b -> b.held(0, bad), OUTSIDE);
            refused("held(3, " + bad + "), nothing held", FootBookPromises::nothing, b -> b.held(3, bad), OUTSIDE);
        }
    }

    private static void promise21Setting() {
        FootBook x = new FootBook();
        x.feet(16);
        for (int unit = 0; unit < 6; unit++) {
            x.unit(unit == 5 ? 1 : 0);
        }
        x.use(15, 5, 3);
        x.use(9, 5, 0);
        x.use(0, 4, 2);
        x.wish(1, 9, 0, 0);
        x.wish(0, 4, 0, 0);
        due("setting(-1), nothing held", x.setting(-1), 0);
        due("setting(0), nothing held", x.setting(0), NONE);
        x.hold();
        due("setting(-1)", x.setting(-1), 3);
        due("setting(0)", x.setting(0), 42);
        due("setting(1)", x.setting(1), 950);
        due("setting(2)", x.setting(2), 1553);
        for (int i : new int[] {3, 4, 16, -2, -3, NONE, LOWEST, HIGHEST}) {
            due("setting(" + i + ")", x.setting(i), NONE);
        }
        x.drop();
        x.drop();
        due("setting(-1) of the hand, though wishes went", x.setting(-1), 3);
        x.change();
        due("setting(-1), none given", x.setting(-1), 0);
        sixteenSettings();
    }

    private static void sixteenSettings() {
        FootBook x = new FootBook();
        x.feet(16);
        for (int unit = 0; unit < 4; unit++) {
            x.unit(3 - unit);
            for (int role = 0; role < 4; role++) {
                x.use(unit * 4 + role, unit, role);
            }
        }
        for (int wish = 0; wish < 4; wish++) {
            x.wish(wish, 15, 1, 0);
        }
        due("best(), every foot", x.best(), 64);
        x.hold();
        due("setting(-1), every foot", x.setting(-1), 16);
        for (int foot = 0; foot < 16; foot++) {
            due("setting(" + foot + ")", x.setting(foot), 100 * foot + 10 * (foot / 4) + foot % 4);
        }
    }

    private static void promise22Stands() {
        FootBook x = new FootBook();
        due("stands(), nothing held, nothing wished", x.stands(), 0);
        x = smallOne();
        due("stands()", x.stands(), 1);
        x.volt(1, 2);
        due("stands(), whatever voltage", x.stands(), 1);
        x.use(1, 0, 1);
        due("stands(), though another is the best", x.stands(), 1);
        x.fix(0, 0, 1);
        due("stands(), fixed where it is", x.stands(), 1);
        x.fix(0, 0, 0);
        due("stands(), fixed elsewhere", x.stands(), 0);
        x.fix(0, 0, -1);
        due("stands(), free again", x.stands(), 1);
        x.wish(1, 1, 0, 0);
        due("stands(), a wish more", x.stands(), 0);
        x.drop();
        due("stands(), a wish more went", x.stands(), 1);
        x.drop();
        due("stands(), a wish less", x.stands(), 0);
        standsAnew("the same", 0, 3, 0, 5, 1);
        standsAnew("another kind", 1, 3, 0, 1, 0);
        standsAnew("a role more", 0, 7, 0, 1, 0);
        standsAnew("a role less", 0, 1, 0, 1, 0);
        standsAnew("another role", 0, 5, 0, 1, 0);
        standsAnew("another voltage", 0, 3, 1, 1, 0);
        x = new FootBook();
        x.unit(0);
        x.use(0, 0, 0);
        x.wish(0, 1, 2, 0);
        x.volt(0, 2);
        x.hold();
        due("stands(), the told voltage", x.stands(), 1);
        x.volt(0, 3);
        due("stands(), the foot's voltage is another", x.stands(), 0);
    }

    /** The held WISH goes and another comes. */
    private static void standsAnew(String what, int kind, int roles, int volt, int place, int want) {
        FootBook x = smallOne();
        x.drop();
        x.wish(kind, roles, volt, place);
        due("stands(), " + what, x.stands(), want);
    }

    private static void promise23Told() {
        FootBook x = smallOne();
        x.wish(1, 1, 0, 0);
        x.wish(1, 1, 0, 0);
        int[] want = {8, 2, 5, 3, 1};
        for (int what = 0; what < 5; what++) {
            due("told(" + what + ")", x.told(what), want[what]);
        }
        x.drop();
        x.drop();
        x.drop();
        due("told(3), all dropped", x.told(3), 0);
        due("told(4), all dropped", x.told(4), 1);
        for (int bad : new int[] {-1, 5, LOWEST, HIGHEST}) {
            refused("told(" + bad + ")", FootBookPromises::small, b -> b.told(bad), OUTSIDE);
        }
    }
}
