import java.util.function.Consumer;

/** What the tests share: the call by its name, the answer that is due, and what a refused call may not change. */
abstract class Check {
    static final int NONE = -6, UNKNOWN = -1, OUTSIDE = -2, STATE = -3, FULL = -4, NO = -5;
    static final int LOWEST = Integer.MIN_VALUE, HIGHEST = Integer.MAX_VALUE;

    /** Outside every bound; a product, a shift or a narrowing that wraps round would bring most of them within one. */
    private static final int[] FAR = {LOWEST, LOWEST + 1, LOWEST + 9, -65536, -256, -32, -16, -8, NONE, 32, 33, 64, 256,
        65536, 1 << 30, (1 << 30) + 1, 0x55555556, HIGHEST - 1, HIGHEST};

    private static String sentence = "";
    private static int asked = 0;
    private static int wrong = 0;

    /** The test of one sentence of the document; its words are told where it fails. */
    static void sentence(String words, Runnable test) {
        sentence = words;
        int before = asked;
        test.run();
        if (asked == before) {
            fail("nothing is asked");
        }
    }

    static void end() {
        System.out.println(asked + " answers asked, " + wrong + " not as due");
        if (wrong != 0) {
            System.exit(1);
        }
    }

    private static void fail(String what) {
        wrong++;
        System.out.println("[" + sentence + "] " + what);
    }

    static void due(String what, int got, int want) {
        asked++;
        if (got != want) {
            fail(what + " answered " + got + ", due is " + want);
        }
    }

    /** The call answers what is due. */
    static void due(FootBook x, int want, String name, int... with) {
        due(text(name, with), call(x, name, with), want);
    }

    /** On a new book that was readied: the call is refused so, and all that can be read stays as it was. */
    static void refused(Consumer<FootBook> ready, int want, String name, int... with) {
        FootBook untouched = readied(ready);
        FootBook touched = readied(ready);
        due(touched, want, name, with);
        same(text(name, with) + " was refused", allThatCanBeRead(untouched), allThatCanBeRead(touched));
    }

    static void same(String what, String before, String after) {
        asked++;
        if (!before.equals(after)) {
            fail(what + ", but changed\n  " + before + "\nto\n  " + after);
        }
    }

    /** On a new book that was readied: the call is not refused. */
    static void taken(Consumer<FootBook> ready, String name, int... with) {
        asked++;
        int got = call(readied(ready), name, with);
        if (got < 0 && got != NONE) {
            fail(text(name, with) + " was refused by " + got);
        }
    }

    /** The number at this place of the call may be from the least to the most; all else is refused so. */
    static void bounds(Consumer<FootBook> ready, int refusal, int least, int most, String name, int at, int... with) {
        for (int n = least; n <= most; n++) {
            taken(ready, name, put(with, at, n));
        }
        refused(ready, refusal, name, put(with, at, least - 1));
        refused(ready, refusal, name, put(with, at, most + 1));
        for (int far : FAR) {
            refused(ready, refusal, name, put(with, at, far));
        }
    }

    private static int[] put(int[] with, int at, int n) {
        int[] other = with.clone();
        other[at] = n;
        return other;
    }

    static FootBook readied(Consumer<FootBook> ready) {
        FootBook x = new FootBook();
        ready.accept(x);
        return x;
    }

    private static String text(String name, int[] with) {
        StringBuilder text = new StringBuilder(name).append('(');
        for (int i = 0; i < with.length; i++) {
            text.append(i == 0 ? "" : ", ").append(with[i]);
        }
        return text.append(')').toString();
    }

    private static int call(FootBook x, String name, int[] a) {
        return switch (name) {
            case "feet" -> x.feet(a[0]);
            case "volt" -> x.volt(a[0], a[1]);
            case "unit" -> x.unit(a[0]);
            case "kind" -> x.kind(a[0]);
            case "use" -> x.use(a[0], a[1], a[2]);
            case "about" -> x.about(a[0], a[1]);
            case "wish" -> x.wish(a[0], a[1], a[2], a[3]);
            case "wished" -> x.wished(a[0], a[1]);
            case "fix" -> x.fix(a[0], a[1], a[2]);
            case "drop" -> x.drop();
            case "best" -> x.best();
            case "given" -> x.given(a[0], a[1]);
            case "crossings" -> x.crossings();
            case "blame" -> x.blame();
            case "many" -> x.many();
            case "trial" -> x.trial(a[0], a[1], a[2], a[3]);
            case "hold" -> x.hold();
            case "change" -> x.change();
            case "held" -> x.held(a[0], a[1]);
            case "setting" -> x.setting(a[0]);
            case "stands" -> x.stands();
            case "told" -> x.told(a[0]);
            default -> throw new IllegalArgumentException(name);
        };
    }

    /** Leaves the book as it is. */
    static String allThatCanBeRead(FootBook x) {
        StringBuilder all = new StringBuilder();
        read(all, x, "told", 0, 4);
        read(all, x, "kind", 0, 5);
        for (int use = 0; use < x.told(2); use++) {
            readOf(all, x, "about", use, 0, 2);
        }
        for (int wish = 0; wish < 4; wish++) {
            readOf(all, x, "wished", wish, 0, 3);
            readOf(all, x, "wished", wish, 10, 13);
            readOf(all, x, "given", wish, -1, 3);
            readOf(all, x, "held", wish, -1, 3);
        }
        read(all, x, "setting", -1, 16);
        all.append(" best ").append(x.best()).append(" crossings ").append(x.crossings());
        all.append(" blame ").append(x.blame()).append(" many ").append(x.many()).append(" stands ").append(x.stands());
        all.append(" volts");
        for (int foot = 0; foot < x.told(0); foot++) {
            int volt = x.volt(foot, 1);
            x.volt(foot, volt);
            all.append(' ').append(volt);
        }
        return all.toString();
    }

    private static void read(StringBuilder all, FootBook x, String name, int from, int to) {
        all.append(' ').append(name);
        for (int n = from; n <= to; n++) {
            all.append(' ').append(call(x, name, new int[] {n}));
        }
    }

    private static void readOf(StringBuilder all, FootBook x, String name, int of, int from, int to) {
        all.append(' ').append(name).append(of);
        for (int n = from; n <= to; n++) {
            all.append(' ').append(call(x, name, new int[] {of, n}));
        }
    }

    // ---- books that several tests begin with

    static void nothing(FootBook x) {
    }

    /** 8 FEET; UNIT 0 of KIND 0 on FEET 0, 1 and 2, UNIT 1 of KIND 1 on 3 and 4; one WISH, held. */
    static void small(FootBook x) {
        x.volt(2, 3);
        x.unit(0);
        x.unit(1);
        x.use(0, 0, 0);
        x.use(1, 0, 0);
        x.use(2, 0, 1);
        x.use(3, 1, 0);
        x.use(4, 1, 2);
        x.wish(0, 3, 0, 1);
        x.hold();
    }

    /** As small, and there is no GIVING any more. */
    static void impossible(FootBook x) {
        small(x);
        x.wish(2, 1, 0, 0);
    }

    static void impossibleAndNothingHeld(FootBook x) {
        x.wish(2, 1, 0, 0);
    }

    static void sixUnits(FootBook x) {
        for (int unit = 0; unit < 6; unit++) {
            x.unit(unit % 4);
        }
    }

    /** 16 FEET of all VOLTAGES, 6 UNITS, 30 USES, 4 WISHES; what is held stands no more: one is FIXED elsewhere. */
    static void full(FootBook x) {
        x.feet(16);
        for (int foot = 0; foot < 16; foot++) {
            x.volt(foot, 1 + foot / 4);
        }
        for (int unit = 0; unit < 6; unit++) {
            x.unit(unit % 4);
        }
        for (int use = 0; use < 30; use++) {
            x.use((use * 5 + use / 16) % 16, use % 6, use / 6 % 4);
        }
        for (int wish = 0; wish < 4; wish++) {
            x.wish(wish, 3, 0, 15 - 4 * wish);
        }
        x.hold();
        x.fix(1, 0, 5);
        x.fix(3, 1, 13);
    }

    /** 16 FEET, four UNITS of these KINDS; each can do its ROLES on four FEET in a row, from 4 times its number. */
    static FootBook everyFoot(int... kinds) {
        FootBook x = new FootBook();
        x.feet(16);
        for (int unit = 0; unit < 4; unit++) {
            x.unit(kinds[unit]);
            for (int role = 0; role < 4; role++) {
                x.use(4 * unit + role, unit, role);
            }
        }
        return x;
    }

    /** So many UNITS of KIND 0, each of which can do ROLE 0 on one FOOT, its own number. */
    static FootBook oneFootEach(int units) {
        FootBook x = new FootBook();
        for (int unit = 0; unit < units; unit++) {
            x.unit(0);
            x.use(unit, unit, 0);
        }
        return x;
    }
}
