import java.util.ArrayList;
import java.util.Arrays;
import java.util.List;
import java.util.Random;

/**
 * Random runs of calls (always the same ones), each answer held against a plain book that makes every GIVING,
 * one by one, and picks by the document's words.
 */
public final class FootBookAgainstPlain {
    private static final int NONE = -6, UNKNOWN = -1, OUTSIDE = -2, STATE = -3, FULL = -4, NO = -5;
    private static final int RUNS = 1000;
    private static final int CALLS = 500;
    private static final int FULL_RUNS = 40;

    private static int wrong = 0;

    public static void main(String[] args) {
        long asked = 0;
        for (int run = 0; run < RUNS && wrong < 20; run++) {
            asked += new Run(run).go();
        }
        for (int run = 0; run < FULL_RUNS && wrong < 20; run++) {
            asked += new Run(RUNS + run).goFull(1 + run % 4);
        }
        System.out.println(asked + " answers asked, " + wrong + " not as due");
        if (wrong != 0) {
            System.exit(1);
        }
    }

    /** A GIVING: of each WISH the UNIT, then the FEET of ROLES 0 to 3 (NONE, where not wished). */
    private record Giving(int[][] rows) {
        boolean isAhead(Giving other) {
            for (int i = 0; i < rows.length; i++) {
                int order = Arrays.compare(rows[i], other.rows[i]);
                if (order != 0) {
                    return order < 0;
                }
            }
            return false;
        }
    }

    private record Wish(int kind, int roles, int volt, int place, int[] fixed) {
        boolean wants(int role) {
            return role >= 0 && role <= 3 && (roles & 1 << role) != 0;
        }
    }

    private static final class Plain {
        private int[] volts = newVolts(8);
        private final List<Integer> kinds = new ArrayList<>();
        private final List<int[]> uses = new ArrayList<>();
        private final List<Wish> wishes = new ArrayList<>();
        private Giving hand = null;

        private static int[] newVolts(int n) {
            int[] volts = new int[n];
            Arrays.fill(volts, 1);
            return volts;
        }

        private boolean noFoot(int foot) {
            return foot < 0 || foot >= volts.length;
        }

        private boolean noUnit(int unit) {
            return unit < 0 || unit >= kinds.size();
        }

        private boolean noWish(int wish) {
            return wish < 0 || wish >= wishes.size();
        }

        private boolean hasUse(int foot, int unit, int role) {
            for (int[] use : uses) {
                if (use[0] == foot && use[1] == unit && use[2] == role) {
                    return true;
                }
            }
            return false;
        }

        int feet(int n) {
            if (n < 4 || n > 16) {
                return OUTSIDE;
            }
            int before = volts.length;
            volts = newVolts(n);
            kinds.clear();
            uses.clear();
            wishes.clear();
            hand = null;
            return before;
        }

        int volt(int foot, int v) {
            if (noFoot(foot)) {
                return UNKNOWN;
            }
            if (v < 1 || v > 4) {
                return OUTSIDE;
            }
            int before = volts[foot];
            volts[foot] = v;
            return before;
        }

        int unit(int kind) {
            if (kind < 0 || kind > 3) {
                return OUTSIDE;
            }
            if (kinds.size() == 6) {
                return FULL;
            }
            kinds.add(kind);
            return kinds.size() - 1;
        }

        int kind(int unit) {
            return noUnit(unit) ? UNKNOWN : kinds.get(unit);
        }

        int use(int foot, int unit, int role) {
            if (noFoot(foot) || noUnit(unit)) {
                return UNKNOWN;
            }
            if (role < 0 || role > 3) {
                return OUTSIDE;
            }
            if (uses.size() == 30) {
                return FULL;
            }
            if (hasUse(foot, unit, role)) {
                return NO;
            }
            uses.add(new int[] {foot, unit, role});
            return uses.size() - 1;
        }

        int about(int use, int what) {
            if (use < 0 || use >= uses.size()) {
                return UNKNOWN;
            }
            return what < 0 || what > 2 ? OUTSIDE : uses.get(use)[what];
        }

        private int refusal(int kind, int roles, int volt, int place) {
            if (noFoot(place)) {
                return UNKNOWN;
            }
            if (kind < 0 || kind > 3 || roles < 1 || roles > 15 || volt < 0 || volt > 4) {
                return OUTSIDE;
            }
            return wishes.size() == 4 ? FULL : 0;
        }

        private static Wish newWish(int kind, int roles, int volt, int place) {
            return new Wish(kind, roles, volt, place, new int[] {NONE, NONE, NONE, NONE});
        }

        int wish(int kind, int roles, int volt, int place) {
            int refusal = refusal(kind, roles, volt, place);
            if (refusal != 0) {
                return refusal;
            }
            wishes.add(newWish(kind, roles, volt, place));
            return wishes.size() - 1;
        }

        int wished(int number, int what) {
            if (noWish(number)) {
                return UNKNOWN;
            }
            Wish wish = wishes.get(number);
            return switch (what) {
                case 0 -> wish.kind;
                case 1 -> wish.roles;
                case 2 -> wish.volt;
                case 3 -> wish.place;
                case 10, 11, 12, 13 -> wish.fixed[what - 10];
                default -> OUTSIDE;
            };
        }

        int fix(int number, int role, int foot) {
            if (noWish(number) || (foot != -1 && noFoot(foot))) {
                return UNKNOWN;
            }
            Wish wish = wishes.get(number);
            if (!wish.wants(role)) {
                return OUTSIDE;
            }
            int before = wish.fixed[role];
            wish.fixed[role] = foot == -1 ? NONE : foot;
            return before;
        }

        int drop() {
            if (wishes.isEmpty()) {
                return UNKNOWN;
            }
            wishes.remove(wishes.size() - 1);
            return wishes.size();
        }

        /** Every GIVING of these WISHES, in no order that matters. */
        private List<Giving> givings(List<Wish> some) {
            List<Giving> all = new ArrayList<>();
            int[][] rows = new int[some.size()][];
            extend(some, 0, 0, rows, all);
            return all;
        }

        /** Goes from the greatest down, so that the order of making helps no pick. */
        private void extend(List<Wish> some, int at, int role, int[][] rows, List<Giving> all) {
            if (at == some.size()) {
                int[][] copy = new int[rows.length][];
                for (int i = 0; i < rows.length; i++) {
                    copy[i] = rows[i].clone();
                }
                all.add(new Giving(copy));
                return;
            }
            Wish wish = some.get(at);
            if (role == 0 && rows[at] == null) {
                for (int unit = kinds.size() - 1; unit >= 0; unit--) {
                    if (kinds.get(unit) == wish.kind && isFreeUnit(rows, at, unit)) {
                        rows[at] = new int[] {unit, NONE, NONE, NONE, NONE};
                        extend(some, at, 0, rows, all);
                        rows[at] = null;
                    }
                }
            } else if (role == 4) {
                extend(some, at + 1, 0, rows, all);
            } else if (!wish.wants(role)) {
                extend(some, at, role + 1, rows, all);
            } else {
                for (int use = uses.size() - 1; use >= 0; use--) {
                    int foot = uses.get(use)[0];
                    if (uses.get(use)[1] == rows[at][0] && uses.get(use)[2] == role && suits(wish, role, foot)
                            && isFreeFoot(rows, at, foot)) {
                        rows[at][1 + role] = foot;
                        extend(some, at, role + 1, rows, all);
                        rows[at][1 + role] = NONE;
                    }
                }
            }
        }

        private boolean suits(Wish wish, int role, int foot) {
            return (wish.volt == 0 || wish.volt == volts[foot])
                    && (wish.fixed[role] == NONE || wish.fixed[role] == foot);
        }

        private static boolean isFreeUnit(int[][] rows, int upTo, int unit) {
            for (int i = 0; i < upTo; i++) {
                if (rows[i][0] == unit) {
                    return false;
                }
            }
            return true;
        }

        private static boolean isFreeFoot(int[][] rows, int upTo, int foot) {
            for (int i = 0; i <= upTo; i++) {
                for (int role = 0; role < 4; role++) {
                    if (rows[i][1 + role] == foot) {
                        return false;
                    }
                }
            }
            return true;
        }

        /** Walks both ways round until it is there. */
        private int steps(int from, int to) {
            int up = from;
            int down = from;
            int steps = 0;
            while (up != to && down != to) {
                up = (up + 1) % volts.length;
                down = (down + volts.length - 1) % volts.length;
                steps++;
            }
            return steps;
        }

        private int cost(Giving giving, List<Wish> some) {
            int cost = 0;
            for (int i = 0; i < some.size(); i++) {
                for (int role = 0; role < 4; role++) {
                    if (some.get(i).wants(role)) {
                        cost += steps(some.get(i).place, giving.rows[i][1 + role]);
                    }
                }
            }
            return cost;
        }

        private int moves(Giving to) {
            int moves = 0;
            for (int i = 0; i < Math.min(hand.rows.length, wishes.size()); i++) {
                for (int role = 0; role < 4; role++) {
                    if (wishes.get(i).wants(role) && (hand.rows[i][0] != to.rows[i][0]
                            || hand.rows[i][1 + role] != to.rows[i][1 + role])) {
                        moves++;
                    }
                }
            }
            return moves;
        }

        private Giving bestOf(List<Wish> some) {
            Giving best = null;
            for (Giving giving : givings(some)) {
                if (best == null || cost(giving, some) < cost(best, some)
                        || cost(giving, some) == cost(best, some) && giving.isAhead(best)) {
                    best = giving;
                }
            }
            return best;
        }

        int best() {
            Giving best = bestOf(wishes);
            return best == null ? NONE : cost(best, wishes);
        }

        int given(int wish, int role) {
            if (noWish(wish)) {
                return UNKNOWN;
            }
            if (role != -1 && !wishes.get(wish).wants(role)) {
                return OUTSIDE;
            }
            Giving best = bestOf(wishes);
            return best == null ? NONE : best.rows[wish][1 + role];
        }

        int crossings() {
            Giving best = bestOf(wishes);
            if (best == null) {
                return NONE;
            }
            List<int[]> wires = new ArrayList<>();
            for (int i = 0; i < wishes.size(); i++) {
                for (int role = 0; role < 4; role++) {
                    if (wishes.get(i).wants(role)) {
                        wires.add(new int[] {wishes.get(i).place, best.rows[i][1 + role]});
                    }
                }
            }
            int crossings = 0;
            for (int i = 0; i < wires.size(); i++) {
                for (int j = i + 1; j < wires.size(); j++) {
                    crossings += cross(wires.get(i), wires.get(j)) ? 1 : 0;
                }
            }
            return crossings;
        }

        private static boolean cross(int[] one, int[] other) {
            if (Arrays.stream(new int[] {one[0], one[1], other[0], other[1]}).distinct().count() < 4) {
                return false;
            }
            int between = 0;
            for (int at = Math.min(one[0], one[1]) + 1; at < Math.max(one[0], one[1]); at++) {
                between += at == other[0] || at == other[1] ? 1 : 0;
            }
            return between == 1;
        }

        int blame() {
            int[] blamed = null;
            for (int set = 1; set < 1 << wishes.size(); set++) {
                List<Wish> some = new ArrayList<>();
                int[] numbers = new int[Integer.bitCount(set)];
                for (int i = 0; i < wishes.size(); i++) {
                    if ((set & 1 << i) != 0) {
                        numbers[some.size()] = i;
                        some.add(wishes.get(i));
                    }
                }
                boolean lesser = blamed == null || numbers.length < blamed.length
                        || numbers.length == blamed.length && Arrays.compare(numbers, blamed) < 0;
                if (lesser && givings(some).isEmpty()) {
                    blamed = numbers;
                }
            }
            int bits = 0;
            for (int i = 0; blamed != null && i < blamed.length; i++) {
                bits += 1 << blamed[i];
            }
            return bits;
        }

        int many() {
            return Math.min(100000, givings(wishes).size());
        }

        int trial(int kind, int roles, int volt, int place) {
            int refusal = refusal(kind, roles, volt, place);
            if (refusal != 0) {
                return refusal;
            }
            List<Wish> more = new ArrayList<>(wishes);
            more.add(newWish(kind, roles, volt, place));
            Giving best = bestOf(more);
            return best == null ? NONE : cost(best, more);
        }

        int hold() {
            Giving best = bestOf(wishes);
            if (best == null) {
                return STATE;
            }
            hand = best;
            return 1;
        }

        int change() {
            if (hand == null) {
                return STATE;
            }
            Giving pick = null;
            int pickMoves = 0;
            int pickCost = 0;
            for (Giving giving : givings(wishes)) {
                int moves = moves(giving);
                int cost = cost(giving, wishes);
                if (pick == null || moves < pickMoves || moves == pickMoves
                        && (cost < pickCost || cost == pickCost && giving.isAhead(pick))) {
                    pick = giving;
                    pickMoves = moves;
                    pickCost = cost;
                }
            }
            if (pick == null) {
                return STATE;
            }
            hand = pick;
            return pickMoves;
        }

        int held(int wish, int role) {
            if (wish < 0 || wish > 3) {
                return UNKNOWN;
            }
            if (role < -1 || role > 3) {
                return OUTSIDE;
            }
            return hand == null || wish >= hand.rows.length ? NONE : hand.rows[wish][1 + role];
        }

        int setting(int i) {
            List<Integer> settings = new ArrayList<>();
            for (int[] row : hand == null ? new int[0][] : hand.rows) {
                for (int role = 0; role < 4; role++) {
                    if (row[1 + role] != NONE) {
                        settings.add(100 * row[1 + role] + 10 * row[0] + role);
                    }
                }
            }
            settings.sort(null);
            if (i == -1) {
                return settings.size();
            }
            return i < 0 || i >= settings.size() ? NONE : settings.get(i);
        }

        int stands() {
            if (hand == null) {
                return 0;
            }
            for (Giving giving : givings(wishes)) {
                if (Arrays.deepEquals(giving.rows, hand.rows)) {
                    return 1;
                }
            }
            return 0;
        }

        int told(int what) {
            return switch (what) {
                case 0 -> volts.length;
                case 1 -> kinds.size();
                case 2 -> uses.size();
                case 3 -> wishes.size();
                case 4 -> hand == null ? 0 : hand.rows.length;
                default -> OUTSIDE;
            };
        }
    }

    /** One run: a book that is built up, asked and changed. */
    private static final class Run {
        private final int number;
        private final Random random;
        private final FootBook book = new FootBook();
        private final Plain plain = new Plain();
        private final StringBuilder story = new StringBuilder();
        /** Runs differ by how alike their KINDS and how few their FEET are. */
        private final int kindsUsed;
        private final int feetUsed;
        private final int[] rolesUsed;
        private int calls = 0;

        Run(int number) {
            this.number = number;
            random = new Random(4711L + number);
            kindsUsed = 1 + random.nextInt(3);
            feetUsed = 4 + random.nextInt(13);
            rolesUsed = number % 2 == 0 ? new int[] {1, 2, 3} : new int[] {1, 2, 3, 4, 5, 7, 8, 10, 15};
        }

        int go() {
            due("feet", new int[] {feetUsed}, book.feet(feetUsed), plain.feet(feetUsed));
            int units = 4 + random.nextInt(3);
            for (int i = 0; i < units; i++) {
                mutate(2);
            }
            int uses = 12 + random.nextInt(30);
            for (int i = 0; i < uses; i++) {
                mutate(3);
            }
            while (calls < CALLS && wrong < 20) {
                mutate(random.nextInt(12));
                leaveTheImpossible();
                int questions = random.nextInt(8);
                for (int i = 0; i < questions; i++) {
                    ask(random.nextInt(15));
                }
            }
            return calls;
        }

        /** A book as full as can be, of one KIND and so many ROLES a WISH: there are the most GIVINGS. */
        int goFull(int roles) {
            due("feet", new int[] {16}, book.feet(16), plain.feet(16));
            int units = 4 + random.nextInt(3);
            for (int i = 0; i < units; i++) {
                due("unit", new int[] {0}, book.unit(0), plain.unit(0));
            }
            for (int i = 0; i < 500 && plain.uses.size() < 30; i++) {
                int foot = random.nextInt(16);
                int unit = i % units;
                int role = i / units % roles;
                due("use", new int[] {foot, unit, role}, book.use(foot, unit, role), plain.use(foot, unit, role));
            }
            int place = random.nextInt(16);
            for (int wish = 0; wish < 4; wish++) {
                int bits = (1 << roles) - 1;
                due("wish", new int[] {0, bits, 0, place}, book.wish(0, bits, 0, place), plain.wish(0, bits, 0, place));
                place = random.nextInt(16);
                askAll();
            }
            due("hold", new int[] {}, book.hold(), plain.hold());
            for (int role = 0; role < roles; role++) {
                int foot = footThatCan(role, role);
                due("fix", new int[] {role, role, foot}, book.fix(role, role, foot), plain.fix(role, role, foot));
                due("change", new int[] {}, book.change(), plain.change());
            }
            askAll();
            return calls;
        }

        private void askAll() {
            due("best", new int[] {}, book.best(), plain.best());
            due("crossings", new int[] {}, book.crossings(), plain.crossings());
            due("blame", new int[] {}, book.blame(), plain.blame());
            due("many", new int[] {}, book.many(), plain.many());
            due("stands", new int[] {}, book.stands(), plain.stands());
            for (int i = 0; i < 17; i++) {
                due("held", new int[] {i / 4, i % 4}, book.held(i / 4, i % 4), plain.held(i / 4, i % 4));
                due("setting", new int[] {i - 1}, book.setting(i - 1), plain.setting(i - 1));
            }
        }

        /** A book without a GIVING stays so for long; mostly its latest WISH goes, so that there is something to ask. */
        private void leaveTheImpossible() {
            while (random.nextInt(3) > 0 && plain.best() == NONE) {
                due("drop", new int[] {}, book.drop(), plain.drop());
            }
        }

        private void due(String call, int[] with, int got, int want) {
            calls++;
            story.append(call).append(Arrays.toString(with)).append(" = ").append(want).append('\n');
            if (got != want) {
                wrong++;
                System.out.println("run " + number + ", answered " + got + " at the last of\n" + story);
            }
        }

        /** Mostly a number that fits, now and then one beside, rarely one far off. */
        private int about(int from, int below) {
            int dice = random.nextInt(60);
            if (dice == 0) {
                return random.nextInt();
            }
            if (dice < 4) {
                return from - 2 + random.nextInt(below - from + 4);
            }
            return from + random.nextInt(Math.max(1, below - from));
        }

        private int foot() {
            return about(0, plain.volts.length);
        }

        /** A FOOT that can do the ROLE of some UNIT of the WISH's KIND, where there is one. */
        private int footThatCan(int wish, int role) {
            for (int i = 0; i < 20 && !plain.noWish(wish) && !plain.uses.isEmpty(); i++) {
                int[] use = plain.uses.get(random.nextInt(plain.uses.size()));
                if (use[2] == role && plain.kinds.get(use[1]) == plain.wishes.get(wish).kind) {
                    return use[0];
                }
            }
            return foot();
        }

        private int wishNumber() {
            return about(0, Math.max(1, plain.wishes.size()));
        }

        private int kindNumber() {
            return about(0, kindsUsed);
        }

        private int someRoles() {
            return random.nextInt(30) == 0 ? about(1, 16) : rolesUsed[random.nextInt(rolesUsed.length)];
        }

        private int someVolt() {
            return random.nextInt(3) > 0 ? 0 : about(0, 3);
        }

        private void mutate(int which) {
            int a;
            int b;
            int c;
            int d;
            switch (which) {
                case 0:
                    if (random.nextInt(12) == 0) {
                        a = random.nextBoolean() ? feetUsed : random.nextInt(22) - 2;
                        due("feet", new int[] {a}, book.feet(a), plain.feet(a));
                    }
                    break;
                case 1:
                    a = foot();
                    b = random.nextInt(8) == 0 ? about(1, 5) : about(1, 3);
                    due("volt", new int[] {a, b}, book.volt(a, b), plain.volt(a, b));
                    break;
                case 2:
                    a = kindNumber();
                    due("unit", new int[] {a}, book.unit(a), plain.unit(a));
                    break;
                case 3:
                    a = foot();
                    b = about(0, Math.max(1, plain.kinds.size()));
                    c = about(0, random.nextBoolean() ? 2 : 4);
                    due("use", new int[] {a, b, c}, book.use(a, b, c), plain.use(a, b, c));
                    break;
                case 4:
                case 5:
                case 6:
                    a = kindNumber();
                    b = someRoles();
                    c = someVolt();
                    d = foot();
                    due("wish", new int[] {a, b, c, d}, book.wish(a, b, c, d), plain.wish(a, b, c, d));
                    break;
                case 7:
                    a = wishNumber();
                    b = about(0, 4);
                    c = random.nextInt(3) == 0 ? -1 : random.nextInt(4) == 0 ? foot() : footThatCan(a, b);
                    due("fix", new int[] {a, b, c}, book.fix(a, b, c), plain.fix(a, b, c));
                    break;
                case 8:
                    due("drop", new int[] {}, book.drop(), plain.drop());
                    break;
                case 9:
                    due("hold", new int[] {}, book.hold(), plain.hold());
                    break;
                default:
                    due("change", new int[] {}, book.change(), plain.change());
                    break;
            }
        }

        private void ask(int which) {
            int a = wishNumber();
            int b = about(-1, 4);
            switch (which) {
                case 0 -> due("best", new int[] {}, book.best(), plain.best());
                case 1, 2 -> due("given", new int[] {a, b}, book.given(a, b), plain.given(a, b));
                case 3 -> due("crossings", new int[] {}, book.crossings(), plain.crossings());
                case 4 -> due("blame", new int[] {}, book.blame(), plain.blame());
                case 5 -> due("many", new int[] {}, book.many(), plain.many());
                case 6 -> {
                    int roles = someRoles();
                    int volt = someVolt();
                    int place = foot();
                    int kind = kindNumber();
                    due("trial", new int[] {kind, roles, volt, place}, book.trial(kind, roles, volt, place),
                            plain.trial(kind, roles, volt, place));
                }
                case 7, 8 -> {
                    a = about(0, 4);
                    due("held", new int[] {a, b}, book.held(a, b), plain.held(a, b));
                }
                case 9 -> {
                    a = about(-1, 8);
                    due("setting", new int[] {a}, book.setting(a), plain.setting(a));
                }
                case 10 -> due("stands", new int[] {}, book.stands(), plain.stands());
                case 11 -> {
                    a = about(0, 5);
                    due("told", new int[] {a}, book.told(a), plain.told(a));
                }
                case 12 -> {
                    b = random.nextBoolean() ? about(0, 4) : about(10, 14);
                    due("wished", new int[] {a, b}, book.wished(a, b), plain.wished(a, b));
                }
                case 13 -> {
                    a = about(0, 6);
                    due("kind", new int[] {a}, book.kind(a), plain.kind(a));
                }
                default -> {
                    a = about(0, Math.max(1, plain.uses.size()));
                    b = about(0, 3);
                    due("about", new int[] {a, b}, book.about(a, b), plain.about(a, b));
                }
            }
        }
    }
}
