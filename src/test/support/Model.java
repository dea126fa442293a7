import java.util.ArrayList;
import java.util.HashSet;
import java.util.List;
import java.util.Map;
import java.util.Set;
import java.util.TreeSet;

/**
 * The document done over in the plainest way that can be thought of, by trying everything out (on large
 * hills, where that would not end, by a table).
 * It is slow, shares no code with AgeHill and is there to be compared with it.
 */
final class Model {
    static final int NONE = -1;

    // ---- the text ----

    record Token(String kind, String text, int place) { }

    static final class Syntax extends RuntimeException {
        final int place;

        Syntax(int place) {
            this.place = place;
        }
    }

    static final class DividedByZero extends RuntimeException { }

    interface Number {
        int of(Map<String, Integer> vars);
    }

    interface Truth {
        boolean of(Map<String, Integer> vars);
    }

    static final class House {
        int side;
        int good;
    }

    static final class Script {
        final List<House> houses = new ArrayList<>();
        final List<Truth> rules = new ArrayList<>();
        int step = 1;
        int lane = 3;
        boolean mean;
        Number cost = v -> 1;
        Number worth = v -> v.getOrDefault("good", 0);
        Number comes = v -> 1;
        Number dies = v -> 0;
    }

    static final Set<String> VARS =
        Set.of("age", "size", "lame", "month", "from", "to", "far", "gap", "loved", "good");
    static final Set<String> WORDS = new HashSet<>(VARS);

    static {
        WORDS.addAll(List.of("house", "left", "right", "step", "lane", "by", "eldest", "mean", "cost",
            "worth", "comes", "dies", "forgive", "if", "or", "and", "not"));
    }

    static List<Token> tokens(String text) {
        List<Token> all = new ArrayList<>();
        var pattern = java.util.regex.Pattern.compile("[a-z]+|[0-9]+|==|!=|<=|[;=+\\-*/<()]|[^\\t\\n\\r ]");
        var matcher = pattern.matcher(text);
        while (matcher.find()) {
            String t = matcher.group();
            String kind;
            if (t.matches("[a-z]+")) {
                kind = WORDS.contains(t) ? t : t.length() <= 8 ? "NAME" : "BAD";
            } else if (t.matches("[0-9]+")) {
                kind = t.length() <= 4 ? "INT" : "BAD";
            } else {
                kind = t.matches("==|!=|<=|[;=+\\-*/<()]") ? t : "BAD";
            }
            all.add(new Token(kind, t, matcher.start()));
        }
        all.add(new Token("END", "", text.length()));
        return all;
    }

    static final class Parser {
        final List<Token> tokens;
        final Script script = new Script();
        final TreeSet<Integer> late = new TreeSet<>();
        final Set<String> names = new HashSet<>();
        int at;

        Parser(List<Token> tokens) {
            this.tokens = tokens;
        }

        boolean is(String... kinds) {
            return List.of(kinds).contains(tokens.get(at).kind);
        }

        Token take(String... kinds) {
            if (!is(kinds)) {
                throw new Syntax(tokens.get(at).place);
            }
            return tokens.get(at++);
        }

        int number(int least, int most) {
            Token t = take("INT");
            int n = Integer.parseInt(t.text);
            if (n < least || n > most) {
                late.add(t.place * 10 + 5);
            }
            return n;
        }

        void text() {
            while (!is("END")) {
                tell();
            }
        }

        void tell() {
            String word = take("house", "step", "lane", "by", "cost", "worth", "comes", "dies", "forgive").kind;
            switch (word) {
                case "house" -> {
                    Token name = take("NAME");
                    if (!names.add(name.text)) {
                        late.add(name.place * 10 + 3);
                    }
                    House h = new House();
                    if (is("left", "right")) {
                        h.side = take("left", "right").kind.equals("left") ? 1 : 2;
                    }
                    h.good = number(0, 99);
                    script.houses.add(h);
                }
                case "step" -> script.step = number(1, 20);
                case "lane" -> script.lane = number(1, 9);
                case "by" -> script.mean = take("eldest", "mean").kind.equals("mean");
                case "forgive" -> {
                    take("if");
                    script.rules.add(cond());
                }
                default -> {
                    take("=");
                    Number e = e();
                    switch (word) {
                        case "cost" -> script.cost = e;
                        case "worth" -> script.worth = e;
                        case "comes" -> script.comes = e;
                        default -> script.dies = e;
                    }
                }
            }
            take(";");
        }

        Truth cond() {
            Truth a = all();
            while (is("or")) {
                take("or");
                Truth left = a;
                Truth right = all();
                a = v -> left.of(v) || right.of(v);
            }
            return a;
        }

        Truth all() {
            Truth a = lit();
            while (is("and")) {
                take("and");
                Truth left = a;
                Truth right = lit();
                a = v -> left.of(v) && right.of(v);
            }
            return a;
        }

        Truth lit() {
            if (is("not")) {
                take("not");
                Truth inner = lit();
                return v -> !inner.of(v);
            }
            Number a = e();
            String sign = take("==", "!=", "<", "<=").kind;
            Number b = e();
            return v -> {
                try {
                    int x = a.of(v);
                    int y = b.of(v);
                    return switch (sign) {
                        case "==" -> x == y;
                        case "!=" -> x != y;
                        case "<" -> x < y;
                        default -> x <= y;
                    };
                } catch (DividedByZero none) {
                    return false;
                }
            };
        }

        Number e() {
            Number a = part();
            while (is("+", "-")) {
                boolean plus = take("+", "-").kind.equals("+");
                Number left = a;
                Number right = part();
                a = v -> plus ? left.of(v) + right.of(v) : left.of(v) - right.of(v);
            }
            return a;
        }

        Number part() {
            Number a = unit();
            while (is("*", "/")) {
                boolean times = take("*", "/").kind.equals("*");
                Number left = a;
                Number right = unit();
                a = v -> {
                    int x = left.of(v);
                    int y = right.of(v);
                    if (!times && y == 0) {
                        throw new DividedByZero();
                    }
                    return times ? x * y : x / y;
                };
            }
            return a;
        }

        Number unit() {
            if (is("(")) {
                take("(");
                Number e = e();
                take(")");
                return e;
            }
            if (is("INT")) {
                int n = Integer.parseInt(take("INT").text);
                return v -> n;
            }
            String var = take(VARS.toArray(new String[0])).kind;
            return v -> v.getOrDefault(var, 0);
        }
    }

    /** Places times 10 and numbers of all faults of room, whether or not the text is one there. */
    static void addRoom(List<Token> tokens, TreeSet<Integer> early) {
        int houses = 0;
        int rules = 0;
        int open = 0;
        for (int i = 0; i < tokens.size(); i++) {
            Token t = tokens.get(i);
            houses += t.kind.equals("house") ? 1 : 0;
            rules += t.kind.equals("forgive") ? 1 : 0;
            open += t.kind.equals("(") ? 1 : t.kind.equals(")") ? -1 : 0;
            boolean full = i == 400 && !t.kind.equals("END")
                || t.kind.equals("house") && houses == 25
                || t.kind.equals("forgive") && rules == 7
                || t.kind.equals("(") && open == 7;
            if (full) {
                early.add(t.place * 10 + 2);
            }
        }
    }

    static int held(Number e, int most, Map<String, Integer> vars) {
        int n;
        try {
            n = e.of(vars);
        } catch (DividedByZero none) {
            n = 0;
        }
        return n < 0 ? 0 : Math.min(n, most);
    }

    // ---- the state ----

    static final class Person {
        boolean is = true;
        int came;
        int truly;
        int tells;
        boolean lame;
        int family;

        Person copy() {
            Person p = new Person();
            p.is = is;
            p.came = came;
            p.truly = truly;
            p.tells = tells;
            p.lame = lame;
            p.family = family;
            return p;
        }
    }

    static final class Family {
        boolean is = true;
        int house = NONE;
        int loves = NONE;

        Family copy() {
            Family f = new Family();
            f.is = is;
            f.house = house;
            f.loves = loves;
            return f;
        }
    }

    static final class World {
        List<Person> people = new ArrayList<>();
        List<Family> families = new ArrayList<>();
        List<int[]> moves = new ArrayList<>();
        int month;

        World copy() {
            World w = new World();
            people.forEach(p -> w.people.add(p.copy()));
            families.forEach(f -> w.families.add(f.copy()));
            moves.forEach(m -> w.moves.add(m.clone()));
            w.month = month;
            return w;
        }
    }

    String tape = "";
    int place = NONE;
    Script script = new Script();
    World world = new World();
    final World[] slots = new World[2];

    int feed(int... five) {
        if (tape.length() + 20 > 2000) {
            return NONE;
        }
        StringBuilder more = new StringBuilder(tape);
        for (int n : five) {
            more.append((char) (n >>> 24)).append((char) (n >> 16 & 255));
            more.append((char) (n >> 8 & 255)).append((char) (n & 255));
        }
        tape = more.toString();
        return tape.length();
    }

    int back(int n) {
        if (n < 0 || n > tape.length()) {
            return NONE;
        }
        tape = tape.substring(0, tape.length() - n);
        return tape.length();
    }

    int read() {
        List<Token> tokens = tokens(tape);
        tape = "";
        TreeSet<Integer> early = new TreeSet<>();
        addRoom(tokens, early);
        Parser parser = new Parser(tokens);
        try {
            parser.text();
        } catch (Syntax s) {
            early.add(s.place * 10 + 1);
        }
        TreeSet<Integer> faults = early.isEmpty() ? parser.late : early;
        if (!faults.isEmpty()) {
            place = faults.first() / 10;
            return faults.first() % 10;
        }
        place = NONE;
        script = parser.script;
        world = new World();
        slots[0] = null;
        slots[1] = null;
        return 0;
    }

    int place() {
        return place;
    }

    // ---- people and families ----

    int houses() {
        return script.houses.size();
    }

    boolean isHouse(int h) {
        return h >= 0 && h < houses();
    }

    boolean isPerson(int p) {
        return p >= 0 && p < world.people.size() && world.people.get(p).is;
    }

    boolean isFamily(int f) {
        return f >= 0 && f < world.families.size() && world.families.get(f).is;
    }

    boolean lives(int f) {
        return isFamily(f) && world.families.get(f).house != NONE;
    }

    int inHouse(int h) {
        for (int f = 0; f < world.families.size(); f++) {
            if (isFamily(f) && world.families.get(f).house == h) {
                return f;
            }
        }
        return NONE;
    }

    List<Person> members(int f) {
        return world.people.stream().filter(p -> p.is && p.family == f).toList();
    }

    int years(Person p, boolean truly) {
        return (truly ? p.truly : p.tells) + (world.month - p.came) / 12;
    }

    int age(int f, boolean mean, boolean truly) {
        var ages = members(f).stream().mapToInt(p -> years(p, truly));
        return mean ? ages.sum() / members(f).size() : ages.max().getAsInt();
    }

    int age(int f) {
        return age(f, script.mean, false);
    }

    int key(int f) {
        return age(f) / script.step;
    }

    int lames(int f) {
        return (int) members(f).stream().filter(p -> p.lame).count();
    }

    Map<String, Integer> vars(int f) {
        Map<String, Integer> v = new java.util.HashMap<>();
        v.put("age", age(f));
        v.put("size", members(f).size());
        v.put("lame", lames(f));
        v.put("month", world.month % 12);
        return v;
    }

    int house(int h, int what) {
        if (!isHouse(h) || what < 0 || what > 2) {
            return NONE;
        }
        int in = inHouse(h);
        return what == 0 ? script.houses.get(h).side : what == 1 ? script.houses.get(h).good : in == NONE ? -2 : in;
    }

    int come(int age, int tells, boolean lame) {
        if (age < 0 || age > 99 || tells < 0 || tells > 99) {
            return NONE;
        }
        if (world.people.size() == 60 || world.families.size() == 30) {
            return NONE;
        }
        Person p = new Person();
        p.came = world.month;
        p.truly = age;
        p.tells = tells;
        p.lame = lame;
        p.family = world.families.size();
        world.families.add(new Family());
        world.people.add(p);
        return world.people.size() - 1;
    }

    void endIfNobody(int f) {
        if (members(f).isEmpty()) {
            world.families.get(f).is = false;
        }
    }

    boolean join(int p, int f) {
        if (!isPerson(p) || !isFamily(f) || members(f).size() == 6 || world.people.get(p).family == f) {
            return false;
        }
        int old = world.people.get(p).family;
        world.people.get(p).family = f;
        endIfNobody(old);
        return true;
    }

    boolean die(int p) {
        if (!isPerson(p)) {
            return false;
        }
        world.people.get(p).is = false;
        endIfNobody(world.people.get(p).family);
        return true;
    }

    int person(int p, int what) {
        if (!isPerson(p) || what < 0 || what > 3) {
            return NONE;
        }
        Person who = world.people.get(p);
        return what == 0 ? years(who, true) : what == 1 ? years(who, false) : what == 2 ? (who.lame ? 1 : 0) : who.family;
    }

    int family(int f, int what) {
        if (!isFamily(f)) {
            return NONE;
        }
        Family it = world.families.get(f);
        return switch (what) {
            case 0 -> members(f).size();
            case 1 -> age(f);
            case 2 -> key(f);
            case 3 -> it.house == NONE ? -2 : it.house;
            case 4 -> it.loves == NONE ? -2 : it.loves;
            case 5 -> lames(f);
            default -> NONE;
        };
    }

    boolean live(int f, int h) {
        if (!isFamily(f) || h != NONE && (!isHouse(h) || inHouse(h) != NONE)) {
            return false;
        }
        world.families.get(f).house = h;
        return true;
    }

    boolean love(int f, int h) {
        if (!isFamily(f) || h != NONE && !isHouse(h)) {
            return false;
        }
        world.families.get(f).loves = h;
        return true;
    }

    int months(int n) {
        if (n < 0 || n > 240 || world.month + n > 1200) {
            return NONE;
        }
        return world.month += n;
    }

    // ---- the law ----

    List<Integer> unlawfulPairs(boolean mean, boolean truly) {
        List<Integer> pairs = new ArrayList<>();
        for (int low = 0; low < houses(); low++) {
            for (int high = low + 1; high < houses(); high++) {
                int f = inHouse(low);
                int g = inHouse(high);
                Set<Integer> sides = Set.copyOf(List.of(script.houses.get(low).side, script.houses.get(high).side));
                if (f == NONE || g == NONE || sides.equals(Set.of(1, 2))) {
                    continue;
                }
                int gap = age(f, mean, truly) / script.step - age(g, mean, truly) / script.step;
                Map<String, Integer> v = vars(f);
                v.put("age", age(f, mean, truly));
                v.put("gap", gap);
                if (gap > 0 && script.rules.stream().noneMatch(r -> r.of(v))) {
                    pairs.add(100 * low + high);
                }
            }
        }
        return pairs;
    }

    int unlawful(int what) {
        return switch (what) {
            case 0 -> unlawfulPairs(script.mean, false).size();
            case 1 -> unlawfulPairs(script.mean, true).size();
            case 2 -> unlawfulPairs(!script.mean, false).size();
            default -> NONE;
        };
    }

    int pair(int i) {
        List<Integer> pairs = unlawfulPairs(script.mean, false);
        return i < 0 || i >= pairs.size() ? NONE : pairs.get(i);
    }

    List<Integer> theRow(int comer) {
        List<Integer> row = new ArrayList<>();
        for (int h = 0; h < houses(); h++) {
            if (inHouse(h) != NONE) {
                row.add(inHouse(h));
            }
        }
        row.sort((a, b) -> Integer.compare(key(a), key(b)));
        if (comer != NONE) {
            int behind = 0;
            for (int i = 0; i < row.size(); i++) {
                if (key(row.get(i)) <= key(comer)) {
                    behind = i + 1;
                }
            }
            row.add(behind, comer);
        }
        return row;
    }

    int row(int i) {
        List<Integer> row = theRow(NONE);
        return i < 0 || i >= row.size() ? NONE : row.get(i);
    }

    // ---- least ----

    boolean twoTops() {
        return script.houses.stream().anyMatch(h -> h.side == 1) && script.houses.stream().anyMatch(h -> h.side == 2);
    }

    int cost(int f, int from, int to) {
        Map<String, Integer> v = vars(f);
        v.put("from", from);
        v.put("to", to);
        v.put("far", from == NONE ? 0 : Math.abs(from - to));
        return held(script.cost, 9999, v);
    }

    private static final long ONE_MOVE = 1_000_000_000L;
    private boolean costsMatter = true;

    /** Whether trying everything out would not end in time: then a table of the best for the rest is kept. */
    static boolean isLarge(int many, int places) {
        return places > 9 && many > 2 && many < places - 1;
    }

    final class Plan {
        final List<Integer> row;
        int[] at;
        int moved = Integer.MAX_VALUE;
        int costs;

        Plan(int comer) {
            row = theRow(comer);
            if (twoTops() || row.size() > houses()) {
                return;
            }
            if (isLarge(row.size(), houses())) {
                putByTable();
            } else {
                put(new int[row.size()], 0, 0, 0, 0);
            }
        }

        /** What the i-th of the row must pay in a house, a move far more than all costs. */
        long price(int i, int h) {
            int from = world.families.get(row.get(i)).house;
            if (from == h) {
                return 0;
            }
            return (from == NONE ? 0 : ONE_MOVE) + (costsMatter ? cost(row.get(i), from, h) : 0);
        }

        void putByTable() {
            long[][] least = new long[row.size() + 1][houses() + 1];
            for (int i = row.size() - 1; i >= 0; i--) {
                least[i][houses()] = Long.MAX_VALUE / 4;
                for (int h = houses() - 1; h >= 0; h--) {
                    least[i][h] = Math.min(least[i][h + 1], price(i, h) + least[i + 1][h + 1]);
                }
            }
            at = new int[row.size()];
            int h = 0;
            for (int i = 0; i < row.size(); i++, h++) {
                while (price(i, h) + least[i + 1][h + 1] > least[i][h]) {
                    h++;
                }
                at[i] = h;
            }
            moved = (int) (least[0][0] / ONE_MOVE);
            costs = (int) (least[0][0] % ONE_MOVE);
        }

        void put(int[] houses, int i, int lowest, int movedYet, int costYet) {
            if (i == row.size()) {
                if (movedYet < moved || movedYet == moved && costYet < costs) {
                    moved = movedYet;
                    costs = costYet;
                    at = houses.clone();
                }
                return;
            }
            int f = row.get(i);
            int from = world.families.get(f).house;
            for (int h = lowest; h <= houses() - (row.size() - i); h++) {
                houses[i] = h;
                boolean stays = h == from;
                put(houses, i + 1, h + 1, movedYet + (stays || from == NONE ? 0 : 1),
                    costYet + (stays ? 0 : cost(f, from, h)));
            }
        }

        boolean can() {
            return at != null;
        }

        int carry() {
            for (int i = 0; i < row.size(); i++) {
                world.families.get(row.get(i)).house = at[i];
            }
            return moved;
        }
    }

    boolean mayCome(int f) {
        return f == NONE || isFamily(f) && !lives(f);
    }

    int least(int f, int what) {
        if (!mayCome(f) || what < 0 || what > 2) {
            return NONE;
        }
        Plan plan = new Plan(f);
        if (!plan.can()) {
            return -2;
        }
        int carts = plan.moved / script.lane + (plan.moved % script.lane == 0 ? 0 : 1);
        return what == 0 ? plan.moved : what == 1 ? plan.costs : carts;
    }

    int leastAt(int comes, int f) {
        if (!mayCome(comes) || !isFamily(f) || !theRow(comes).contains(f)) {
            return NONE;
        }
        Plan plan = new Plan(comes);
        return plan.can() ? plan.at[plan.row.indexOf(f)] : -2;
    }

    int settle(int f) {
        if (!mayCome(f)) {
            return NONE;
        }
        Plan plan = new Plan(f);
        return plan.can() ? plan.carry() : -2;
    }

    int steps(int s) {
        if (s < 1 || s > 20) {
            return NONE;
        }
        int kept = script.step;
        script.step = s;
        int answer = least(NONE, 0);
        script.step = kept;
        return answer;
    }

    /** MEAN by letting somebody of each age really come. */
    int mean() {
        if (twoTops()) {
            return -2;
        }
        int sum = 0;
        World kept = world;
        for (int a = 0; a < 100; a++) {
            int ways = held(script.comes, 9, Map.of("age", a));
            if (ways == 0) {
                continue;
            }
            world = kept.copy();
            Person p = new Person();
            p.came = world.month;
            p.truly = a;
            p.tells = a;
            p.family = world.families.size();
            world.families.add(new Family());
            world.people.add(p);
            costsMatter = false;
            Plan plan = new Plan(p.family);
            costsMatter = true;
            sum += ways * (plan.can() ? plan.moved : 24);
        }
        world = kept;
        return sum;
    }

    int where(boolean least) {
        if (twoTops() || houses() == 24) {
            return -2;
        }
        int best = Integer.MAX_VALUE;
        int at = NONE;
        for (int p = 0; p <= houses(); p++) {
            World kept = world.copy();
            script.houses.add(p, new House());
            for (Family f : world.families) {
                f.house += f.house != NONE && f.house >= p ? 1 : 0;
            }
            int mean = mean();
            script.houses.remove(p);
            world = kept;
            if (mean < best) {
                best = mean;
                at = p;
            }
        }
        return least ? at : best;
    }

    int gap() {
        if (twoTops()) {
            return -2;
        }
        int best = -1;
        int at = -2;
        for (int h = 0; h < houses(); h++) {
            if (inHouse(h) == NONE) {
                World kept = world.copy();
                House gone = script.houses.remove(h);
                for (Family f : world.families) {
                    f.house -= f.house != NONE && f.house > h ? 1 : 0;
                }
                int mean = mean();
                script.houses.add(h, gone);
                world = kept;
                if (mean > best) {
                    best = mean;
                    at = h;
                }
            }
        }
        return at;
    }

    int mostStaying(List<Integer> row, int i, List<Integer> houses, int lowest) {
        if (i == row.size()) {
            return 0;
        }
        if (i == 0 && isLarge(row.size(), houses.size())) {
            return mostStayingByTable(row, houses);
        }
        int most = Integer.MIN_VALUE / 2;
        for (int h = lowest; h <= houses.size() - (row.size() - i); h++) {
            int stays = world.families.get(row.get(i)).house == houses.get(h) ? 1 : 0;
            most = Math.max(most, stays + mostStaying(row, i + 1, houses, h + 1));
        }
        return most;
    }

    int mostStayingByTable(List<Integer> row, List<Integer> houses) {
        int[][] most = new int[row.size() + 1][houses.size() + 1];
        for (int i = row.size() - 1; i >= 0; i--) {
            most[i][houses.size()] = Integer.MIN_VALUE / 2;
            for (int h = houses.size() - 1; h >= 0; h--) {
                int stays = world.families.get(row.get(i)).house == houses.get(h) ? 1 : 0;
                most[i][h] = Math.max(most[i][h + 1], stays + most[i + 1][h + 1]);
            }
        }
        return most[0][0];
    }

    int part(int what) {
        if (what < 0 || what > 1) {
            return NONE;
        }
        List<Integer> left = new ArrayList<>();
        List<Integer> right = new ArrayList<>();
        List<Integer> who = new ArrayList<>();
        for (int h = 0; h < houses(); h++) {
            int side = script.houses.get(h).side;
            if (side != 0) {
                (side == 1 ? left : right).add(h);
                if (inHouse(h) != NONE) {
                    who.add(inHouse(h));
                }
            }
        }
        if (who.size() > 12) {
            return -2;
        }
        int[] best = null;
        for (int bits = 0; bits < 1 << who.size(); bits++) {
            List<Integer> onLeft = new ArrayList<>();
            List<Integer> onRight = new ArrayList<>();
            for (int i = 0; i < who.size(); i++) {
                ((bits >> i & 1) == 1 ? onLeft : onRight).add(who.get(i));
            }
            onLeft.sort((a, b) -> Integer.compare(key(a), key(b)));
            onRight.sort((a, b) -> Integer.compare(key(a), key(b)));
            int stay = mostStaying(onLeft, 0, left, 0) + mostStaying(onRight, 0, right, 0);
            int[] it = {who.size() - stay, onLeft.size(), bits};
            if (stay >= 0 && (best == null || java.util.Arrays.compare(it, best) < 0)) {
                best = it;
            }
        }
        return best == null ? -2 : what == 0 ? best[0] : best[2];
    }

    // ---- moves ----

    int move(int morning, int f, int h) {
        if (world.moves.size() == 40 || morning < 0 || morning > 99) {
            return NONE;
        }
        if (f < 0 || f >= world.families.size() || !isHouse(h)) {
            return NONE;
        }
        world.moves.add(new int[] {morning, f, h});
        return world.moves.size() - 1;
    }

    int forget() {
        int n = world.moves.size();
        world.moves.clear();
        return n;
    }

    /** The verdict, and the costs if it is 0; the moves are made. */
    int[] makeMoves() {
        int costs = 0;
        for (int morning = 0; morning < 100; morning++) {
            int made = 0;
            int last = NONE;
            for (int m = 0; m < world.moves.size(); m++) {
                int[] move = world.moves.get(m);
                if (move[0] != morning) {
                    continue;
                }
                int reason = !lives(move[1]) ? 1 : made >= script.lane ? 2 : inHouse(move[2]) != NONE ? 3 : 0;
                if (reason != 0) {
                    return new int[] {10 * m + reason, 0};
                }
                costs += cost(move[1], world.families.get(move[1]).house, move[2]);
                world.families.get(move[1]).house = move[2];
                made++;
                last = m;
            }
            if (last != NONE && unlawful(0) > 0) {
                return new int[] {10 * last + 4, 0};
            }
        }
        return new int[] {0, costs};
    }

    int judge() {
        World kept = world.copy();
        int verdict = makeMoves()[0];
        world = kept;
        return verdict;
    }

    int done() {
        World kept = world.copy();
        int[] made = makeMoves();
        if (made[0] != 0) {
            world = kept;
            return -2;
        }
        world.moves.clear();
        return made[1];
    }

    // ---- wishes ----

    int worth(int f, int h) {
        if (!isFamily(f) || !isHouse(h)) {
            return NONE;
        }
        Map<String, Integer> v = vars(f);
        v.put("good", script.houses.get(h).good);
        v.put("to", h);
        v.put("loved", world.families.get(f).loves == h ? 1 : 0);
        return held(script.worth, 999, v);
    }

    int change(int what) {
        if (what < 0 || what > 1) {
            return NONE;
        }
        int most = 0;
        int who = -2;
        for (int f = 0; f < world.families.size(); f++) {
            for (int g = f + 1; g < world.families.size(); g++) {
                if (lives(f) && lives(g) && key(f) == key(g)) {
                    int a = world.families.get(f).house;
                    int b = world.families.get(g).house;
                    int more = worth(f, b) + worth(g, a) - worth(f, a) - worth(g, b);
                    if (more > most) {
                        most = more;
                        who = 100 * f + g;
                    }
                }
            }
        }
        return most == 0 ? -2 : what == 0 ? most : who;
    }

    int dies(int age, boolean lame) {
        return held(script.dies, 100, Map.of("age", age, "lame", lame ? 1 : 0));
    }

    long waits(int f, int n) {
        if (!isFamily(f) || n < 1 || n > 8 || world.families.get(f).loves == NONE) {
            return NONE;
        }
        int g = inHouse(world.families.get(f).loves);
        if (g == NONE || g == f) {
            return -2;
        }
        return waysToDie(members(g).get(0), years(members(g).get(0), false), n);
    }

    /** By the first year: d of 100 ways end it, whatever comes later; the others go on. */
    long waysToDie(Person p, int age, int n) {
        if (n == 0) {
            return 0;
        }
        long later = 1;
        for (int i = 1; i < n; i++) {
            later *= 100;
        }
        int d = dies(age, p.lame);
        return d * later + (100 - d) * waysToDie(p, age + 1, n - 1);
    }

    int marry(int f, int g, boolean second) {
        if (!lives(f) || !lives(g) || f == g) {
            return NONE;
        }
        if (members(f).size() + members(g).size() > 6) {
            return -2;
        }
        World kept = world.copy();
        int house = world.families.get(second ? g : f).house;
        for (Person p : members(g)) {
            p.family = f;
        }
        world.families.get(g).is = false;
        world.families.get(f).house = house;
        int answer = least(NONE, 0);
        world = kept;
        return answer;
    }

    // ---- years ----

    static int lot(int n, int seed, int which) {
        int h = seed;
        for (int it : new int[] {17, which}) {
            h = (h ^ it) * 1103515245 + 12345;
            h = h ^ h >>> 15;
        }
        return (h >>> 1) % n;
    }

    boolean putNear(int f) {
        long wanted = theRow(NONE).stream().filter(g -> key(g) <= key(f)).count();
        for (int far = 0; far < 50; far++) {
            for (int h : new int[] {(int) wanted - far, (int) wanted + far}) {
                if (isHouse(h) && inHouse(h) == NONE) {
                    world.families.get(f).house = h;
                    return true;
                }
            }
        }
        return false;
    }

    int years(int seed, int n, int rule) {
        if (n < 1 || n > 40 || rule < 0 || rule > 3 || world.month + 12 * n > 1200) {
            return NONE;
        }
        if (twoTops()) {
            return -2;
        }
        int moved = 0;
        for (int i = 0; i < n; i++) {
            world.month += 12;
            for (int p = 0; p < world.people.size(); p++) {
                Person it = world.people.get(p);
                if (it.is && lot(100, seed, 200 * i + p) < dies(years(it, false), it.lame)) {
                    die(p);
                }
            }
            int comer = NONE;
            if (lot(100, seed, 200 * i + 100) < 50) {
                int age = lot(90, seed, 200 * i + 101);
                comer = come(age, age, lot(9, seed, 200 * i + 102) == 0);
            }
            moved += byRule(rule, comer == NONE ? NONE : world.people.get(comer).family, comer);
        }
        return moved;
    }

    int byRule(int rule, int family, int person) {
        int moved = 0;
        if (rule == 2) {
            if (family != NONE && theRow(family).size() > houses()) {
                die(person);
                family = NONE;
            }
            List<Integer> row = theRow(family);
            for (int i = 0; i < row.size(); i++) {
                Family f = world.families.get(row.get(row.size() - 1 - i));
                int house = houses() - 1 - i;
                moved += f.house != NONE && f.house != house ? 1 : 0;
                f.house = house;
            }
            return moved;
        }
        if (family != NONE) {
            boolean put;
            if (rule == 0) {
                Plan plan = new Plan(family);
                put = plan.can();
                moved += put ? plan.carry() : 0;
            } else {
                put = putNear(family);
            }
            if (!put) {
                die(person);
            }
        }
        if (rule == 0 || rule == 3 && unlawful(0) > 0) {
            moved += new Plan(NONE).carry();
        }
        return moved;
    }

    // ---- slots and counts ----

    boolean hold(int slot) {
        if (slot != 0 && slot != 1) {
            return false;
        }
        slots[slot] = world.copy();
        return true;
    }

    boolean restore(int slot) {
        if (slot != 0 && slot != 1 || slots[slot] == null) {
            return false;
        }
        world = slots[slot].copy();
        return true;
    }

    int count(int what) {
        return switch (what) {
            case 0 -> houses();
            case 1 -> (int) world.people.stream().filter(p -> p.is).count();
            case 2 -> (int) world.families.stream().filter(f -> f.is).count();
            case 3 -> theRow(NONE).size();
            case 4 -> world.month;
            case 5 -> world.moves.size();
            case 6 -> tape.length();
            case 7 -> (slots[0] == null ? 0 : 1) + (slots[1] == null ? 0 : 1);
            case 8 -> script.step;
            case 9 -> script.lane;
            case 10 -> script.rules.size();
            case 11 -> script.mean ? 1 : 0;
            case 12 -> world.people.size();
            case 13 -> world.families.size();
            default -> NONE;
        };
    }
}
