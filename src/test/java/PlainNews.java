import java.nio.charset.StandardCharsets;
import java.util.ArrayDeque;
import java.util.ArrayList;
import java.util.Deque;
import java.util.HashMap;
import java.util.HashSet;
import java.util.List;
import java.util.Map;
import java.util.Set;
import java.util.regex.Matcher;
import java.util.regex.Pattern;

/**
 * The document once more, written by other means (paths tried one by one, days by a closure over all pairs, rules by
 * patterns) and with nothing kept from call to call, so that the two can be held against each other.
 */
final class PlainNews {
    private static final int BAD = -1, NO = -2, FULL = -3, NONE = -4;
    private static final int FAR = -1_000_000_000;
    private static final Pattern ITEM = Pattern.compile("([a-z])([0-9]{1,3}(?:,[0-9]{1,3})*);");

    private record Sheet(int town, int writer, int day) {
    }

    private record Pair(int later, int earlier) {
    }

    private record Place(int town, int day) {
    }

    private record Saying(int sheet, int thing, int number, int words, boolean seen, boolean denied) {
    }

    private record Item(char letter, List<Integer> numbers) {
        int of() {
            return letter == 'w' || letter == 'v' ? numbers.get(0) : 0;
        }

        int amount() {
            return numbers.get(numbers.size() - 2);
        }

        int since() {
            return numbers.get(numbers.size() - 1);
        }
    }

    private record Desk(List<Sheet> sheets, List<Pair> pairs, List<Saying> sayings, Map<Integer, Place> events,
            Map<Integer, Integer> truths) {
        Desk copy() {
            return new Desk(new ArrayList<>(sheets), new ArrayList<>(pairs), new ArrayList<>(sayings),
                    new HashMap<>(events), new HashMap<>(truths));
        }
    }

    private final Map<List<Integer>, int[]> posts = new HashMap<>();
    private final Map<List<Integer>, Integer> worths = new HashMap<>();
    private final Deque<Desk> kept = new ArrayDeque<>();
    private Desk desk =
            new Desk(new ArrayList<>(), new ArrayList<>(), new ArrayList<>(), new HashMap<>(), new HashMap<>());
    private String text = "";
    private List<Item> items = new ArrayList<>();
    private int own = 12;
    private int closet = 0;

    private static boolean in(int value, int low, int high) {
        return low <= value && value <= high;
    }

    // ---- towns, sheets

    int post(int from, int to, int least, int most) {
        if (!in(from, 0, 5) || !in(to, 0, 5) || from == to || !in(least, 1, 60) || !in(most, 1, 60) || least > most) {
            return BAD;
        }
        if (!desk.sheets().isEmpty()) {
            return NO;
        }
        posts.put(List.of(from, to), new int[] {least, most});
        return 0;
    }

    /** Tries every path without a town twice: {least days, most days of such a path}, or null. */
    private int[] best(int at, int to, Set<Integer> been) {
        if (at == to) {
            return new int[] {0, 0};
        }
        int[] best = null;
        been.add(at);
        for (int next = 0; next < 6; next++) {
            int[] post = posts.get(List.of(at, next));
            if (post == null || been.contains(next)) {
                continue;
            }
            int[] rest = best(next, to, been);
            if (rest == null) {
                continue;
            }
            int least = post[0] + rest[0];
            int most = post[1] + rest[1];
            if (best == null || least < best[0] || least == best[0] && most > best[1]) {
                best = new int[] {least, most};
            }
        }
        been.remove(at);
        return best;
    }

    private final Map<List<Integer>, int[]> ways = new HashMap<>();
    private int waysOfPosts = -1;

    private int[] best(int from, int to) {
        int state = posts.entrySet().stream()
                .mapToInt(e -> e.getKey().hashCode() * 7919 + e.getValue()[0] * 61 + e.getValue()[1]).sum();
        if (state != waysOfPosts) {
            ways.clear();
            waysOfPosts = state;
        }
        List<Integer> key = List.of(from, to);
        if (!ways.containsKey(key)) {
            ways.put(key, best(from, to, new HashSet<>()));
        }
        return ways.get(key);
    }

    int way(int from, int to) {
        if (!in(from, 0, 5) || !in(to, 0, 5)) {
            return BAD;
        }
        int[] best = best(from, to);
        return best == null ? NONE : best[0];
    }

    int slow(int from, int to) {
        if (!in(from, 0, 5) || !in(to, 0, 5)) {
            return BAD;
        }
        int[] best = best(from, to);
        return best == null ? NONE : best[1];
    }

    int sheet(int town, int writer, int day) {
        if (!in(town, 0, 5) || !in(writer, 0, 7) || !in(day, -1, 999)) {
            return BAD;
        }
        if (desk.sheets().size() == 12) {
            return FULL;
        }
        desk.sheets().add(new Sheet(town, writer, day));
        return desk.sheets().size() - 1;
    }

    private boolean noSheet(int sheet) {
        return !in(sheet, 0, desk.sheets().size() - 1);
    }

    int dated(int sheet, int day) {
        if (noSheet(sheet) || !in(day, -1, 999)) {
            return -100;
        }
        Sheet was = desk.sheets().get(sheet);
        desk.sheets().set(sheet, new Sheet(was.town(), was.writer(), day));
        return was.day();
    }

    int behind(int sheet, int other) {
        if (noSheet(sheet) || noSheet(other) || sheet == other) {
            return BAD;
        }
        if (way(desk.sheets().get(other).town(), desk.sheets().get(sheet).town()) < 0) {
            return NO;
        }
        if (desk.pairs().size() == 20) {
            return FULL;
        }
        desk.pairs().add(new Pair(sheet, other));
        return desk.pairs().size();
    }

    int happened(int thing, int town, int day) {
        if (!in(thing, 0, 9) || !in(town, 0, 5) || !in(day, 0, 999)) {
            return BAD;
        }
        if (desk.events().containsKey(thing)) {
            return NO;
        }
        for (Saying s : desk.sayings()) {
            if (s.thing() == thing && way(town, desk.sheets().get(s.sheet()).town()) < 0) {
                return NO;
            }
        }
        desk.events().put(thing, new Place(town, day));
        return 0;
    }

    /** apart[i][j]: by how many days j is later than i at the least; the last row and column are day 0. Or null. */
    private long[][] apart() {
        int n = desk.sheets().size();
        long[][] apart = new long[n + 1][n + 1];
        for (int i = 0; i <= n; i++) {
            for (int j = 0; j <= n; j++) {
                apart[i][j] = i == j ? 0 : FAR;
            }
        }
        for (int i = 0; i < n; i++) {
            int day = desk.sheets().get(i).day();
            apart[n][i] = day == -1 ? 0 : day;
            apart[i][n] = day == -1 ? -999 : -day;
        }
        for (Pair p : desk.pairs()) {
            int way = way(desk.sheets().get(p.earlier()).town(), desk.sheets().get(p.later()).town());
            apart[p.earlier()][p.later()] = Math.max(apart[p.earlier()][p.later()], way);
        }
        for (Saying s : desk.sayings()) {
            Place place = desk.events().get(s.thing());
            if (place != null) {
                int day = place.day() + way(place.town(), desk.sheets().get(s.sheet()).town());
                apart[n][s.sheet()] = Math.max(apart[n][s.sheet()], day);
            }
        }
        for (int via = 0; via <= n; via++) {
            for (int i = 0; i <= n; i++) {
                for (int j = 0; j <= n; j++) {
                    if (apart[i][via] > FAR && apart[via][j] > FAR) {
                        apart[i][j] = Math.max(apart[i][j], apart[i][via] + apart[via][j]);
                    }
                }
            }
            for (int i = 0; i <= n; i++) {
                if (apart[i][i] > 0) {
                    return null;
                }
            }
        }
        return apart;
    }

    private int first(long[][] apart, int sheet) {
        return (int) apart[desk.sheets().size()][sheet];
    }

    private int last(long[][] apart, int sheet) {
        return (int) -apart[sheet][desk.sheets().size()];
    }

    int span(int sheet, int what) {
        if (noSheet(sheet) || !in(what, 0, 1)) {
            return BAD;
        }
        long[][] apart = apart();
        return apart == null ? NO : what == 0 ? first(apart, sheet) : last(apart, sheet);
    }

    int ahead(int a, int b) {
        if (noSheet(a) || noSheet(b)) {
            return BAD;
        }
        long[][] apart = apart();
        return apart == null ? NO : apart[a][b] > 0 ? 1 : 0;
    }

    // ---- sayings

    int say(int sheet, int thing, int number, int words, boolean seen, boolean denied) {
        if (noSheet(sheet) || !in(thing, 0, 9) || !in(number, 0, 9999) || !in(words, 0, 255)) {
            return BAD;
        }
        Place place = desk.events().get(thing);
        if (place != null && way(place.town(), desk.sheets().get(sheet).town()) < 0) {
            return NO;
        }
        if (desk.sayings().size() == 30) {
            return FULL;
        }
        desk.sayings().add(new Saying(sheet, thing, number, words, seen, denied));
        return desk.sayings().size() - 1;
    }

    private boolean noSaying(int saying) {
        return !in(saying, 0, desk.sayings().size() - 1);
    }

    private static int unlike(Saying a, Saying b) {
        String x = String.format("%04d", a.number());
        String y = String.format("%04d", b.number());
        int sum = 0;
        for (int i = 0; i < 4; i++) {
            sum += x.charAt(i) == y.charAt(i) ? 0 : 3;
        }
        for (int bit = 1; bit < 256; bit *= 2) {
            sum += (a.words() & bit) == (b.words() & bit) ? 0 : 1;
        }
        return sum;
    }

    int change(int a, int b) {
        if (noSaying(a) || noSaying(b) || desk.sayings().get(a).thing() != desk.sayings().get(b).thing()) {
            return BAD;
        }
        return unlike(desk.sayings().get(a), desk.sayings().get(b));
    }

    int own(int v) {
        if (!in(v, 0, 40)) {
            return BAD;
        }
        int was = own;
        own = v;
        return was;
    }

    private boolean couldCopy(long[][] apart, Saying s, Saying t) {
        if (s.seen() || s.thing() != t.thing() || s.sheet() == t.sheet() || s.denied() != t.denied()) {
            return false;
        }
        int way = way(desk.sheets().get(t.sheet()).town(), desk.sheets().get(s.sheet()).town());
        if (way < 0 || last(apart, s.sheet()) < first(apart, t.sheet()) + way) {
            return false;
        }
        int mine = first(apart, s.sheet());
        int its = first(apart, t.sheet());
        return its < mine || its == mine && t.sheet() < s.sheet();
    }

    /** Of whom a saying has it; -1: of nobody. */
    private int source(long[][] apart, int saying) {
        Saying s = desk.sayings().get(saying);
        for (int cost = 0; cost <= own; cost++) {
            for (int t = 0; t < desk.sayings().size(); t++) {
                Saying other = desk.sayings().get(t);
                if (couldCopy(apart, s, other) && unlike(s, other) == cost) {
                    return t;
                }
            }
        }
        return -1;
    }

    private List<Integer> chain(long[][] apart, int saying) {
        List<Integer> chain = new ArrayList<>();
        for (int at = saying; at >= 0; at = source(apart, at)) {
            chain.add(at);
        }
        return chain;
    }

    private int root(long[][] apart, int saying) {
        List<Integer> chain = chain(apart, saying);
        return chain.get(chain.size() - 1);
    }

    int from(int saying) {
        if (noSaying(saying)) {
            return BAD;
        }
        long[][] apart = apart();
        if (apart == null) {
            return NO;
        }
        int source = source(apart, saying);
        return source < 0 ? NONE : source;
    }

    int voice(int saying, int what) {
        if (noSaying(saying) || !in(what, 0, 2)) {
            return BAD;
        }
        long[][] apart = apart();
        if (apart == null) {
            return NO;
        }
        int root = root(apart, saying);
        if (what == 0) {
            return root;
        }
        if (what == 2) {
            return chain(apart, saying).size() - 1;
        }
        int have = 0;
        for (int s = 0; s < desk.sayings().size(); s++) {
            have += root(apart, s) == root ? 1 : 0;
        }
        return have;
    }

    int voices(int thing, boolean denied) {
        if (!in(thing, 0, 9)) {
            return BAD;
        }
        long[][] apart = apart();
        if (apart == null) {
            return NO;
        }
        int found = 0;
        for (int s = 0; s < desk.sayings().size(); s++) {
            Saying saying = desk.sayings().get(s);
            found += saying.thing() == thing && saying.denied() == denied && source(apart, s) < 0 ? 1 : 0;
        }
        return found;
    }

    private int grown(long[][] apart, int s) {
        int source = source(apart, s);
        return source < 0 ? 0 : desk.sayings().get(s).number() - desk.sayings().get(source).number();
    }

    int grew(int saying) {
        if (noSaying(saying)) {
            return -100000;
        }
        long[][] apart = apart();
        return apart == null ? -100002 : grown(apart, saying);
    }

    int habit(int writer) {
        if (!in(writer, 0, 7)) {
            return -1000000;
        }
        long[][] apart = apart();
        if (apart == null) {
            return -1000002;
        }
        int sum = 0;
        for (int s = 0; s < desk.sayings().size(); s++) {
            if (desk.sheets().get(desk.sayings().get(s).sheet()).writer() == writer) {
                sum += grown(apart, s);
            }
        }
        return sum;
    }

    // ---- rules, belief

    int write(int n, long v) {
        if (!in(n, 1, 8)) {
            return BAD;
        }
        if (text.length() + n > 200) {
            return FULL;
        }
        byte[] bytes = java.nio.ByteBuffer.allocate(8).putLong(v).array();
        text += new String(bytes, 8 - n, n, StandardCharsets.ISO_8859_1);
        return text.length();
    }

    int wipe() {
        int was = text.length();
        text = "";
        return was;
    }

    private static boolean good(Item item) {
        List<Integer> n = item.numbers();
        switch (item.letter()) {
            case 'w':
                return n.size() == 3 && n.get(0) <= 5 && n.get(1) <= 100;
            case 'v':
                return n.size() == 3 && n.get(0) <= 7 && n.get(1) <= 100;
            case 'o':
                return n.size() == 2;
            case 'b':
                return n.size() == 2 && n.get(0) >= 1;
            case 'x':
                return n.size() == 2 && n.get(0) <= 9;
            case 'n':
                return n.size() == 4 && n.get(0) <= 5 && n.get(1) <= 9 && n.get(2) <= n.get(3);
            default:
                return false;
        }
    }

    private int read(List<Item> into) {
        Matcher matcher = ITEM.matcher(text);
        int at = 0;
        while (at < text.length()) {
            if (!matcher.find(at) || matcher.start() != at) {
                return at;
            }
            List<Integer> numbers = new ArrayList<>();
            for (String number : matcher.group(2).split(",")) {
                numbers.add(Integer.valueOf(number));
            }
            Item item = new Item(matcher.group(1).charAt(0), numbers);
            if (!good(item)) {
                return at;
            }
            into.add(item);
            at = matcher.end();
        }
        return NONE;
    }

    int fault() {
        return read(new ArrayList<>());
    }

    int force() {
        List<Item> read = new ArrayList<>();
        if (read(read) != NONE) {
            return NO;
        }
        items = read;
        return items.size();
    }

    private int holding(char letter, int k, int day) {
        int found = NONE;
        for (int i = 0; i < items.size(); i++) {
            Item item = items.get(i);
            boolean ofIt = letter != 'w' && letter != 'v' || item.of() == k;
            if (item.letter() == letter && ofIt && item.since() <= day) {
                found = i;
            }
        }
        return found;
    }

    private int amount(char letter, int k, int day) {
        int i = holding(letter, k, day);
        if (i >= 0) {
            return items.get(i).amount();
        }
        return Map.of('w', 10, 'v', 0, 'o', 999, 'b', 20, 'x', 1).get(letter);
    }

    private static boolean noRule(int what, int k, int day) {
        return !in(what, 0, 4) || what == 0 && !in(k, 0, 5) || what == 1 && !in(k, 0, 7) || !in(day, 0, 999);
    }

    int rule(int what, int k, int day) {
        return noRule(what, k, day) ? BAD : amount("wvobx".charAt(what), k, day);
    }

    int why(int what, int k, int day) {
        return noRule(what, k, day) ? BAD : holding("wvobx".charAt(what), k, day);
    }

    int quarrel() {
        for (int i = 0; i < items.size(); i++) {
            for (int j = i + 1; j < items.size(); j++) {
                Item a = items.get(i);
                Item b = items.get(j);
                if (a.letter() != 'n' && a.letter() == b.letter() && a.of() == b.of() && a.since() == b.since()
                        && a.amount() != b.amount()) {
                    return 100 * i + j;
                }
            }
        }
        return NONE;
    }

    int closet(int town) {
        if (!in(town, 0, 5)) {
            return BAD;
        }
        int was = closet;
        closet = town;
        return was;
    }

    private int arrival(long[][] apart, Saying s) {
        int way = way(desk.sheets().get(s.sheet()).town(), closet);
        return way < 0 ? NONE : first(apart, s.sheet()) + way;
    }

    int came(int saying) {
        if (noSaying(saying)) {
            return BAD;
        }
        long[][] apart = apart();
        return apart == null ? NO : arrival(apart, desk.sayings().get(saying));
    }

    int belief(int thing, int day, int what) {
        if (!in(thing, 0, 9) || !in(day, 0, 999) || !in(what, 0, 1)) {
            return -1000000;
        }
        long[][] apart = apart();
        if (apart == null) {
            return -1000002;
        }
        int weight = 0;
        for (int voice = 0; voice < desk.sayings().size(); voice++) {
            Saying v = desk.sayings().get(voice);
            if (v.thing() != thing || source(apart, voice) >= 0 || !heard(apart, voice, day)) {
                continue;
            }
            Sheet sheet = desk.sheets().get(v.sheet());
            int one = amount('w', sheet.town(), day) + amount('v', sheet.writer(), day);
            weight += v.denied() ? -amount('x', 0, day) * one : one;
        }
        return what == 0 ? weight : weight >= amount('b', 0, day) ? 1 : 0;
    }

    private boolean heard(long[][] apart, int voice, int day) {
        for (int s = 0; s < desk.sayings().size(); s++) {
            Saying saying = desk.sayings().get(s);
            int arrival = arrival(apart, saying);
            boolean old = day - first(apart, saying.sheet()) > amount('o', 0, day);
            if (arrival >= 0 && arrival <= day && !old && chain(apart, s).contains(voice)) {
                return true;
            }
        }
        return false;
    }

    int banned(int i) {
        if (i < -1) {
            return BAD;
        }
        long[][] apart = apart();
        if (apart == null) {
            return NO;
        }
        List<Integer> found = new ArrayList<>();
        for (int s = 0; s < desk.sayings().size(); s++) {
            if (forbidden(apart, desk.sayings().get(s))) {
                found.add(s);
            }
        }
        return i == -1 ? found.size() : i < found.size() ? found.get(i) : NONE;
    }

    private boolean forbidden(long[][] apart, Saying s) {
        for (int day = first(apart, s.sheet()); day <= last(apart, s.sheet()); day++) {
            for (Item item : items) {
                List<Integer> n = item.numbers();
                if (item.letter() == 'n' && n.get(0) == desk.sheets().get(s.sheet()).town() && n.get(1) == s.thing()
                        && in(day, n.get(2), n.get(3))) {
                    return true;
                }
            }
        }
        return false;
    }

    // ---- truth, gains, choices

    int truth(int thing, int number) {
        if (!in(thing, 0, 9) || !in(number, -1, 9999)) {
            return -100;
        }
        Integer was = number == -1 ? desk.truths().remove(thing) : desk.truths().put(thing, number);
        return was == null ? -1 : was;
    }

    int right(int writer, int what) {
        if (!in(writer, 0, 7) || !in(what, 0, 2)) {
            return BAD;
        }
        long[][] apart = apart();
        if (apart == null) {
            return NO;
        }
        int right = 0;
        int all = 0;
        int off = 0;
        for (int s = 0; s < desk.sayings().size(); s++) {
            Saying saying = desk.sayings().get(s);
            Integer truth = desk.truths().get(saying.thing());
            if (desk.sheets().get(saying.sheet()).writer() != writer || saying.denied() || truth == null
                    || source(apart, s) >= 0) {
                continue;
            }
            all++;
            right += truth == saying.number() ? 1 : 0;
            off += Math.abs(truth - saying.number());
        }
        return new int[] {right, all, off}[what];
    }

    long beyond(int n, int k, int m) {
        if (!in(n, 1, 15) || !in(m, 2, 10) || !in(k, 0, n)) {
            return BAD;
        }
        long[] ways = new long[n + 1];
        ways[0] = 1;
        for (int look = 0; look < n; look++) {
            for (int helped = n; helped >= 0; helped--) {
                ways[helped] = ways[helped] * (m - 1) + (helped > 0 ? ways[helped - 1] : 0);
            }
        }
        long sum = 0;
        for (int helped = k; helped <= n; helped++) {
            sum += ways[helped];
        }
        return sum;
    }

    int known(int thing, int town, int what) {
        if (!in(thing, 0, 9) || !in(town, 0, 5) || !in(what, 0, 1)) {
            return BAD;
        }
        Place place = desk.events().get(thing);
        if (place == null) {
            return NO;
        }
        int way = way(place.town(), town);
        if (way < 0) {
            return NONE;
        }
        if (what == 0) {
            return place.day() + way;
        }
        for (int lag = 1; lag <= 300; lag++) {
            for (int other = 0; other < 6; other++) {
                if (way(place.town(), other) == way + lag) {
                    return lag;
                }
            }
        }
        return NONE;
    }

    int worth(int choice, int truth, int v) {
        if (!in(choice, 0, 5) || !in(truth, 0, 3) || !in(v, -1000, 1000)) {
            return -10000;
        }
        Integer was = worths.put(List.of(choice, truth), v);
        return was == null ? 0 : was;
    }

    private int worthOf(int choice, int truth) {
        return worths.getOrDefault(List.of(choice, truth), 0);
    }

    int buy(int n, int truths, int what) {
        if (!in(n, 1, 6) || !in(truths, 1, 15) || !in(what, 0, 3)) {
            return -10000;
        }
        int best = -1;
        int score = 0;
        for (int choice = 0; choice < n; choice++) {
            int its = Integer.MAX_VALUE;
            for (int truth = 0; truth < 4; truth++) {
                if ((truths & 1 << truth) == 0) {
                    continue;
                }
                int top = worthOf(0, truth);
                for (int other = 0; other < n; other++) {
                    top = Math.max(top, worthOf(other, truth));
                }
                its = Math.min(its, what < 2 ? worthOf(choice, truth) : worthOf(choice, truth) - top);
            }
            if (best < 0 || its > score) {
                best = choice;
                score = its;
            }
        }
        return what % 2 == 0 ? best : what == 1 ? score : -score;
    }

    int keep() {
        if (kept.size() == 2) {
            return FULL;
        }
        kept.push(desk.copy());
        return kept.size();
    }

    int back() {
        if (kept.isEmpty()) {
            return NO;
        }
        desk = kept.pop();
        return kept.size();
    }

    int count(int what) {
        if (!in(what, 0, 8)) {
            return BAD;
        }
        return new int[] {desk.sheets().size(), desk.pairs().size(), desk.events().size(), desk.sayings().size(),
            desk.truths().size(), text.length(), items.size(), kept.size(), posts.size()}[what];
    }
}
