import java.util.Arrays;

/** News by hand; what each call answers stands in DOC.md, as promises 1 to 38. */
public final class HandNews {
    public static final int BAD = -1, NO = -2, FULL = -3, NONE = -4;

    private static final int TOWNS = 6;
    private static final int WRITERS = 8;
    private static final int THINGS = 10;
    private static final int LAST_DAY = 999;
    private static final int LONGEST_POST = 60;
    private static final int MOST_SHEETS = 12;
    private static final int MOST_BEHIND = 20;
    private static final int MOST_SAYINGS = 30;
    private static final int HIGHEST_NUMBER = 9999;
    private static final int ALL_WORDS = 255;
    private static final int FIGURES = 4;
    private static final int HIGHEST_OWN = 40;
    private static final int MOST_BYTES = 200;
    private static final int MOST_KEPT = 2;
    private static final int CHOICES = 6;
    private static final int TRUTHS = 4;
    private static final int HIGHEST_WORTH = 1000;

    /** What stands in a row where nothing is told. */
    private static final int UNTOLD = -1;

    // Some answers may be below 0 themselves, so these calls have a BAD and a NO of their own.
    private static final int BAD_TELLING = -100;
    private static final int BAD_GROWTH = -100000;
    private static final int NO_GROWTH = -100002;
    private static final int BAD_SUM = -1000000;
    private static final int NO_SUM = -1000002;
    private static final int BAD_WORTH = -10000;

    private final Posts posts = new Posts();
    private final Papers papers = new Papers();
    private final Papers[] kept = {new Papers(), new Papers()};
    private final Spans spans = new Spans();
    private final Tree tree = new Tree();
    private final Text text = new Text();
    private final Worths worths = new Worths();
    private Items inForce = new Items();
    private Items spare = new Items();
    private int keptCount = 0;
    private int ownLimit = 12;
    private int closetTown = 0;
    private boolean settled = false;

    public HandNews() {
    }

    // ---- towns, sheets

    public int post(int from, int to, int least, int most) {
        if (!isTown(from) || !isTown(to) || from == to) {
            return BAD;
        }
        if (least < 1 || most > LONGEST_POST || least > most) {
            return BAD;
        }
        if (papers.sheets > 0) {
            return NO;
        }
        posts.tell(from, to, least, most);
        settled = false;
        return 0;
    }

    public int way(int from, int to) {
        if (!isTown(from) || !isTown(to)) {
            return BAD;
        }
        return posts.leads(from, to) ? posts.days(from, to) : NONE;
    }

    public int slow(int from, int to) {
        if (!isTown(from) || !isTown(to)) {
            return BAD;
        }
        return posts.leads(from, to) ? posts.slowestDays(from, to) : NONE;
    }

    public int sheet(int town, int writer, int day) {
        if (!isTown(town) || !isWriter(writer) || !isDayOrNone(day)) {
            return BAD;
        }
        if (papers.sheets >= MOST_SHEETS) {
            return FULL;
        }
        settled = false;
        return papers.addSheet(town, writer, day);
    }

    public int dated(int sheet, int day) {
        if (!isSheet(sheet) || !isDayOrNone(day)) {
            return BAD_TELLING;
        }
        int was = papers.sheetDay[sheet];
        papers.sheetDay[sheet] = day;
        settled = false;
        return was;
    }

    public int behind(int sheet, int other) {
        if (!isSheet(sheet) || !isSheet(other) || sheet == other) {
            return BAD;
        }
        if (!posts.leads(papers.sheetTown[other], papers.sheetTown[sheet])) {
            return NO;
        }
        if (papers.pairs >= MOST_BEHIND) {
            return FULL;
        }
        settled = false;
        return papers.addPair(sheet, other);
    }

    public int happened(int thing, int town, int day) {
        if (!isThing(thing) || !isTown(town) || !isDay(day)) {
            return BAD;
        }
        if (papers.hasHappened(thing) || !reachesAllThatSay(thing, town)) {
            return NO;
        }
        papers.thingTown[thing] = town;
        papers.thingDay[thing] = day;
        settled = false;
        return 0;
    }

    public int span(int sheet, int what) {
        if (!isSheet(sheet) || what < 0 || what > 1) {
            return BAD;
        }
        if (isQuarrel()) {
            return NO;
        }
        return what == 0 ? spans.first[sheet] : spans.last[sheet];
    }

    public int ahead(int a, int b) {
        if (!isSheet(a) || !isSheet(b)) {
            return BAD;
        }
        if (isQuarrel()) {
            return NO;
        }
        return spans.canBeNoEarlier(papers, posts, a, b) ? 0 : 1;
    }

    // ---- sayings

    public int say(int sheet, int thing, int number, int words, boolean seen, boolean denied) {
        if (!isSheet(sheet) || !isThing(thing)) {
            return BAD;
        }
        if (number < 0 || number > HIGHEST_NUMBER || words < 0 || words > ALL_WORDS) {
            return BAD;
        }
        if (papers.hasHappened(thing)
                && !posts.leads(papers.thingTown[thing], papers.sheetTown[sheet])) {
            return NO;
        }
        if (papers.sayings >= MOST_SAYINGS) {
            return FULL;
        }
        settled = false;
        int saying = papers.addSaying(sheet, thing, number, words);
        papers.mark(saying, seen, denied);
        return saying;
    }

    public int change(int a, int b) {
        if (!isSaying(a) || !isSaying(b) || papers.thingOf[a] != papers.thingOf[b]) {
            return BAD;
        }
        return papers.unlikeness(a, b);
    }

    public int own(int v) {
        if (v < 0 || v > HIGHEST_OWN) {
            return BAD;
        }
        int was = ownLimit;
        ownLimit = v;
        settled = false;
        return was;
    }

    public int from(int saying) {
        if (!isSaying(saying)) {
            return BAD;
        }
        if (isQuarrel()) {
            return NO;
        }
        return tree.isVoice(saying) ? NONE : tree.source[saying];
    }

    public int voice(int saying, int what) {
        if (!isSaying(saying) || what < 0 || what > 2) {
            return BAD;
        }
        if (isQuarrel()) {
            return NO;
        }
        if (what == 0) {
            return tree.root[saying];
        }
        return what == 1 ? followers(tree.root[saying]) : tree.copies[saying];
    }

    public int voices(int thing, boolean denied) {
        if (!isThing(thing)) {
            return BAD;
        }
        if (isQuarrel()) {
            return NO;
        }
        int found = 0;
        for (int s = 0; s < papers.sayings; s++) {
            if (papers.thingOf[s] == thing && papers.isDenied(s) == denied && tree.isVoice(s)) {
                found++;
            }
        }
        return found;
    }

    public int grew(int saying) {
        if (!isSaying(saying)) {
            return BAD_GROWTH;
        }
        return isQuarrel() ? NO_GROWTH : growth(saying);
    }

    public int habit(int writer) {
        if (!isWriter(writer)) {
            return BAD_SUM;
        }
        if (isQuarrel()) {
            return NO_SUM;
        }
        int sum = 0;
        for (int s = 0; s < papers.sayings; s++) {
            if (papers.writerOf(s) == writer) {
                sum += growth(s);
            }
        }
        return sum;
    }

    // ---- rules, belief

    public int write(int n, long v) {
        if (n < 1 || n > 8) {
            return BAD;
        }
        if (text.length + n > MOST_BYTES) {
            return FULL;
        }
        text.append(n, v);
        return text.length;
    }

    public int wipe() {
        int was = text.length;
        text.length = 0;
        return was;
    }

    public int fault() {
        return spare.read(text);
    }

    public int force() {
        if (spare.read(text) != NONE) {
            return NO;
        }
        Items old = inForce;
        inForce = spare;
        spare = old;
        return inForce.size;
    }

    public int rule(int what, int k, int day) {
        if (!isRule(what, k) || !isDay(day)) {
            return BAD;
        }
        return inForce.amountOn(what, k, day);
    }

    public int why(int what, int k, int day) {
        if (!isRule(what, k) || !isDay(day)) {
            return BAD;
        }
        return inForce.holding(what, k, day);
    }

    public int quarrel() {
        return inForce.firstQuarrel();
    }

    public int closet(int town) {
        if (!isTown(town)) {
            return BAD;
        }
        int was = closetTown;
        closetTown = town;
        return was;
    }

    public int came(int saying) {
        if (!isSaying(saying)) {
            return BAD;
        }
        if (isQuarrel()) {
            return NO;
        }
        return arrival(saying);
    }

    public int belief(int thing, int day, int what) {
        if (!isThing(thing) || !isDay(day) || what < 0 || what > 1) {
            return BAD_SUM;
        }
        if (isQuarrel()) {
            return NO_SUM;
        }
        int weight = weightOf(thing, day);
        if (what == 0) {
            return weight;
        }
        return weight >= inForce.amountOn(Items.B, 0, day) ? 1 : 0;
    }

    public int banned(int i) {
        if (i < -1) {
            return BAD;
        }
        if (isQuarrel()) {
            return NO;
        }
        int found = 0;
        for (int s = 0; s < papers.sayings; s++) {
            if (!isForbidden(s)) {
                continue;
            }
            if (found == i) {
                return s;
            }
            found++;
        }
        return i == -1 ? found : NONE;
    }

    // ---- truth, gains, choices

    public int truth(int thing, int number) {
        if (!isThing(thing) || number < UNTOLD || number > HIGHEST_NUMBER) {
            return BAD_TELLING;
        }
        int was = papers.truthOf[thing];
        papers.truthOf[thing] = number;
        return was;
    }

    public int right(int writer, int what) {
        if (!isWriter(writer) || what < 0 || what > 2) {
            return BAD;
        }
        if (isQuarrel()) {
            return NO;
        }
        int sum = 0;
        for (int s = 0; s < papers.sayings; s++) {
            if (papers.writerOf(s) == writer && isTried(s)) {
                sum += outcome(s, what);
            }
        }
        return sum;
    }

    public long beyond(int n, int k, int m) {
        if (n < 1 || n > 15 || m < 2 || m > 10 || k < 0 || k > n) {
            return BAD;
        }
        long sum = 0;
        for (int helped = k; helped <= n; helped++) {
            sum += choices(n, helped) * power(m - 1, n - helped);
        }
        return sum;
    }

    public int known(int thing, int town, int what) {
        if (!isThing(thing) || !isTown(town) || what < 0 || what > 1) {
            return BAD;
        }
        if (!papers.hasHappened(thing)) {
            return NO;
        }
        int first = firstKnown(thing, town);
        if (what == 0 || first == NONE) {
            return first;
        }
        return lagBehind(thing, first);
    }

    public int worth(int choice, int truth, int v) {
        if (choice < 0 || choice >= CHOICES || truth < 0 || truth >= TRUTHS) {
            return BAD_WORTH;
        }
        if (v < -HIGHEST_WORTH || v > HIGHEST_WORTH) {
            return BAD_WORTH;
        }
        return worths.put(choice, truth, v);
    }

    public int buy(int n, int truths, int what) {
        if (n < 1 || n > CHOICES || truths < 1 || truths >= 1 << TRUTHS || what < 0 || what > 3) {
            return BAD_WORTH;
        }
        if (what < 2) {
            int safest = worths.safest(n, truths);
            return what == 0 ? safest : worths.leastOf(safest, truths);
        }
        int calmest = worths.calmest(n, truths);
        return what == 2 ? calmest : worths.regretOf(calmest, n, truths);
    }

    public int keep() {
        if (keptCount >= MOST_KEPT) {
            return FULL;
        }
        kept[keptCount].copyFrom(papers);
        keptCount++;
        return keptCount;
    }

    public int back() {
        if (keptCount < 1) {
            return NO;
        }
        keptCount--;
        papers.copyFrom(kept[keptCount]);
        settled = false;
        return keptCount;
    }

    public int count(int what) {
        switch (what) {
            case 0:
                return papers.sheets;
            case 1:
                return papers.pairs;
            case 2:
                return toldIn(papers.thingDay);
            case 3:
                return papers.sayings;
            case 4:
                return toldIn(papers.truthOf);
            case 5:
                return text.length;
            case 6:
                return inForce.size;
            case 7:
                return keptCount;
            case 8:
                return posts.told;
            default:
                return BAD;
        }
    }

    // ---- what is told

    private static boolean isTown(int town) {
        return town >= 0 && town < TOWNS;
    }

    private static boolean isWriter(int writer) {
        return writer >= 0 && writer < WRITERS;
    }

    private static boolean isThing(int thing) {
        return thing >= 0 && thing < THINGS;
    }

    private static boolean isDay(int day) {
        return day >= 0 && day <= LAST_DAY;
    }

    private static boolean isDayOrNone(int day) {
        return day == UNTOLD || isDay(day);
    }

    private boolean isSheet(int sheet) {
        return sheet >= 0 && sheet < papers.sheets;
    }

    private boolean isSaying(int saying) {
        return saying >= 0 && saying < papers.sayings;
    }

    private static boolean isRule(int what, int k) {
        if (what == Items.W) {
            return isTown(k);
        }
        if (what == Items.V) {
            return isWriter(k);
        }
        return what > Items.V && what < Items.N;
    }

    private static boolean isIn(int set, int member) {
        return (set >> member & 1) == 1;
    }

    private static int with(int set, int member, boolean in) {
        return in ? set | 1 << member : set & ~(1 << member);
    }

    private static int toldIn(int[] row) {
        int told = 0;
        for (int value : row) {
            if (value != UNTOLD) {
                told++;
            }
        }
        return told;
    }

    // ---- spans and the tree, reckoned again only after something was told

    private boolean isQuarrel() {
        if (!settled) {
            spans.reckon(papers, posts);
            if (!spans.quarrels) {
                tree.grow(papers, posts, spans, ownLimit);
            }
            settled = true;
        }
        return spans.quarrels;
    }

    private boolean reachesAllThatSay(int thing, int town) {
        for (int s = 0; s < papers.sayings; s++) {
            if (papers.thingOf[s] == thing && !posts.leads(town, papers.townOf(s))) {
                return false;
            }
        }
        return true;
    }

    private int followers(int voice) {
        int found = 0;
        for (int s = 0; s < papers.sayings; s++) {
            if (tree.root[s] == voice) {
                found++;
            }
        }
        return found;
    }

    private int growth(int saying) {
        if (tree.isVoice(saying)) {
            return 0;
        }
        return papers.number[saying] - papers.number[tree.source[saying]];
    }

    // ---- what came to the closet, and what is forbidden

    private int arrival(int saying) {
        int town = papers.townOf(saying);
        if (!posts.leads(town, closetTown)) {
            return NONE;
        }
        return spans.first[papers.sheetOf[saying]] + posts.days(town, closetTown);
    }

    private int weightOf(int thing, int day) {
        int heard = voicesHeard(thing, day);
        int weight = 0;
        for (int s = 0; s < papers.sayings; s++) {
            if (isIn(heard, s)) {
                weight += weightOfVoice(s, day);
            }
        }
        return weight;
    }

    /** A set of voices: one counts once, by however many sayings it came. */
    private int voicesHeard(int thing, int day) {
        int heard = 0;
        int oldest = inForce.amountOn(Items.O, 0, day);
        for (int s = 0; s < papers.sayings; s++) {
            if (papers.thingOf[s] != thing) {
                continue;
            }
            int arrived = arrival(s);
            int age = day - spans.first[papers.sheetOf[s]];
            if (arrived != NONE && arrived <= day && age <= oldest) {
                heard |= 1 << tree.root[s];
            }
        }
        return heard;
    }

    private int weightOfVoice(int voice, int day) {
        int weight = inForce.amountOn(Items.W, papers.townOf(voice), day)
                + inForce.amountOn(Items.V, papers.writerOf(voice), day);
        return papers.isDenied(voice) ? -weight * inForce.amountOn(Items.X, 0, day) : weight;
    }

    private boolean isForbidden(int saying) {
        int sheet = papers.sheetOf[saying];
        return inForce.forbids(papers.sheetTown[sheet], papers.thingOf[saying],
                spans.first[sheet], spans.last[sheet]);
    }

    // ---- truth, gains

    private boolean isTried(int saying) {
        return !papers.isDenied(saying) && tree.isVoice(saying)
                && papers.truthOf[papers.thingOf[saying]] != UNTOLD;
    }

    private int outcome(int saying, int what) {
        int off = Math.abs(papers.number[saying] - papers.truthOf[papers.thingOf[saying]]);
        if (what == 0) {
            return off == 0 ? 1 : 0;
        }
        return what == 1 ? 1 : off;
    }

    private static long choices(int n, int k) {
        long ways = 1;
        for (int i = 1; i <= k; i++) {
            ways = ways * (n - k + i) / i;
        }
        return ways;
    }

    private static long power(int base, int exponent) {
        long product = 1;
        for (int i = 0; i < exponent; i++) {
            product *= base;
        }
        return product;
    }

    private int firstKnown(int thing, int town) {
        int origin = papers.thingTown[thing];
        if (!posts.leads(origin, town)) {
            return NONE;
        }
        return papers.thingDay[thing] + posts.days(origin, town);
    }

    private int lagBehind(int thing, int first) {
        int lag = NONE;
        for (int town = 0; town < TOWNS; town++) {
            int later = firstKnown(thing, town);
            if (later > first && (lag == NONE || later - first < lag)) {
                lag = later - first;
            }
        }
        return lag;
    }

    /** The posts told, and by them the least days from each town to each. */
    private static final class Posts {
        /** Above any sum of days, and small enough that two of it can be added. */
        private static final int NO_WAY = 1000000;

        final int[] least = new int[TOWNS * TOWNS];
        final int[] most = new int[TOWNS * TOWNS];
        final int[] shortest = new int[TOWNS * TOWNS];
        final int[] slowest = new int[TOWNS * TOWNS];
        int told = 0;

        Posts() {
            reckon();
        }

        void tell(int from, int to, int leastDays, int mostDays) {
            int at = from * TOWNS + to;
            if (least[at] == 0) {
                told++;
            }
            least[at] = leastDays;
            most[at] = mostDays;
            reckon();
        }

        boolean leads(int from, int to) {
            return shortest[from * TOWNS + to] < NO_WAY;
        }

        int days(int from, int to) {
            return shortest[from * TOWNS + to];
        }

        int slowestDays(int from, int to) {
            return slowest[from * TOWNS + to];
        }

        private void reckon() {
            layPosts();
            for (int via = 0; via < TOWNS; via++) {
                for (int from = 0; from < TOWNS; from++) {
                    for (int to = 0; to < TOWNS; to++) {
                        goThrough(from, via, to);
                    }
                }
            }
        }

        private void layPosts() {
            for (int at = 0; at < TOWNS * TOWNS; at++) {
                boolean stays = at / TOWNS == at % TOWNS;
                shortest[at] = stays ? 0 : least[at] > 0 ? least[at] : NO_WAY;
                slowest[at] = most[at];
            }
        }

        private void goThrough(int from, int via, int to) {
            int at = from * TOWNS + to;
            int here = from * TOWNS + via;
            int there = via * TOWNS + to;
            int days = shortest[here] + shortest[there];
            int slowDays = slowest[here] + slowest[there];
            if (days >= NO_WAY) {
                return;
            }
            if (days < shortest[at] || days == shortest[at] && slowDays > slowest[at]) {
                shortest[at] = days;
                slowest[at] = slowDays;
            }
        }
    }

    /** All that is kept: sheets, which is behind which, sayings, what happened, truths. */
    private static final class Papers {
        int sheets = 0;
        final int[] sheetTown = new int[MOST_SHEETS];
        final int[] sheetWriter = new int[MOST_SHEETS];
        final int[] sheetDay = new int[MOST_SHEETS];
        int pairs = 0;
        final int[] later = new int[MOST_BEHIND];
        final int[] earlier = new int[MOST_BEHIND];
        int sayings = 0;
        final int[] sheetOf = new int[MOST_SAYINGS];
        final int[] thingOf = new int[MOST_SAYINGS];
        final int[] number = new int[MOST_SAYINGS];
        final int[] words = new int[MOST_SAYINGS];
        // Sets of sayings, a bit for each.
        int seenOnes = 0;
        int deniedOnes = 0;
        final int[] thingTown = new int[THINGS];
        final int[] thingDay = new int[THINGS];
        final int[] truthOf = new int[THINGS];

        Papers() {
            Arrays.fill(thingDay, UNTOLD);
            Arrays.fill(truthOf, UNTOLD);
        }

        int addSheet(int town, int writer, int day) {
            int sheet = sheets;
            sheetTown[sheet] = town;
            sheetWriter[sheet] = writer;
            sheetDay[sheet] = day;
            sheets++;
            return sheet;
        }

        int addPair(int sheet, int other) {
            later[pairs] = sheet;
            earlier[pairs] = other;
            pairs++;
            return pairs;
        }

        int addSaying(int sheet, int thing, int sum, int wordSet) {
            int saying = sayings;
            sheetOf[saying] = sheet;
            thingOf[saying] = thing;
            number[saying] = sum;
            words[saying] = wordSet;
            sayings++;
            return saying;
        }

        void mark(int saying, boolean seen, boolean denied) {
            seenOnes = with(seenOnes, saying, seen);
            deniedOnes = with(deniedOnes, saying, denied);
        }

        boolean isSeen(int saying) {
            return isIn(seenOnes, saying);
        }

        boolean isDenied(int saying) {
            return isIn(deniedOnes, saying);
        }

        boolean hasHappened(int thing) {
            return thingDay[thing] != UNTOLD;
        }

        int townOf(int saying) {
            return sheetTown[sheetOf[saying]];
        }

        int writerOf(int saying) {
            return sheetWriter[sheetOf[saying]];
        }

        int unlikeness(int a, int b) {
            int sum = Integer.bitCount(words[a] ^ words[b]);
            int x = number[a];
            int y = number[b];
            for (int figure = 0; figure < FIGURES; figure++) {
                if (x % 10 != y % 10) {
                    sum += 3;
                }
                x /= 10;
                y /= 10;
            }
            return sum;
        }

        void copyFrom(Papers other) {
            sheets = other.sheets;
            System.arraycopy(other.sheetTown, 0, sheetTown, 0, MOST_SHEETS);
            System.arraycopy(other.sheetWriter, 0, sheetWriter, 0, MOST_SHEETS);
            System.arraycopy(other.sheetDay, 0, sheetDay, 0, MOST_SHEETS);
            pairs = other.pairs;
            System.arraycopy(other.later, 0, later, 0, MOST_BEHIND);
            System.arraycopy(other.earlier, 0, earlier, 0, MOST_BEHIND);
            sayings = other.sayings;
            System.arraycopy(other.sheetOf, 0, sheetOf, 0, MOST_SAYINGS);
            System.arraycopy(other.thingOf, 0, thingOf, 0, MOST_SAYINGS);
            System.arraycopy(other.number, 0, number, 0, MOST_SAYINGS);
            System.arraycopy(other.words, 0, words, 0, MOST_SAYINGS);
            seenOnes = other.seenOnes;
            deniedOnes = other.deniedOnes;
            System.arraycopy(other.thingTown, 0, thingTown, 0, THINGS);
            System.arraycopy(other.thingDay, 0, thingDay, 0, THINGS);
            System.arraycopy(other.truthOf, 0, truthOf, 0, THINGS);
        }
    }

    /** The first and the last day that all that is told lets each sheet have. */
    private static final class Spans {
        final int[] first = new int[MOST_SHEETS];
        final int[] last = new int[MOST_SHEETS];
        final int[] trial = new int[MOST_SHEETS];
        boolean quarrels = false;

        void reckon(Papers papers, Posts posts) {
            layFloors(papers, posts, first);
            quarrels = !rises(papers, posts, first, UNTOLD, UNTOLD);
            if (!quarrels) {
                layCeilings(papers);
                sink(papers, posts);
            }
        }

        /** One sheet is sure ahead of another if this cannot be: days hang together, so spans alone don't tell. */
        boolean canBeNoEarlier(Papers papers, Posts posts, int sheet, int other) {
            layFloors(papers, posts, trial);
            return rises(papers, posts, trial, sheet, other);
        }

        private void layFloors(Papers papers, Posts posts, int[] days) {
            for (int sheet = 0; sheet < papers.sheets; sheet++) {
                days[sheet] = Math.max(papers.sheetDay[sheet], 0);
            }
            for (int s = 0; s < papers.sayings; s++) {
                int thing = papers.thingOf[s];
                int sheet = papers.sheetOf[s];
                if (papers.hasHappened(thing)) {
                    int heardOf = papers.thingDay[thing]
                            + posts.days(papers.thingTown[thing], papers.sheetTown[sheet]);
                    days[sheet] = Math.max(days[sheet], heardOf);
                }
            }
        }

        private void layCeilings(Papers papers) {
            for (int sheet = 0; sheet < papers.sheets; sheet++) {
                last[sheet] = ceiling(papers, sheet);
            }
        }

        private static int ceiling(Papers papers, int sheet) {
            return papers.sheetDay[sheet] == UNTOLD ? LAST_DAY : papers.sheetDay[sheet];
        }

        /** Days that still rise after a round for each sheet go round in a ring, and would rise without end. */
        private boolean rises(Papers papers, Posts posts, int[] days, int sheet, int other) {
            boolean moved = true;
            for (int round = 0; round <= MOST_SHEETS && moved; round++) {
                moved = raise(papers, posts, days);
                if (sheet != UNTOLD && days[sheet] < days[other]) {
                    days[sheet] = days[other];
                    moved = true;
                }
            }
            return !moved && staysBelow(papers, days);
        }

        private static boolean raise(Papers papers, Posts posts, int[] days) {
            boolean moved = false;
            for (int pair = 0; pair < papers.pairs; pair++) {
                int floor = days[papers.earlier[pair]] + gap(papers, posts, pair);
                if (days[papers.later[pair]] < floor) {
                    days[papers.later[pair]] = floor;
                    moved = true;
                }
            }
            return moved;
        }

        private static boolean staysBelow(Papers papers, int[] days) {
            for (int sheet = 0; sheet < papers.sheets; sheet++) {
                if (days[sheet] > ceiling(papers, sheet)) {
                    return false;
                }
            }
            return true;
        }

        private void sink(Papers papers, Posts posts) {
            for (int round = 0; round < MOST_SHEETS; round++) {
                for (int pair = 0; pair < papers.pairs; pair++) {
                    int top = last[papers.later[pair]] - gap(papers, posts, pair);
                    int sheet = papers.earlier[pair];
                    last[sheet] = Math.min(last[sheet], top);
                }
            }
        }

        private static int gap(Papers papers, Posts posts, int pair) {
            return posts.days(papers.sheetTown[papers.earlier[pair]],
                    papers.sheetTown[papers.later[pair]]);
        }
    }

    /** Of whom each saying has it, by least change. */
    private static final class Tree {
        final int[] source = new int[MOST_SAYINGS];
        final int[] root = new int[MOST_SAYINGS];
        final int[] copies = new int[MOST_SAYINGS];

        boolean isVoice(int saying) {
            return source[saying] == UNTOLD;
        }

        void grow(Papers papers, Posts posts, Spans spans, int limit) {
            for (int s = 0; s < papers.sayings; s++) {
                source[s] = papers.isSeen(s) ? UNTOLD : nearest(papers, posts, spans, s, limit);
            }
            for (int s = 0; s < papers.sayings; s++) {
                climb(s);
            }
        }

        private static int nearest(Papers papers, Posts posts, Spans spans, int saying, int limit) {
            int best = UNTOLD;
            int least = limit + 1;
            for (int other = 0; other < papers.sayings; other++) {
                if (!couldCopy(papers, posts, spans, saying, other)) {
                    continue;
                }
                int unlike = papers.unlikeness(saying, other);
                if (unlike < least) {
                    least = unlike;
                    best = other;
                }
            }
            return best;
        }

        private static boolean couldCopy(Papers papers, Posts posts, Spans spans, int saying, int other) {
            int sheet = papers.sheetOf[saying];
            int origin = papers.sheetOf[other];
            if (sheet == origin || papers.thingOf[saying] != papers.thingOf[other]
                    || papers.isDenied(saying) != papers.isDenied(other)) {
                return false;
            }
            int from = papers.sheetTown[origin];
            int to = papers.sheetTown[sheet];
            if (!posts.leads(from, to)
                    || spans.last[sheet] < spans.first[origin] + posts.days(from, to)) {
                return false;
            }
            return spans.first[origin] < spans.first[sheet]
                    || spans.first[origin] == spans.first[sheet] && origin < sheet;
        }

        /** Each copy is in a later sheet than its source, so a chain is no longer than there are sheets. */
        private void climb(int saying) {
            int at = saying;
            int steps = 0;
            while (steps < MOST_SHEETS && source[at] != UNTOLD) {
                at = source[at];
                steps++;
            }
            root[saying] = at;
            copies[saying] = steps;
        }
    }

    /** The text of rules as it is written. */
    private static final class Text {
        final byte[] bytes = new byte[MOST_BYTES];
        int length = 0;

        void append(int n, long v) {
            for (int shift = 8 * (n - 1); shift >= 0; shift -= 8) {
                bytes[length] = (byte) (v >>> shift);
                length++;
            }
        }

        int byteAt(int place) {
            return place >= 0 && place < length ? bytes[place] : UNTOLD;
        }
    }

    /** The items of a text: a letter's kind, of which town or writer, how much, from which day, to which. */
    private static final class Items {
        // The kinds are numbered as the calls number them; n has no such number.
        private static final int W = 0, V = 1, O = 2, B = 3, X = 4, N = 5;
        private static final String LETTERS = "wvobxn";
        private static final int PARTS = 4;
        /** The highest number of each part; o, b and x are of no town or writer, only n ends. */
        private static final int[] HIGHEST = {
            TOWNS - 1, 100, LAST_DAY, UNTOLD,
            WRITERS - 1, 100, LAST_DAY, UNTOLD,
            UNTOLD, 999, LAST_DAY, UNTOLD,
            UNTOLD, 999, LAST_DAY, UNTOLD,
            UNTOLD, 9, LAST_DAY, UNTOLD,
            TOWNS - 1, THINGS - 1, LAST_DAY, LAST_DAY};
        private static final int[] WITHOUT = {10, 0, 999, 20, 1};
        /** The shortest item has five bytes. */
        private static final int MOST_ITEMS = MOST_BYTES / 5;

        final int[] kind = new int[MOST_ITEMS];
        final int[] subject = new int[MOST_ITEMS];
        final int[] amount = new int[MOST_ITEMS];
        final int[] since = new int[MOST_ITEMS];
        final int[] until = new int[MOST_ITEMS];
        final int[] part = new int[PARTS];
        int size = 0;
        private int place = 0;

        /** Answers the place of the first item that is not so, or NONE. */
        int read(Text text) {
            size = 0;
            place = 0;
            while (place < text.length && size < MOST_ITEMS) {
                int start = place;
                if (!readItem(text)) {
                    return start;
                }
                size++;
            }
            return place < text.length ? place : NONE;
        }

        private boolean readItem(Text text) {
            int letter = kindOf(text.byteAt(place));
            if (letter == UNTOLD) {
                return false;
            }
            place++;
            if (!readParts(text, letter)) {
                return false;
            }
            if (letter == B && part[1] < 1 || letter == N && part[2] > part[3]) {
                return false;
            }
            kind[size] = letter;
            subject[size] = part[0];
            amount[size] = part[1];
            since[size] = part[2];
            until[size] = part[3];
            return true;
        }

        private static int kindOf(int letter) {
            for (int i = 0; i < LETTERS.length(); i++) {
                if (LETTERS.charAt(i) == letter) {
                    return i;
                }
            }
            return UNTOLD;
        }

        private boolean readParts(Text text, int letter) {
            int lastPart = letter == N ? 3 : 2;
            for (int i = 0; i < PARTS; i++) {
                part[i] = 0;
                int highest = HIGHEST[letter * PARTS + i];
                if (highest == UNTOLD) {
                    continue;
                }
                int value = readNumber(text);
                if (value == UNTOLD || value > highest) {
                    return false;
                }
                part[i] = value;
                if (text.byteAt(place) != (i == lastPart ? ';' : ',')) {
                    return false;
                }
                place++;
            }
            return true;
        }

        private int readNumber(Text text) {
            int value = 0;
            int figures = 0;
            while (figures < 3 && isFigure(text.byteAt(place))) {
                value = 10 * value + text.byteAt(place) - '0';
                place++;
                figures++;
            }
            return figures == 0 ? UNTOLD : value;
        }

        private static boolean isFigure(int letter) {
            return letter >= '0' && letter <= '9';
        }

        /** The number of the item that holds on a day, or NONE; k is asked of towns and writers alone. */
        int holding(int what, int k, int day) {
            int of = what > V ? 0 : k;
            for (int i = size - 1; i >= 0; i--) {
                if (kind[i] == what && subject[i] == of && since[i] <= day) {
                    return i;
                }
            }
            return NONE;
        }

        int amountOn(int what, int k, int day) {
            int item = holding(what, k, day);
            return item == NONE ? WITHOUT[what] : amount[item];
        }

        int firstQuarrel() {
            for (int i = 0; i < size; i++) {
                for (int j = i + 1; j < size; j++) {
                    if (disagree(i, j)) {
                        return 100 * i + j;
                    }
                }
            }
            return NONE;
        }

        private boolean disagree(int i, int j) {
            return kind[i] != N && kind[i] == kind[j] && subject[i] == subject[j]
                    && since[i] == since[j] && amount[i] != amount[j];
        }

        boolean forbids(int town, int thing, int firstDay, int lastDay) {
            for (int i = 0; i < size; i++) {
                if (kind[i] == N && subject[i] == town && amount[i] == thing
                        && since[i] <= lastDay && until[i] >= firstDay) {
                    return true;
                }
            }
            return false;
        }
    }

    /** What each choice is worth by each truth. */
    private static final class Worths {
        final int[] worthOf = new int[CHOICES * TRUTHS];

        int put(int choice, int truth, int v) {
            int was = worthOf[choice * TRUTHS + truth];
            worthOf[choice * TRUTHS + truth] = v;
            return was;
        }

        int safest(int n, int truths) {
            int best = 0;
            for (int choice = 1; choice < n; choice++) {
                if (leastOf(choice, truths) > leastOf(best, truths)) {
                    best = choice;
                }
            }
            return best;
        }

        int leastOf(int choice, int truths) {
            int least = HIGHEST_WORTH;
            for (int truth = 0; truth < TRUTHS; truth++) {
                if (isIn(truths, truth)) {
                    least = Math.min(least, worthOf[choice * TRUTHS + truth]);
                }
            }
            return least;
        }

        int calmest(int n, int truths) {
            int best = 0;
            for (int choice = 1; choice < n; choice++) {
                if (regretOf(choice, n, truths) < regretOf(best, n, truths)) {
                    best = choice;
                }
            }
            return best;
        }

        int regretOf(int choice, int n, int truths) {
            int greatest = 0;
            for (int truth = 0; truth < TRUTHS; truth++) {
                if (isIn(truths, truth)) {
                    int regret = bestOf(truth, n) - worthOf[choice * TRUTHS + truth];
                    greatest = Math.max(greatest, regret);
                }
            }
            return greatest;
        }

        private int bestOf(int truth, int n) {
            int best = -HIGHEST_WORTH;
            for (int choice = 0; choice < n; choice++) {
                best = Math.max(best, worthOf[choice * TRUTHS + truth]);
            }
            return best;
        }
    }
}
