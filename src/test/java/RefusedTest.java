import java.util.ArrayList;
import java.util.List;

/**
 * "BAD: a number is none that is told. NO: not as things stand. NONE: there is none. FULL. Of several the first;
 * nothing changes then." For each call and each of its numbers: the lowest and the highest that is let are not BAD, the
 * ones just outside and the farthest ones are, and what is refused changes nothing that can be asked. So in four states.
 */
public final class RefusedTest {
    /** A call by its numbers. */
    private interface Ask {
        long of(HandNews news, int[] numbers);
    }

    /** Numbers for a call, and for each the lowest and the highest that is let beside the others (null: all). */
    private record Sample(String call, long bad, int[] numbers, int[][] let, Ask ask) {
    }

    private static final Check check = new Check();
    private static final int[] TOWN = {0, 5};
    private static final int[] WRITER = {0, 7};
    private static final int[] THING = {0, 9};
    private static final int[] DAY = {0, 999};
    private static final int[] DAY_OR_NONE = {-1, 999};
    private static final long BAD_TELLING = -100;
    private static final long BAD_GROWTH = -100000;
    private static final long BAD_SUM = -1000000;
    private static final long BAD_WORTH = -10000;

    private final Scene scene;
    private final int[] sheets;
    private final int[] sayings;
    private final List<Sample> asking = new ArrayList<>();
    private final List<Sample> telling = new ArrayList<>();

    private RefusedTest(Scene scene) {
        this.scene = scene;
        sheets = new int[] {0, scene.play().count(0) - 1};
        sayings = new int[] {0, scene.play().count(3) - 1};
        townSamples();
        sayingSamples();
        ruleSamples();
        truthSamples();
    }

    public static void main(String[] args) {
        scenesAreAsTheirNames();
        for (Scene scene : new Scene[] {Scenes.empty(), Scenes.ordinary(), Scenes.quarrel(), Scenes.full()}) {
            new RefusedTest(scene).go();
        }
        likeOnesAreBad();
        notAsThingsStand();
        quarrelsRefuse();
        noRoomLeft();
        thereIsNone();
        check.end();
    }

    private static void scenesAreAsTheirNames() {
        check.due("no quarrel in the ordinary scene", 10, Scenes.ordinary().play().span(0, 0));
        check.due("a quarrel", HandNews.NO, Scenes.quarrel().play().span(0, 0));
        HandNews full = Scenes.full().play();
        int[] due = {12, 20, 10, 30, 10, 200, 40, 2, 21};
        for (int what = 0; what <= 8; what++) {
            check.due("count(" + what + ") of the full scene", due[what], full.count(what));
        }
        check.due("no quarrel in the full scene", 15, full.span(0, 0));
    }

    private void go() {
        for (Sample sample : asking) {
            outsideIsBad(sample);
            if (isLet(sample, sample.numbers)) {
                unchangedBy(print(sample, sample.numbers), news -> sample.ask.of(news, sample.numbers));
            }
        }
        for (Sample sample : telling) {
            outsideIsBad(sample);
        }
    }

    private static boolean isLet(Sample sample, int[] numbers) {
        for (int i = 0; i < numbers.length; i++) {
            int[] let = sample.let[i];
            if (let != null && (numbers[i] < let[0] || numbers[i] > let[1])) {
                return false;
            }
        }
        return true;
    }

    private static String print(Sample sample, int[] numbers) {
        StringBuilder call = new StringBuilder(sample.call).append('(');
        for (int i = 0; i < numbers.length; i++) {
            call.append(i > 0 ? ", " : "").append(numbers[i]);
        }
        return call.append(')').toString();
    }

    private void outsideIsBad(Sample sample) {
        answersBadOrNot(sample, sample.numbers);
        for (int i = 0; i < sample.numbers.length; i++) {
            for (int number : edgesOf(sample.let[i])) {
                int[] numbers = sample.numbers.clone();
                numbers[i] = number;
                answersBadOrNot(sample, numbers);
            }
        }
    }

    /** Far ones would wrap around if a sum or a product of them were looked at. */
    private static int[] edgesOf(int[] let) {
        if (let == null) {
            return new int[] {Integer.MIN_VALUE, -1, 0, 1, 6, 8, Integer.MAX_VALUE};
        }
        List<Integer> edges = new ArrayList<>(List.of(Integer.MIN_VALUE, Integer.MAX_VALUE));
        edges.addAll(List.of(let[0] - 1, let[0], let[1]));
        for (long far : new long[] {let[1] + 1L, let[1] + 257L, let[1] + 65537L}) {
            if (far <= Integer.MAX_VALUE) {
                edges.add((int) far);
            }
        }
        return edges.stream().mapToInt(Integer::intValue).toArray();
    }

    private void answersBadOrNot(Sample sample, int[] numbers) {
        String call = print(sample, numbers) + " with " + scene.name;
        long answer = sample.ask.of(scene.play(), numbers);
        if (isLet(sample, numbers)) {
            check.holds(call + " is not BAD: " + answer, answer != sample.bad);
            return;
        }
        check.due(call, sample.bad, answer);
        unchangedBy(call, news -> sample.ask.of(news, numbers));
    }

    private void unchangedBy(String call, Scene.Call made) {
        unchangedIn(scene, call, made);
    }

    private static void unchangedIn(Scene scene, String call, Scene.Call made) {
        String changed = scene.changedBy(made);
        check.holds(changed == null ? "nothing" : call + " changes nothing, but " + changed, changed == null);
    }

    // ---- the calls

    private static int[] numbers(int... numbers) {
        return numbers;
    }

    private static int[][] let(int[]... ranges) {
        return ranges;
    }

    private void tell(String call, long bad, int[] numbers, int[][] let, Ask ask) {
        telling.add(new Sample(call, bad, numbers, let, ask));
    }

    private void ask(String call, long bad, int[] numbers, int[][] let, Ask ask) {
        asking.add(new Sample(call, bad, numbers, let, ask));
    }

    private void townSamples() {
        Ask post = (news, x) -> news.post(x[0], x[1], x[2], x[3]);
        tell("post", -1, numbers(0, 5, 1, 60), let(numbers(0, 4), numbers(1, 5), numbers(1, 60), numbers(1, 60)), post);
        tell("post", -1, numbers(5, 0, 60, 60), let(numbers(1, 5), numbers(0, 4), numbers(1, 60), numbers(60, 60)),
                post);
        tell("post", -1, numbers(3, 2, 7, 7), let(TOWN, TOWN, numbers(1, 7), numbers(7, 60)), post);
        for (int[] towns : new int[][] {{0, 5}, {5, 0}, {3, 3}}) {
            ask("way", -1, towns, let(TOWN, TOWN), (news, x) -> news.way(x[0], x[1]));
            ask("slow", -1, towns, let(TOWN, TOWN), (news, x) -> news.slow(x[0], x[1]));
        }
        for (int[] sheet : new int[][] {{0, 0, -1}, {5, 7, 999}, {2, 3, 0}}) {
            tell("sheet", -1, sheet, let(TOWN, WRITER, DAY_OR_NONE), (news, x) -> news.sheet(x[0], x[1], x[2]));
        }
        for (int[] dated : new int[][] {{0, -1}, {sheets[1], 999}, {sheets[1], 0}}) {
            tell("dated", BAD_TELLING, dated, let(sheets, DAY_OR_NONE), (news, x) -> news.dated(x[0], x[1]));
        }
        int last = sheets[1];
        Ask behind = (news, x) -> news.behind(x[0], x[1]);
        tell("behind", -1, numbers(0, last), let(numbers(0, last - 1), numbers(1, last)), behind);
        tell("behind", -1, numbers(last, 0), let(numbers(1, last), numbers(0, last - 1)), behind);
        for (int[] happened : new int[][] {{0, 0, 0}, {9, 5, 999}, {3, 2, 0}}) {
            tell("happened", -1, happened, let(THING, TOWN, DAY), (news, x) -> news.happened(x[0], x[1], x[2]));
        }
        for (int[] span : new int[][] {{0, 0}, {last, 1}}) {
            ask("span", -1, span, let(sheets, numbers(0, 1)), (news, x) -> news.span(x[0], x[1]));
        }
        for (int[] pair : new int[][] {{0, last}, {last, 0}, {last, last}}) {
            ask("ahead", -1, pair, let(sheets, sheets), (news, x) -> news.ahead(x[0], x[1]));
        }
    }

    private void sayingSamples() {
        int[] number = {0, 9999};
        int[] words = {0, 255};
        for (int marks = 0; marks < 4; marks++) {
            boolean seen = marks % 2 == 1;
            boolean denied = marks > 1;
            Ask say = (news, x) -> news.say(x[0], x[1], x[2], x[3], seen, denied);
            tell("say", -1, numbers(0, 0, 0, 0), let(sheets, THING, number, words), say);
            tell("say", -1, numbers(sheets[1], 9, 9999, 255), let(sheets, THING, number, words), say);
        }
        int last = sayings[1];
        for (int one : new int[] {0, last}) {
            ask("change", -1, numbers(one, last), let(sayings, sayings), (news, x) -> news.change(x[0], x[1]));
            ask("from", -1, numbers(one), let(sayings), (news, x) -> news.from(x[0]));
            for (int what = 0; what <= 2; what++) {
                ask("voice", -1, numbers(one, what), let(sayings, numbers(0, 2)), (news, x) -> news.voice(x[0], x[1]));
            }
            ask("grew", BAD_GROWTH, numbers(one), let(sayings), (news, x) -> news.grew(x[0]));
            ask("came", -1, numbers(one), let(sayings), (news, x) -> news.came(x[0]));
        }
        tell("own", -1, numbers(12), let(numbers(0, 40)), (news, x) -> news.own(x[0]));
        ask("voices", -1, numbers(0), let(THING), (news, x) -> news.voices(x[0], false));
        ask("voices, denied", -1, numbers(9), let(THING), (news, x) -> news.voices(x[0], true));
        ask("habit", BAD_SUM, numbers(0), let(WRITER), (news, x) -> news.habit(x[0]));
    }

    private void ruleSamples() {
        for (long v : new long[] {0, -1, Long.MIN_VALUE, Long.MAX_VALUE, 0x6f312c313bL}) {
            tell("write", -1, numbers(1), let(numbers(1, 8)), (news, x) -> news.write(x[0], v));
        }
        int[] all = {0, 4};
        int[] notTowns = {1, 4};
        int[] withoutK = {2, 4};
        for (int day : DAY) {
            rules(numbers(0, 0, day), let(all, TOWN, DAY));
            rules(numbers(0, 5, day), let(all, TOWN, DAY));
            rules(numbers(1, 0, day), let(all, WRITER, DAY));
            rules(numbers(1, 7, day), let(notTowns, WRITER, DAY));
            rules(numbers(2, 8, day), let(withoutK, null, DAY));
            rules(numbers(3, 3, day), let(all, null, DAY));
            rules(numbers(4, -1, day), let(withoutK, null, DAY));
        }
        tell("closet", -1, numbers(3), let(TOWN), (news, x) -> news.closet(x[0]));
        for (int[] belief : new int[][] {{0, 0, 0}, {9, 999, 1}}) {
            ask("belief", BAD_SUM, belief, let(THING, DAY, numbers(0, 1)), (news, x) -> news.belief(x[0], x[1], x[2]));
        }
        ask("banned", -1, numbers(-1), let(numbers(-1, Integer.MAX_VALUE)), (news, x) -> news.banned(x[0]));
    }

    private void rules(int[] numbers, int[][] let) {
        ask("rule", -1, numbers, let, (news, x) -> news.rule(x[0], x[1], x[2]));
        ask("why", -1, numbers, let, (news, x) -> news.why(x[0], x[1], x[2]));
    }

    private void truthSamples() {
        for (int[] truth : new int[][] {{0, -1}, {9, 9999}, {4, 0}}) {
            tell("truth", BAD_TELLING, truth, let(THING, numbers(-1, 9999)), (news, x) -> news.truth(x[0], x[1]));
        }
        for (int[] right : new int[][] {{0, 0}, {7, 2}}) {
            ask("right", -1, right, let(WRITER, numbers(0, 2)), (news, x) -> news.right(x[0], x[1]));
        }
        for (int[] looks : new int[][] {{1, 0, 2}, {1, 1, 10}, {15, 15, 10}, {15, 0, 2}, {7, 3, 5}}) {
            int[] n = {Math.max(1, looks[1]), 15};
            ask("beyond", -1, looks, let(n, numbers(0, looks[0]), numbers(2, 10)),
                    (news, x) -> news.beyond(x[0], x[1], x[2]));
        }
        for (int[] known : new int[][] {{0, 0, 0}, {9, 5, 1}, {4, 0, 1}}) {
            ask("known", -1, known, let(THING, TOWN, numbers(0, 1)), (news, x) -> news.known(x[0], x[1], x[2]));
        }
        int[] choice = {0, 5};
        int[] truth = {0, 3};
        int[] worth = {-1000, 1000};
        for (int[] put : new int[][] {{0, 0, -1000}, {5, 3, 1000}, {2, 1, 0}}) {
            tell("worth", BAD_WORTH, put, let(choice, truth, worth), (news, x) -> news.worth(x[0], x[1], x[2]));
        }
        for (int[] buy : new int[][] {{1, 1, 0}, {6, 15, 3}, {3, 5, 1}, {2, 8, 2}}) {
            ask("buy", BAD_WORTH, buy, let(numbers(1, 6), numbers(1, 15), numbers(0, 3)),
                    (news, x) -> news.buy(x[0], x[1], x[2]));
        }
        ask("count", -1, numbers(0), let(numbers(0, 8)), (news, x) -> news.count(x[0]));
        ask("fault", -1, numbers(), let(), (news, x) -> news.fault());
        ask("quarrel", -1, numbers(), let(), (news, x) -> news.quarrel());
    }

    // ---- what is refused by how things stand

    private static void refused(Scene scene, String call, long want, Scene.Call made) {
        check.due(call + " with " + scene.name, want, made.on(scene.play()));
        unchangedIn(scene, call + " with " + scene.name, made);
    }

    /** Promises 2 (from is to), 7 (another one, unlike) and 12 (THINGS unlike). */
    private static void likeOnesAreBad() {
        Scene empty = Scenes.empty();
        for (int i = 0; i <= 5; i++) {
            int town = i;
            refused(empty, "post from " + town + " to itself", -1, news -> news.post(town, town, 1, 1));
        }
        for (Scene scene : new Scene[] {Scenes.ordinary(), Scenes.quarrel(), Scenes.full()}) {
            int sheets = scene.play().count(0);
            for (int i = 0; i < sheets; i++) {
                int sheet = i;
                refused(scene, "behind(" + sheet + ", itself)", -1, news -> news.behind(sheet, sheet));
            }
            refused(scene, "change of things unlike", -1, news -> news.change(0, 5));
            refused(scene, "change of things unlike", -1, news -> news.change(5, 0));
            refused(scene, "post from 3 to itself", -1, news -> news.post(3, 3, 1, 1));
        }
    }

    /** NO of promises 2, 7, 8, 11, 22, 33 and 37, and BAD and NO ahead of FULL. */
    private static void notAsThingsStand() {
        Scene ordinary = Scenes.ordinary();
        refused(ordinary, "post with sheets told", -2, news -> news.post(0, 1, 1, 1));
        refused(ordinary, "post where none is", -2, news -> news.post(3, 4, 60, 60));
        refused(ordinary, "post, the least let", -1, news -> news.post(0, 1, 0, 1));
        refused(ordinary, "behind without a way", -2, news -> news.behind(3, 0));
        refused(ordinary, "behind without a way", -2, news -> news.behind(0, 3));
        refused(ordinary, "happened, told already", -2, news -> news.happened(4, 0, 9));
        refused(ordinary, "happened, told already elsewhere", -2, news -> news.happened(0, 5, 999));
        refused(ordinary, "happened without a way to a sheet", -2, news -> news.happened(9, 0, 0));
        refused(ordinary, "say without a way", -2, news -> news.say(3, 4, 0, 0, true, false));
        refused(ordinary, "say without a way, denied", -2, news -> news.say(3, 0, 9999, 255, false, true));
        refused(ordinary, "force with a fault", -2, news -> news.force());
        refused(ordinary, "known, it did not happen", -2, news -> news.known(1, 0, 0));
        refused(ordinary, "lag, it did not happen", -2, news -> news.known(9, 5, 1));
        refused(Scenes.empty(), "back, nothing kept", -2, news -> news.back());
        Scene left = Scenes.ordinary().copy("what was kept gone back to").and(news -> news.back());
        refused(left, "back, nothing kept any more", -2, news -> news.back());
    }

    /** NO: a QUARREL, of promises 9, 10, 14 to 18, 27 to 29 and 31. */
    private static void quarrelsRefuse() {
        Scene quarrel = Scenes.quarrel();
        for (int i = 0; i < 5; i++) {
            int sheet = i;
            refused(quarrel, "first day of " + sheet, -2, news -> news.span(sheet, 0));
            refused(quarrel, "last day of " + sheet, -2, news -> news.span(sheet, 1));
            refused(quarrel, "ahead(" + sheet + ", 3)", -2, news -> news.ahead(sheet, 3));
            refused(quarrel, "ahead(3, " + sheet + ")", -2, news -> news.ahead(3, sheet));
        }
        int sayings = quarrel.play().count(3);
        for (int i = 0; i < sayings; i++) {
            int saying = i;
            refused(quarrel, "from(" + saying + ")", -2, news -> news.from(saying));
            for (int j = 0; j <= 2; j++) {
                int what = j;
                refused(quarrel, "voice(" + saying + ", " + what + ")", -2, news -> news.voice(saying, what));
            }
            refused(quarrel, "grew(" + saying + ")", -100002, news -> news.grew(saying));
            refused(quarrel, "came(" + saying + ")", -2, news -> news.came(saying));
        }
        for (int i = 0; i <= 9; i++) {
            int thing = i;
            refused(quarrel, "voices(" + thing + ")", -2, news -> news.voices(thing, false));
            refused(quarrel, "voices(" + thing + "), denied", -2, news -> news.voices(thing, true));
            refused(quarrel, "belief(" + thing + ", 0, 0)", -1000002, news -> news.belief(thing, 0, 0));
            refused(quarrel, "belief(" + thing + ", 999, 1)", -1000002, news -> news.belief(thing, 999, 1));
        }
        for (int i = 0; i <= 7; i++) {
            int writer = i;
            refused(quarrel, "habit(" + writer + ")", -1000002, news -> news.habit(writer));
            for (int j = 0; j <= 2; j++) {
                int what = j;
                refused(quarrel, "right(" + writer + ", " + what + ")", -2, news -> news.right(writer, what));
            }
        }
        for (int i : new int[] {-1, 0, 1, 29, 30, Integer.MAX_VALUE}) {
            refused(quarrel, "banned(" + i + ")", -2, news -> news.banned(i));
        }
    }

    /** FULL of promises 5, 7, 11, 19 and 36; NO comes ahead of it. */
    private static void noRoomLeft() {
        Scene full = Scenes.full();
        refused(full, "a 13th sheet", -3, news -> news.sheet(0, 0, -1));
        refused(full, "a 13th sheet", -3, news -> news.sheet(5, 7, 999));
        refused(full, "a 21st behind", -3, news -> news.behind(1, 0));
        refused(full, "a 21st behind that would quarrel", -3, news -> news.behind(0, 1));
        refused(full, "behind without a way", -2, news -> news.behind(5, 0));
        refused(full, "a 31st saying", -3, news -> news.say(0, 0, 0, 0, false, false));
        refused(full, "a 31st saying", -3, news -> news.say(10, 9, 9999, 255, true, true));
        refused(full, "say without a way", -2, news -> news.say(5, 0, 0, 0, false, false));
        for (int i = 1; i <= 8; i++) {
            int n = i;
            refused(full, "write of " + n + " more", -3, news -> news.write(n, 0x3b3b3b3b3b3b3b3bL));
        }
        refused(full, "a third to keep", -3, news -> news.keep());
    }

    /** NONE of promises 3, 4, 14, 21, 24, 25, 27, 29 and 33. */
    private static void thereIsNone() {
        Scene ordinary = Scenes.ordinary();
        refused(ordinary, "way to where no post leads", -4, news -> news.way(0, 5));
        refused(ordinary, "slow to where no post leads", -4, news -> news.slow(0, 5));
        refused(ordinary, "from, of nobody", -4, news -> news.from(0));
        refused(ordinary, "why before any item", -4, news -> news.why(0, 0, 9));
        refused(ordinary, "why of another town", -4, news -> news.why(0, 1, 999));
        refused(ordinary, "came without a way", -4, news -> news.came(5));
        refused(ordinary, "banned past the end", -4, news -> news.banned(1));
        refused(ordinary, "known without a way", -4, news -> news.known(4, 5, 0));
        refused(ordinary, "lag without a way", -4, news -> news.known(4, 5, 1));
        refused(ordinary, "lag of the last", -4, news -> news.known(4, 2, 1));
        refused(Scenes.empty(), "fault of an empty text", -4, news -> news.fault());
        refused(Scenes.empty(), "quarrel of no items", -4, news -> news.quarrel());
    }
}
