import java.util.Map;
import java.util.Random;
import java.util.TreeMap;

/** Long runs of calls, the same ones each time, held against the document written once more (PlainNews). */
public final class PlainRunsTest {
    private static final int RUNS = 1200;
    private static final int CALLS = 512;
    private static final int[] WILD = {
        Integer.MIN_VALUE, Integer.MIN_VALUE + 1, -1000, -2, -1, 0, 1, 6, 8, 10, 12, 30, 41, 61, 256, 1000, 10000,
        1 << 16, 1 << 30, Integer.MAX_VALUE - 1, Integer.MAX_VALUE};

    private static final Check check = new Check();
    private static final Map<String, Integer> usual = new TreeMap<>();

    private final Random random;
    private final HandNews news = new HandNews();
    private final PlainNews plain = new PlainNews();
    private final int days;
    private final int things;
    private final int wildness;
    private final StringBuilder told = new StringBuilder();
    private int made = 0;

    private PlainRunsTest(int seed) {
        random = new Random(seed);
        days = new int[] {8, 60, 1000}[seed % 3];
        things = new int[] {1, 3, 10}[seed / 3 % 3];
        wildness = new int[] {400, 60, 8}[seed / 9 % 3];
    }

    public static void main(String[] args) {
        for (int seed = 0; seed < RUNS && !check.hasWrong(); seed++) {
            PlainRunsTest run = new PlainRunsTest(seed);
            run.go(seed);
            if (check.hasWrong()) {
                System.out.println("the run was:" + System.lineSeparator() + run.told);
            }
        }
        for (Map.Entry<String, Integer> entry : usual.entrySet()) {
            check.holds("good answers of " + entry.getKey() + ": " + entry.getValue(), entry.getValue() > 500);
        }
        check.due("calls with good answers", 37, usual.size());
        check.end();
    }

    private void go(int seed) {
        int posts = new int[] {4, 20, 60, 90}[seed / 27 % 4];
        int calls = 0;
        for (; calls < posts; calls++) {
            call(0);
        }
        // A text may take two calls, and nothing is promised of a 513th.
        for (; calls < CALLS && made < CALLS - 1 && !check.hasWrong(); calls++) {
            if (plain.span(0, 0) == HandNews.NO && random.nextInt(3) > 0) {
                easeQuarrel();
            } else {
                call(pick(calls));
            }
        }
    }

    /** Most calls say NO in a quarrel, so few runs stay in one for long. */
    private void easeQuarrel() {
        int sheet = random.nextInt(plain.count(0));
        due("dated", 1 + plain.dated(sheet, -1), 1 + news.dated(sheet, -1), sheet, -1);
    }

    /** Early in a run more is told, later more is asked. */
    private int pick(int calls) {
        int[] telling = {4, 4, 6, 7, 10, 10, 10, 10, 10, 18, 18, 18, 29, 33, 35};
        if (calls < 200 && random.nextInt(3) > 0) {
            return telling[random.nextInt(telling.length)];
        }
        int which = random.nextInt(37);
        return which == 7 || which == 35 ? random.nextInt(37) : which;
    }

    private int num(int low, int high) {
        if (random.nextInt(wildness) == 0) {
            return WILD[random.nextInt(WILD.length)];
        }
        return low + random.nextInt(high - low + 1);
    }

    private int day() {
        return num(0, days - 1);
    }

    /** Mostly none, or a day that grows with the sheet's number, so that not all runs are quarrels. */
    private int dayOrNone(int sheet) {
        if (random.nextInt(4) > 0) {
            return -1;
        }
        return random.nextInt(4) == 0 ? day() : Math.abs(sheet % 12) * days / 12;
    }

    private int thing() {
        return num(0, things - 1);
    }

    private int someSheet() {
        return num(0, Math.max(0, plain.count(0) - 1));
    }

    private int someSaying() {
        return num(0, Math.max(0, plain.count(3) - 1));
    }

    private int number() {
        int[] likely = {1000, 1001, 1100, 2000, 7, 70, 9999};
        return random.nextInt(8) > 0 ? likely[random.nextInt(likely.length)] : num(0, 9999);
    }

    private int words() {
        return random.nextBoolean() ? random.nextInt(4) : num(0, 255);
    }

    private void due(String name, long want, long got, long... args) {
        made++;
        told.append(name).append('(');
        for (int i = 0; i < args.length; i++) {
            told.append(i > 0 ? ", " : "").append(args[i]);
        }
        told.append(") ").append(got).append(System.lineSeparator());
        check.due(name, want, got);
        if (want >= 0 || want == HandNews.NONE) {
            usual.merge(name, 1, Integer::sum);
        }
    }

    private void call(int which) {
        if (which < 10) {
            callOfTowns(which);
        } else if (which < 18) {
            callOfSayings(which);
        } else if (which < 29) {
            callOfRules(which);
        } else {
            callOfTruth(which);
        }
    }

    private void callOfTowns(int which) {
        int a;
        int b;
        int c;
        int d;
        switch (which) {
            case 0:
                a = num(0, 5);
                b = num(0, 5);
                c = num(1, random.nextBoolean() ? 4 : 60);
                d = random.nextInt(5) == 0 ? num(1, 60) : Math.min(60, Math.max(c, num(1, 60)));
                due("post", plain.post(a, b, c, d), news.post(a, b, c, d), a, b, c, d);
                break;
            case 1:
                a = num(0, 5);
                b = num(0, 5);
                due("way", plain.way(a, b), news.way(a, b), a, b);
                break;
            case 2:
                a = num(0, 5);
                b = num(0, 5);
                due("slow", plain.slow(a, b), news.slow(a, b), a, b);
                break;
            case 3:
            case 4:
                a = num(0, 5);
                b = num(0, 7);
                c = dayOrNone(plain.count(0));
                due("sheet", plain.sheet(a, b, c), news.sheet(a, b, c), a, b, c);
                break;
            case 5:
                a = someSheet();
                b = dayOrNone(a);
                due("dated", 1 + plain.dated(a, b), 1 + news.dated(a, b), a, b);
                break;
            case 6:
                a = someSheet();
                b = random.nextInt(12) == 0 || a <= 0 ? someSheet() : num(0, Math.min(a, 12) - 1);
                due("behind", plain.behind(a, b), news.behind(a, b), a, b);
                break;
            case 7:
                a = thing();
                b = num(0, 5);
                c = random.nextInt(4) == 0 ? day() : num(0, days / 8);
                due("happened", plain.happened(a, b, c), news.happened(a, b, c), a, b, c);
                break;
            case 8:
                a = someSheet();
                b = num(0, 1);
                due("span", plain.span(a, b), news.span(a, b), a, b);
                break;
            default:
                a = someSheet();
                b = someSheet();
                due("ahead", plain.ahead(a, b), news.ahead(a, b), a, b);
        }
    }

    private void callOfSayings(int which) {
        int a;
        int b;
        switch (which) {
            case 10:
                a = someSheet();
                b = thing();
                int number = number();
                int words = words();
                boolean seen = random.nextInt(4) == 0;
                boolean denied = random.nextInt(4) == 0;
                due("say", plain.say(a, b, number, words, seen, denied), news.say(a, b, number, words, seen, denied),
                        a, b, number, words, seen ? 1 : 0, denied ? 1 : 0);
                break;
            case 11:
                a = someSaying();
                b = someSaying();
                due("change", plain.change(a, b), news.change(a, b), a, b);
                break;
            case 12:
                a = num(0, 40);
                due("own", plain.own(a), news.own(a), a);
                break;
            case 13:
                a = someSaying();
                due("from", plain.from(a), news.from(a), a);
                break;
            case 14:
                a = someSaying();
                b = num(0, 2);
                due("voice", plain.voice(a, b), news.voice(a, b), a, b);
                break;
            case 15:
                a = thing();
                boolean denials = random.nextBoolean();
                due("voices", plain.voices(a, denials), news.voices(a, denials), a, denials ? 1 : 0);
                break;
            case 16:
                a = someSaying();
                due("grew", plain.grew(a), news.grew(a), a);
                break;
            default:
                a = num(0, 7);
                due("habit", plain.habit(a), news.habit(a), a);
        }
    }

    private String item() {
        String letters = "wvobxn";
        char letter = letters.charAt(random.nextInt(6));
        int day = random.nextInt(days);
        switch (letter) {
            case 'w':
                return "w" + random.nextInt(6) + "," + random.nextInt(101) + "," + day + ";";
            case 'v':
                return "v" + random.nextInt(8) + "," + random.nextInt(101) + "," + day + ";";
            case 'o':
                return "o" + random.nextInt(days) + "," + day + ";";
            case 'b':
                return "b" + (1 + random.nextInt(60)) + "," + random.nextInt(3) + ";";
            case 'x':
                return "x" + random.nextInt(10) + "," + day + ";";
            default:
                return "n" + random.nextInt(6) + "," + random.nextInt(things) + "," + day + ","
                        + Math.min(999, day + random.nextInt(20)) + ";";
        }
    }

    /** An item, mostly good; now and then with one byte changed, left out or put in. */
    private String someItem() {
        StringBuilder item = new StringBuilder(item());
        if (random.nextInt(25) == 0) {
            int at = random.nextInt(item.length());
            char other = "0123456789,;wvobxn \u00ff".charAt(random.nextInt(20));
            switch (random.nextInt(3)) {
                case 0:
                    item.setCharAt(at, other);
                    break;
                case 1:
                    item.deleteCharAt(at);
                    break;
                default:
                    item.insert(at, other);
            }
        }
        return item.toString();
    }

    private void writeText() {
        if (random.nextInt(wildness) == 0) {
            int n = num(1, 8);
            long v = random.nextLong();
            due("write", plain.write(n, v), news.write(n, v), n, v);
            return;
        }
        String item = someItem();
        for (int at = 0; at < item.length(); at += 8) {
            int n = Math.min(8, item.length() - at);
            long v = random.nextLong();
            for (int i = 0; i < n; i++) {
                v = v << 8 | item.charAt(at + i);
            }
            due("write", plain.write(n, v), news.write(n, v), n, v);
        }
    }

    private void callOfRules(int which) {
        int a = num(0, 4);
        int b = num(0, 7);
        int c = day();
        switch (which) {
            case 18:
                writeText();
                break;
            case 19:
                if (random.nextInt(4) == 0 || plain.fault() != HandNews.NONE) {
                    due("wipe", plain.wipe(), news.wipe());
                }
                break;
            case 20:
                due("fault", plain.fault(), news.fault());
                break;
            case 21:
                due("force", plain.force(), news.force());
                break;
            case 22:
                due("rule", plain.rule(a, b, c), news.rule(a, b, c), a, b, c);
                break;
            case 23:
                due("why", plain.why(a, b, c), news.why(a, b, c), a, b, c);
                break;
            case 24:
                due("quarrel", plain.quarrel(), news.quarrel());
                break;
            case 25:
                b = num(0, 5);
                due("closet", plain.closet(b), news.closet(b), b);
                break;
            case 26:
                a = someSaying();
                due("came", plain.came(a), news.came(a), a);
                break;
            case 27:
                a = thing();
                b = num(0, 1);
                due("belief", plain.belief(a, c, b), news.belief(a, c, b), a, c, b);
                break;
            default:
                a = num(-1, 3);
                due("banned", plain.banned(a), news.banned(a), a);
        }
    }

    private void callOfTruth(int which) {
        int a;
        int b;
        int c;
        switch (which) {
            case 29:
                a = thing();
                b = random.nextInt(4) == 0 ? -1 : number();
                due("truth", 1 + plain.truth(a, b), 1 + news.truth(a, b), a, b);
                break;
            case 30:
                a = num(0, 7);
                b = num(0, 2);
                due("right", plain.right(a, b), news.right(a, b), a, b);
                break;
            case 31:
                a = num(1, 15);
                b = num(0, 15);
                c = num(2, 10);
                due("beyond", plain.beyond(a, b, c), news.beyond(a, b, c), a, b, c);
                break;
            case 32:
                a = thing();
                b = num(0, 5);
                c = num(0, 1);
                due("known", plain.known(a, b, c), news.known(a, b, c), a, b, c);
                break;
            case 33:
                a = num(0, 5);
                b = num(0, 3);
                c = random.nextBoolean() ? num(-2, 2) : num(-1000, 1000);
                due("worth", plain.worth(a, b, c), news.worth(a, b, c), a, b, c);
                break;
            case 34:
                a = num(1, 6);
                b = num(1, 15);
                c = num(0, 3);
                due("buy", plain.buy(a, b, c), news.buy(a, b, c), a, b, c);
                break;
            case 35:
                if (random.nextInt(3) > 0) {
                    due("keep", plain.keep(), news.keep());
                } else if (plain.count(7) != 1 || random.nextInt(3) == 0) {
                    due("back", plain.back(), news.back());
                }
                break;
            default:
                a = num(0, 8);
                due("count", plain.count(a), news.count(a), a);
        }
    }
}
