import java.nio.charset.StandardCharsets;

/** Promises 19 to 29, sentence by sentence: the lowest, the highest, just outside, empty, full, refused. */
public final class RuleEdgesTest {
    private static final int BAD = HandNews.BAD, NO = HandNews.NO, FULL = HandNews.FULL, NONE = HandNews.NONE;
    private static final int BAD_SUM = -1000000, NO_SUM = -1000002;
    private static final String LETTERS = "wvobxn";
    private static final int[][] LOWEST = {{0, 0, 0}, {0, 0, 0}, {0, 0}, {1, 0}, {0, 0}, {0, 0, 0, 0}};
    private static final int[][] HIGHEST = {
        {5, 100, 999}, {7, 100, 999}, {999, 999}, {999, 999}, {9, 999}, {5, 9, 999, 999}};
    private static final Check check = new Check();

    public static void main(String[] args) {
        writeOneToEightBytes();
        writeTheHighestFirst();
        writeUpToTwoHundred();
        wipeFromEmptyAndFull();
        faultOfNumbers();
        faultOfFigures();
        faultOfParts();
        faultOfEveryByte();
        faultOfDaysTurned();
        faultPlaces();
        forceOfEmptyAndFull();
        forceWithFault();
        rulesWithout();
        ruleFromItsDayOn();
        ruleOfTheLastItem();
        ruleRefuses();
        kIsNotAsked();
        whyUpToTheLast();
        quarrelOfOneDay();
        quarrelFirstPair();
        closetAtFirst();
        cameByFirstDayAndWay();
        beliefCameByThen();
        beliefNotOlder();
        beliefThroughOthers();
        beliefJustEnough();
        beliefDeniedTimes();
        beliefAtMost();
        beliefRefuses();
        bannedOnSomeDay();
        bannedFromNoneToThirty();
        check.end();
    }

    private static void writeOneToEightBytes() {
        check.sentence("n bytes (1 to 8) of v come behind THE TEXT: how long it is. BAD");
        HandNews news = new HandNews();
        int length = 0;
        for (int n : new int[] {0, 1, 9, 2, -1, 3, 4, Integer.MIN_VALUE, 5, 6, Integer.MAX_VALUE, 7, 8, 257}) {
            boolean let = n >= 1 && n <= 8;
            length += let ? n : 0;
            check.due("write of " + n, let ? length : BAD, news.write(n, 0));
            check.due("bytes", length, news.count(5));
        }
    }

    private static void writeTheHighestFirst() {
        check.sentence("n bytes of v, the highest first");
        byte[] bytes = "v7,99,8;".getBytes(StandardCharsets.US_ASCII);
        for (int n = 1; n <= 8; n++) {
            HandNews news = new HandNews();
            for (int at = 0; at < 8; at += n) {
                int size = Math.min(n, 8 - at);
                // What stands above the n bytes is no matter.
                long v = size == 8 ? 0 : -1;
                for (int i = 0; i < size; i++) {
                    v = v << 8 | bytes[at + i];
                }
                news.write(size, v);
            }
            check.due("it reads by " + n, 1, news.force());
            check.due("and holds by " + n, 99, news.rule(1, 7, 8));
        }
        HandNews high = new HandNews();
        high.write(1, 0x80);
        check.due("a byte above 127 is a byte", 1, high.count(5));
        check.due("and no item", 0, high.fault());
        high.wipe();
        high.write(5, 0xff6f312c313bL);
        check.due("o1,1; by its low bytes", NONE, high.fault());
        high.write(8, -1L);
        check.due("bytes of 255", 5, high.fault());
    }

    private static void writeUpToTwoHundred() {
        check.sentence("RULES are a TEXT of bytes (200 at most). FULL.");
        for (int n = 1; n <= 8; n++) {
            HandNews news = new HandNews();
            for (int i = 0; i < 200 - n; i++) {
                news.write(1, 'w');
            }
            check.due("one too many for " + n, n == 8 ? BAD : FULL, news.write(n + 1, 0));
            check.due("nothing came", 200 - n, news.count(5));
            check.due("just room for " + n, 200, news.write(n, 0));
            check.due("no room", FULL, news.write(1, 0));
            check.due("no room", FULL, news.write(8, 0));
            check.due("BAD comes first", BAD, news.write(0, 0));
            check.due("BAD comes first", BAD, news.write(9, 0));
            check.due("bytes", 200, news.count(5));
        }
    }

    private static void wipeFromEmptyAndFull() {
        check.sentence("THE TEXT is empty: how long it was.");
        HandNews news = new HandNews();
        check.due("empty", 0, news.wipe());
        Check.writeAll(news, rules(40, "o1,5;"));
        check.due("forty items", 40, news.force());
        check.due("full", 200, news.wipe());
        check.due("empty again", 0, news.count(5));
        check.due("and again", 0, news.wipe());
        check.due("in force still", 40, news.count(6));
        check.due("holding still", 1, news.rule(2, 0, 5));
        check.due("room again", 8, news.write(8, 0));
        check.due("not the old bytes", 0, news.fault());
    }

    private static String rules(int items, String item) {
        return item.repeat(items);
    }

    private static String item(int letter, int[] numbers) {
        StringBuilder item = new StringBuilder().append(LETTERS.charAt(letter));
        for (int i = 0; i < numbers.length; i++) {
            item.append(i > 0 ? "," : "").append(numbers[i]);
        }
        return item.append(';').toString();
    }

    /** The fault of this text alone, and behind two good items. */
    private static void faultIs(String text, int place) {
        HandNews news = new HandNews();
        check.due("fault of '" + text + "'", place, Check.faultOf(news, text));
        check.due("force of it", place == NONE ? 1 : NO, news.force());
        check.due("behind others", place == NONE ? NONE : 14 + place, Check.faultOf(news, "w0,0,0;v1,1,1;" + text));
        check.due("force of them", place == NONE ? 3 : NO, news.force());
    }

    private static void faultOfNumbers() {
        check.sentence("wT,N,d vW,N,d oN,d bN,d xN,d nT,F,s,t: the lowest and the highest of each number");
        for (int letter = 0; letter < LETTERS.length(); letter++) {
            faultIs(item(letter, LOWEST[letter]), NONE);
            faultIs(item(letter, HIGHEST[letter]), NONE);
            for (int i = 0; i < LOWEST[letter].length; i++) {
                int[] numbers = HIGHEST[letter].clone();
                numbers[i]++;
                faultIs(item(letter, numbers), 0);
                if (letter != 5 || i != 3) {
                    numbers[i] = LOWEST[letter][i];
                    faultIs(item(letter, numbers), NONE);
                }
                numbers = LOWEST[letter].clone();
                numbers[i] = HIGHEST[letter][i] + 1;
                faultIs(item(letter, numbers), 0);
                if (letter != 5 || i != 2) {
                    numbers[i] = HIGHEST[letter][i];
                    faultIs(item(letter, numbers), NONE);
                }
            }
        }
        faultIs("b0,0;", 0);
        faultIs("b000,999;", 0);
        faultIs("b001,999;", NONE);
    }

    private static void faultOfFigures() {
        check.sentence("numbers (of one to three figures) parted by , and ;");
        for (int letter = 0; letter < LETTERS.length(); letter++) {
            int parts = LOWEST[letter].length;
            for (int i = 0; i < parts; i++) {
                for (int figures = 0; figures <= 4; figures++) {
                    StringBuilder text = new StringBuilder().append(LETTERS.charAt(letter));
                    for (int j = 0; j < parts; j++) {
                        String number = "0001".substring(4 - (i == j ? figures : 1));
                        text.append(j > 0 ? "," : "").append(number);
                    }
                    faultIs(text.append(';').toString(), figures >= 1 && figures <= 3 ? NONE : 0);
                }
            }
        }
        faultIs("w1 ,1,1;", 0);
        faultIs("w1, 1,1;", 0);
        faultIs("w+1,1,1;", 0);
        faultIs("w-0,1,1;", 0);
        faultIs("w1.0,1,1;", 0);
    }

    private static void faultOfParts() {
        check.sentence("ITEMS, each a letter, numbers parted by , and ;");
        for (int letter = 0; letter < LETTERS.length(); letter++) {
            String good = item(letter, LOWEST[letter]);
            for (int length = 1; length < good.length(); length++) {
                faultIs(good.substring(0, length), 0);
                faultIs(good.substring(length), 0);
            }
            faultIs(good.replace(";", ",0;"), 0);
            faultIs(good.replace(";", ",;"), 0);
            faultIs(good.substring(0, good.lastIndexOf(',')) + ";", 0);
            faultIs(good.toUpperCase(), 0);
            faultIs(good.replace(';', ':'), 0);
            faultIs(good.replace(',', ';'), 0);
            faultIs(good.replace(",", ",,"), 0);
            faultIs(" " + good, 0);
            faultIs(good + " ", good.length());
            faultIs(good + ";", good.length());
            faultIs(good + good.substring(0, good.length() - 1), good.length());
        }
        faultIs(";", 0);
        faultIs(",", 0);
        faultIs("0", 0);
    }

    /** Each byte of an item by each of all bytes, held against the document written once more. */
    private static void faultOfEveryByte() {
        check.sentence("FAULT: the place of the first byte of the first ITEM that is not so.");
        for (int letter = 0; letter < LETTERS.length(); letter++) {
            String good = item(letter, LOWEST[letter]) + item(letter, HIGHEST[letter]);
            for (int at = 0; at < good.length(); at++) {
                HandNews news = new HandNews();
                PlainNews plain = new PlainNews();
                for (int sign = 0; sign < 256; sign++) {
                    if (sign % 64 == 0) {
                        news = new HandNews();
                    }
                    String text = good.substring(0, at) + (char) sign + good.substring(at + 1);
                    plain.wipe();
                    for (int i = 0; i < text.length(); i++) {
                        plain.write(1, text.charAt(i));
                    }
                    check.due("byte " + sign + " at " + at + " of " + good, plain.fault(), Check.faultOf(news, text));
                }
            }
        }
    }

    private static void faultOfDaysTurned() {
        check.sentence("on DAYS s to t (s no more than t)");
        faultIs("n0,0,0,0;", NONE);
        faultIs("n0,0,999,999;", NONE);
        faultIs("n0,0,0,999;", NONE);
        faultIs("n0,0,500,500;", NONE);
        faultIs("n0,0,501,500;", 0);
        faultIs("n0,0,1,0;", 0);
        faultIs("n0,0,999,998;", 0);
        faultIs("n0,0,10,9;", 0);
        faultIs("n0,0,9,10;", NONE);
    }

    private static void faultPlaces() {
        check.sentence("FAULT: the place of the first byte of the first ITEM that is not so. NONE.");
        HandNews news = new HandNews();
        check.due("empty", NONE, news.fault());
        String long199 = rules(36, "o1,5;") + "n0,0,0,0;" + "n00,0,0,0;";
        check.due("199 good bytes", NONE, Check.faultOf(news, long199));
        news.write(1, 'o');
        check.due("the last byte", 199, news.fault());
        check.due("NO for it", NO, news.force());
        check.due("200 good bytes", NONE, Check.faultOf(new HandNews(), rules(40, "o1,5;")));
        check.due("the first of two", 5, Check.faultOf(new HandNews(), "o1,5;o;o1,5;o;"));
        check.due("the first byte, not where it breaks", 5, Check.faultOf(new HandNews(), "o1,5;w0,0,1000;o1,5;"));
        check.due("an item that is not ended", 195, Check.faultOf(new HandNews(), rules(39, "o1,5;") + "o1,55"));
        HandNews later = new HandNews();
        check.due("not ended", 0, Check.faultOf(later, "o1,5"));
        later.write(1, ';');
        check.due("ended", NONE, later.fault());
    }

    private static void forceOfEmptyAndFull() {
        check.sentence("IN FORCE is a TEXT without FAULT (empty at first): how many ITEMS.");
        HandNews news = new HandNews();
        check.due("empty", 0, news.force());
        check.due("one", 1, Check.putInForce(news, "b7,0;"));
        check.due("it counts", 1, news.count(6));
        check.due("forty", 40, Check.putInForce(news, rules(39, "x1,5;") + "x9,0;"));
        check.due("they count", 40, news.count(6));
        check.due("the fortieth holds", 9, news.rule(4, 0, 0));
        check.due("the first is gone", 20, news.rule(3, 0, 0));
        check.due("forced again", 40, news.force());
        news.wipe();
        check.due("wiped, but in force", 40, news.count(6));
        check.due("empty again", 0, news.force());
        check.due("nothing counts", 0, news.count(6));
        check.due("nothing holds", 1, news.rule(4, 0, 0));
    }

    private static void forceWithFault() {
        check.sentence("NO: a FAULT.");
        HandNews news = new HandNews();
        check.due("a fault from the first", NO, Check.putInForce(news, ";"));
        check.due("empty still", 0, news.count(6));
        check.due("two", 2, Check.putInForce(news, "b7,0;w5,3,9;"));
        check.due("a fault at the end", NO, Check.putInForce(news, "b8,0;w5,4,9;n0,0,0,0;b1"));
        check.due("two still", 2, news.count(6));
        check.due("b still", 7, news.rule(3, 0, 0));
        check.due("w still", 3, news.rule(0, 5, 9));
        check.due("why still", 1, news.why(0, 5, 9));
        check.due("the fault is asked", 21, news.fault());
        check.due("and changes nothing", 7, news.rule(3, 0, 0));
        check.due("the text stays", 23, news.count(5));
    }

    private static void rulesWithout() {
        check.sentence("(10 without) (0 without) (999 without) (20 without) (1 without)");
        HandNews news = new HandNews();
        int[] highest = {5, 7, 0, 0, 0};
        int[] without = {10, 0, 999, 20, 1};
        for (int what = 0; what <= 4; what++) {
            for (int k = 0; k <= highest[what]; k++) {
                check.due("on day 0", without[what], news.rule(what, k, 0));
                check.due("on day 999", without[what], news.rule(what, k, 999));
                check.due("why on day 0", NONE, news.why(what, k, 0));
                check.due("why on day 999", NONE, news.why(what, k, 999));
            }
        }
        Check.putInForce(news, "n0,0,0,999;");
        check.due("n is none of them", NONE, news.why(0, 0, 999));
    }

    private static void ruleFromItsDayOn() {
        check.sentence("from DAY d on");
        int[] highest = {5, 7, 0, 0, 0};
        int[] without = {10, 0, 999, 20, 1};
        for (int what = 0; what <= 4; what++) {
            for (int day : new int[] {0, 1, 500, 999}) {
                for (int k : new int[] {0, highest[what]}) {
                    HandNews news = new HandNews();
                    String of = what < 2 ? k + "," : "";
                    Check.putInForce(news, LETTERS.charAt(what) + of + "5," + day + ";");
                    check.due("on its day", 5, news.rule(what, k, day));
                    check.due("why on its day", 0, news.why(what, k, day));
                    check.due("on the last day", 5, news.rule(what, k, 999));
                    if (day > 0) {
                        check.due("a day before", without[what], news.rule(what, k, day - 1));
                        check.due("why a day before", NONE, news.why(what, k, day - 1));
                    }
                    if (what < 2) {
                        check.due("of another", without[what], news.rule(what, k == 0 ? 1 : k - 1, day));
                        check.due("why of another", NONE, news.why(what, k == 0 ? 1 : k - 1, day));
                    }
                }
            }
        }
    }

    private static void ruleOfTheLastItem() {
        check.sentence("Of w, v, o, b, x the last ITEM with d no greater holds on a DAY");
        HandNews news = new HandNews();
        Check.putInForce(news, "b1,500;b2,0;b3,500;b4,501;b5,499;");
        int[][] due = {{0, 2, 1}, {498, 2, 1}, {499, 5, 4}, {500, 5, 4}, {501, 5, 4}, {999, 5, 4}};
        for (int[] row : due) {
            check.due("b on " + row[0], row[1], news.rule(3, 0, row[0]));
            check.due("why on " + row[0], row[2], news.why(3, 0, row[0]));
        }
        Check.putInForce(news, "b5,499;b2,0;b3,500;b4,501;");
        int[][] then = {{0, 2, 1}, {499, 2, 1}, {500, 3, 2}, {501, 4, 3}, {999, 4, 3}};
        for (int[] row : then) {
            check.due("b on " + row[0], row[1], news.rule(3, 0, row[0]));
            check.due("why on " + row[0], row[2], news.why(3, 0, row[0]));
        }
    }

    private static void ruleRefuses() {
        check.sentence("w (what = 0, k a TOWN), v (1, a WRITER), o (2), b (3), x (4; k is not asked) on a DAY. BAD.");
        HandNews news = new HandNews();
        int[][] refused = {
            {-1, 0, 0}, {5, 0, 0}, {6, 0, 0}, {0, -1, 0}, {0, 6, 0}, {0, 7, 0}, {1, -1, 0}, {1, 8, 0}, {0, 0, -1},
            {0, 0, 1000}, {1, 0, -1}, {1, 0, 1000}, {2, 0, -1}, {2, 0, 1000}, {3, 0, -1}, {3, 0, 1000}, {4, 0, -1},
            {4, 0, 1000}, {Integer.MIN_VALUE, 0, 0}, {Integer.MAX_VALUE, 0, 0}};
        for (int[] x : refused) {
            check.due("rule(" + x[0] + ", " + x[1] + ", " + x[2] + ")", BAD, news.rule(x[0], x[1], x[2]));
            check.due("why(" + x[0] + ", " + x[1] + ", " + x[2] + ")", BAD, news.why(x[0], x[1], x[2]));
        }
    }

    private static void kIsNotAsked() {
        check.sentence("o (2), b (3), x (4; k is not asked)");
        HandNews news = new HandNews();
        Check.putInForce(news, "o5,3;b6,3;x7,3;");
        for (int k : new int[] {Integer.MIN_VALUE, -1, 0, 5, 6, 8, Integer.MAX_VALUE}) {
            for (int what = 2; what <= 4; what++) {
                check.due("rule by k " + k, 3 + what, news.rule(what, k, 3));
                check.due("why by k " + k, what - 2, news.why(what, k, 999));
                check.due("why before by k " + k, NONE, news.why(what, k, 2));
            }
        }
    }

    private static void whyUpToTheLast() {
        check.sentence("WHY: its number. NONE; BAD.");
        HandNews news = new HandNews();
        Check.putInForce(news, rules(39, "o1,5;") + "x9,0;");
        check.due("the last of all", 39, news.why(4, 0, 0));
        check.due("the last of its letter", 38, news.why(2, 0, 5));
        check.due("none of its letter", NONE, news.why(3, 0, 999));
        Check.putInForce(news, "n0,0,0,0;v7,1,1;");
        check.due("n has a number, too", 1, news.why(1, 7, 1));
    }

    private static int quarrelOf(String rules) {
        HandNews news = new HandNews();
        check.holds(rules + " is in force", Check.putInForce(news, rules) >= 0);
        return news.quarrel();
    }

    private static void quarrelOfOneDay() {
        check.sentence("QUARRELS: two ITEMS of one such letter, of one TOWN, WRITER (w, v) with one d and unlike N");
        check.due("empty", NONE, new HandNews().quarrel());
        check.due("one item", NONE, quarrelOf("b1,0;"));
        for (int letter = 0; letter <= 4; letter++) {
            String start = LETTERS.substring(letter, letter + 1);
            String of = letter < 2 ? "3," : "";
            check.due(start + " on day 0", 1, quarrelOf(start + of + "1,0;" + start + of + "2,0;"));
            check.due(start + " on day 999", 1, quarrelOf(start + of + "9,999;" + start + of + "8,999;"));
            check.due(start + " a day apart", NONE, quarrelOf(start + of + "1,5;" + start + of + "2,6;"));
            check.due(start + " of like N", NONE, quarrelOf(start + of + "1,5;" + start + of + "001,05;"));
            if (letter < 2) {
                check.due(start + " of another", NONE, quarrelOf(start + "3,1,5;" + start + "4,2,5;"));
            }
            for (int other = 0; other < letter; other++) {
                String second = LETTERS.substring(other, other + 1) + (other < 2 ? "3," : "");
                check.due(start + " and " + second, NONE, quarrelOf(start + of + "1,5;" + second + "2,5;"));
            }
        }
        check.due("n", NONE, quarrelOf("n1,2,5,5;n1,3,5,5;n1,2,5,6;"));
    }

    private static void quarrelFirstPair() {
        check.sentence("the first pair; 100 times the one and the other");
        check.due("the lowest", 1, quarrelOf("b1,0;b2,0;"));
        check.due("the highest", 3839, quarrelOf(rules(38, "o1,5;") + "b1,0;b2,0;"));
        check.due("far apart", 39, quarrelOf("b1,0;" + rules(38, "o1,5;") + "b2,0;"));
        check.due("one with two", 1, quarrelOf("b1,0;b2,0;b3,0;"));
        check.due("the second alike", 2, quarrelOf("b1,0;b1,0;b2,0;"));
        check.due("the lower one first", 3, quarrelOf("b1,0;x1,0;x2,0;b2,0;"));
        check.due("not the first item", 102, quarrelOf("b1,1;x1,0;x2,0;b2,0;"));
        HandNews news = new HandNews();
        Check.putInForce(news, "b1,0;b2,0;");
        Check.putInForce(news, "x1,0;x2,0;;");
        check.due("of what is in force", 1, news.quarrel());
        news.wipe();
        check.due("and stays so", 1, news.quarrel());
        news.force();
        check.due("until it is not", NONE, news.quarrel());
    }

    private static void closetAtFirst() {
        check.sentence("the closet's TOWN (0 at first): where it was. BAD.");
        HandNews news = new HandNews();
        check.due("below", BAD, news.closet(-1));
        check.due("above", BAD, news.closet(6));
        check.due("at first", 0, news.closet(5));
        check.due("then", 5, news.closet(0));
        check.due("refused", BAD, news.closet(6));
        check.due("it stays", 0, news.closet(0));
    }

    private static void cameByFirstDayAndWay() {
        check.sentence("CAME to the closet's TOWN is a SAYING by the first DAY of its SHEET and THE WAY from there.");
        HandNews news = new HandNews();
        check.due("without sayings", BAD, news.came(0));
        news.post(0, 1, 60, 60);
        news.sheet(0, 0, -1);
        news.sheet(1, 0, 999);
        news.say(0, 0, 1, 0, false, false);
        news.say(1, 1, 1, 0, false, false);
        check.due("there on day 0", 0, news.came(0));
        check.due("no way", NONE, news.came(1));
        news.closet(1);
        check.due("by the way, not by the last day", 60, news.came(0));
        check.due("there on day 999", 999, news.came(1));
        news.dated(0, 999);
        check.due("past the last day", 1059, news.came(0));
        check.due("below", BAD, news.came(-1));
        check.due("above", BAD, news.came(2));
        news.behind(1, 0);
        check.due("quarrel", NO, news.came(1));
        news.closet(0);
        check.due("NO comes ahead of NONE", NO, news.came(1));
        check.due("BAD comes first", BAD, news.came(2));
    }

    private static void beliefCameByThen() {
        check.sentence("BELIEF in a THING on a DAY: of VOICES which CAME by then");
        HandNews news = new HandNews();
        news.post(1, 0, 7, 60);
        news.sheet(1, 0, 10);
        news.say(0, 0, 1, 0, false, false);
        check.due("a day before", 0, news.belief(0, 16, 0));
        check.due("on the day", 10, news.belief(0, 17, 0));
        check.due("long after", 10, news.belief(0, 999, 0));
        check.due("another thing", 0, news.belief(1, 999, 0));
        news.closet(1);
        check.due("there on its day", 10, news.belief(0, 10, 0));
        check.due("there a day before", 0, news.belief(0, 9, 0));
        news.closet(2);
        check.due("where no way leads", 0, news.belief(0, 999, 0));
        HandNews edge = new HandNews();
        edge.sheet(0, 0, -1);
        edge.sheet(0, 0, 999);
        edge.say(0, 0, 1, 0, true, false);
        edge.say(1, 0, 1, 0, true, false);
        check.due("on day 0", 10, edge.belief(0, 0, 0));
        check.due("on day 998", 10, edge.belief(0, 998, 0));
        check.due("on day 999, one 999 days old", 20, edge.belief(0, 999, 0));
    }

    private static void beliefNotOlder() {
        check.sentence("by a SHEET not older (first DAY, seen from that DAY) than o");
        int[][] due = {{0, 0}, {1, 0}, {7, 10}, {500, 0}, {998, 0}};
        for (int[] row : due) {
            int age = row[0];
            int first = row[1];
            HandNews news = new HandNews();
            news.sheet(0, 0, first);
            news.say(0, 0, 1, 0, false, false);
            Check.putInForce(news, "o" + age + ",0;");
            check.due("as old as " + age, 10, news.belief(0, first + age, 0));
            check.due("a day older than " + age, 0, news.belief(0, first + age + 1, 0));
            news.dated(0, -1);
            check.due("by its first day, not its last", 10, news.belief(0, age, 0));
            check.due("by its first day, not its last", 0, news.belief(0, age + 1, 0));
        }
        HandNews news = new HandNews();
        news.sheet(0, 0, 0);
        news.say(0, 0, 1, 0, false, false);
        Check.putInForce(news, "o5,100;o0,200;o999,300;");
        check.due("before the rule", 10, news.belief(0, 99, 0));
        check.due("by the rule of the day", 0, news.belief(0, 100, 0));
        check.due("by the next", 0, news.belief(0, 299, 0));
        check.due("by the last", 10, news.belief(0, 300, 0));
        HandNews late = new HandNews();
        late.post(1, 0, 6, 6);
        late.sheet(1, 0, 10);
        late.say(0, 0, 1, 0, false, false);
        Check.putInForce(late, "o5,0;");
        check.due("old before it came", 0, late.belief(0, 16, 0));
        Check.putInForce(late, "o6,0;");
        check.due("of the day on which it came", 10, late.belief(0, 16, 0));
        check.due("and old the next", 0, late.belief(0, 17, 0));
    }

    private static void beliefThroughOthers() {
        check.sentence("or some SAYING that has it of them (through others)");
        HandNews news = new HandNews();
        news.post(1, 2, 1, 1);
        news.post(2, 0, 1, 1);
        news.sheet(1, 1, 10);
        news.sheet(2, 2, 20);
        news.sheet(2, 3, 30);
        news.say(0, 0, 1, 0, true, false);
        news.say(1, 0, 1, 1, false, false);
        news.say(2, 0, 1, 3, false, false);
        check.due("the third has it through the second", 1, news.from(2));
        Check.putInForce(news, "w1,40,0;v1,2,0;w2,90,0;v2,90,0;v3,90,0;o3,0;");
        int[][] due = {
            {11, 0}, {12, 42}, {13, 42}, {14, 0}, {20, 0}, {21, 42}, {23, 42}, {24, 0}, {30, 0}, {31, 42}, {33, 42},
            {34, 0}};
        for (int[] row : due) {
            check.due("on day " + row[0], row[1], news.belief(0, row[0], 0));
        }
        news.own(0);
        check.due("by itself a voice of its own", 180, news.belief(0, 31, 0));
    }

    private static void beliefJustEnough() {
        check.sentence("BELIEVED, if that is b or more");
        HandNews news = new HandNews();
        news.sheet(0, 0, 0);
        news.say(0, 0, 1, 0, true, false);
        news.say(0, 0, 1, 0, true, false);
        check.due("20 by the first b", 1, news.belief(0, 0, 1));
        Check.putInForce(news, "v0,9,0;w0,0,0;");
        check.due("18 by the first b", 0, news.belief(0, 0, 1));
        check.due("what it weighs", 18, news.belief(0, 0, 0));
        Check.putInForce(news, "w0,0,0;b1,0;");
        check.due("nothing by the lowest b", 0, news.belief(0, 0, 1));
        check.due("what nobody says, by the lowest b", 0, news.belief(9, 0, 1));
        Check.putInForce(news, "w0,100,0;b200,5;b201,6;b199,7;");
        check.due("200 by b 20", 1, news.belief(0, 4, 1));
        check.due("200 by b 200", 1, news.belief(0, 5, 1));
        check.due("200 by b 201", 0, news.belief(0, 6, 1));
        check.due("200 by b 199", 1, news.belief(0, 7, 1));
        HandNews most = new HandNews();
        most.sheet(0, 0, 0);
        for (int i = 0; i < 10; i++) {
            most.say(0, 0, 1, 0, true, false);
        }
        Check.putInForce(most, "w0,100,0;w0,99,1;v0,1,2;b999,0;");
        check.due("1000 by the highest b", 1, most.belief(0, 0, 1));
        check.due("990 by the highest b", 0, most.belief(0, 1, 1));
        check.due("1000 again", 1, most.belief(0, 2, 1));
    }

    private static void beliefDeniedTimes() {
        check.sentence("a DENIED VOICE counts N times (0 to 9) against it; DENIED ones x times less");
        HandNews news = new HandNews();
        news.sheet(0, 0, 0);
        news.say(0, 0, 1, 0, true, false);
        news.say(0, 0, 1, 0, true, true);
        news.say(0, 1, 1, 0, true, true);
        Check.putInForce(news, "x0,1;x9,2;v0,5,3;b1,0;");
        check.due("once without", 0, news.belief(0, 0, 0));
        check.due("never", 10, news.belief(0, 1, 0));
        check.due("never, alone", 0, news.belief(1, 1, 0));
        check.due("nine times", -80, news.belief(0, 2, 0));
        check.due("nine times, alone", -90, news.belief(1, 2, 0));
        check.due("with what the writer weighs more", -120, news.belief(0, 3, 0));
        check.due("below 0 is not believed", 0, news.belief(0, 3, 1));
        check.due("what is denied never is", 1, news.belief(0, 1, 1));
        check.due("nor is nothing", 0, news.belief(1, 1, 1));
    }

    private static void beliefAtMost() {
        check.sentence("what it weighs (what = 0; it may be below 0)");
        for (int denied = 0; denied <= 1; denied++) {
            HandNews news = new HandNews();
            news.sheet(5, 7, 0);
            news.closet(5);
            Check.putInForce(news, "w5,100,0;v7,100,0;x9,0;b999,0;");
            for (int i = 0; i < 30; i++) {
                news.say(0, 9, 1, 0, i % 2 == 0, denied == 1);
                check.due("so far", denied == 1 ? -1800 * (i + 1) : 200 * (i + 1), news.belief(9, 999, 0));
            }
            check.due("believed", denied == 1 ? 0 : 1, news.belief(9, 999, 1));
        }
    }

    private static void beliefRefuses() {
        check.sentence("BAD answers -1000000; NO -1000002.");
        HandNews news = new HandNews();
        int[][] refused = {{-1, 0, 0}, {10, 0, 0}, {0, -1, 0}, {0, 1000, 0}, {0, 0, -1}, {0, 0, 2}};
        for (int[] x : refused) {
            check.due("belief", BAD_SUM, news.belief(x[0], x[1], x[2]));
        }
        news.sheet(0, 0, 1);
        news.sheet(0, 0, 0);
        news.behind(1, 0);
        check.due("quarrel", NO_SUM, news.belief(0, 0, 0));
        check.due("quarrel", NO_SUM, news.belief(9, 999, 1));
        for (int[] x : refused) {
            check.due("BAD comes first", BAD_SUM, news.belief(x[0], x[1], x[2]));
        }
    }

    private static int bannedBy(String rules, int day, int last) {
        HandNews news = new HandNews();
        news.sheet(3, 0, day == last ? day : -1);
        if (day != last) {
            news.sheet(3, 0, day);
            news.sheet(3, 0, last);
            news.behind(0, 1);
            news.behind(2, 0);
        }
        news.say(0, 4, 1, 0, false, false);
        check.holds(rules + " is in force", Check.putInForce(news, rules) > 0);
        return news.banned(-1);
    }

    private static void bannedOnSomeDay() {
        check.sentence("BANNED: SAYINGS of SHEETS that on some DAY of their SPAN may not write that THING from there.");
        check.due("on its first day", 1, bannedBy("n3,4,5,10;", 10, 20));
        check.due("a day before it", 0, bannedBy("n3,4,5,9;", 10, 20));
        check.due("on its last day", 1, bannedBy("n3,4,20,25;", 10, 20));
        check.due("a day behind it", 0, bannedBy("n3,4,21,25;", 10, 20));
        check.due("on one day within", 1, bannedBy("n3,4,15,15;", 10, 20));
        check.due("on all of it", 1, bannedBy("n3,4,0,999;", 10, 20));
        check.due("around it", 0, bannedBy("n3,4,0,9;n3,4,21,999;", 10, 20));
        check.due("of one day", 1, bannedBy("n3,4,10,10;", 10, 10));
        check.due("of day 0", 1, bannedBy("n3,4,0,0;", 0, 0));
        check.due("of day 999", 1, bannedBy("n3,4,999,999;", 999, 999));
        check.due("a day off", 0, bannedBy("n3,4,0,998;", 999, 999));
        check.due("a day off", 0, bannedBy("n3,4,1,999;", 0, 0));
        check.due("from another town", 0, bannedBy("n2,4,0,999;n4,4,0,999;", 10, 20));
        check.due("of another thing", 0, bannedBy("n3,3,0,999;n3,5,0,999;", 10, 20));
        check.due("once by two items", 1, bannedBy("n3,4,0,999;n3,4,0,999;", 10, 20));
        check.due("by the second item", 1, bannedBy("n0,0,0,999;n3,4,20,20;", 10, 20));
    }

    private static void bannedFromNoneToThirty() {
        check.sentence("BANNED: how many SAYINGS (i = -1), the i-th. NONE; BAD; NO.");
        HandNews news = new HandNews();
        check.due("of nothing", 0, news.banned(-1));
        check.due("the first of nothing", NONE, news.banned(0));
        news.sheet(5, 0, 0);
        for (int i = 0; i < 30; i++) {
            news.say(0, 9, 1, 0, i % 2 == 0, i % 3 == 0);
        }
        check.due("without rules", 0, news.banned(-1));
        Check.putInForce(news, "n5,9,0,0;");
        check.due("all", 30, news.banned(-1));
        for (int i = 0; i < 30; i++) {
            check.due("the " + i + "th", i, news.banned(i));
        }
        check.due("past the end", NONE, news.banned(30));
        check.due("far past the end", NONE, news.banned(Integer.MAX_VALUE));
        check.due("below", BAD, news.banned(-2));
        check.due("far below", BAD, news.banned(Integer.MIN_VALUE));
        news.sheet(0, 0, 1);
        news.sheet(0, 0, 0);
        news.behind(2, 1);
        check.due("quarrel", NO, news.banned(-1));
        check.due("quarrel", NO, news.banned(0));
        check.due("NO comes ahead of NONE", NO, news.banned(30));
        check.due("BAD comes first", BAD, news.banned(-2));
    }
}
