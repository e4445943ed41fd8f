/** Promises 30 to 38, sentence by sentence: the lowest, the highest, just outside, empty, full, refused. */
public final class TruthEdgesTest {
    private static final int BAD = HandNews.BAD, NO = HandNews.NO, FULL = HandNews.FULL, NONE = HandNews.NONE;
    private static final int BAD_WORTH = -10000;
    private static final Check check = new Check();

    public static void main(String[] args) {
        truthOfEachThing();
        rightOfNothing();
        rightOfThoseThatCount();
        rightAndOffAtMost();
        rightRefuses();
        beyondByOne();
        beyondOfNoneAndAll();
        beyondRefuses();
        knownByTowns();
        lagToTheNextLater();
        knownRefuses();
        worthsAtMost();
        buyTheGreatestLeast();
        buyOfTruthsLet();
        buyAmongChoices();
        buyTheLeastRegret();
        buyAtMost();
        buyRefuses();
        keepTwoAtMost();
        backFromNothing();
        backToAllThatIsKept();
        backToEmptyAndFull();
        restIsNotKept();
        countsFromNoneToFull();
        theLastCallOfAll();
        check.end();
    }

    private static void truthOfEachThing() {
        check.sentence("TRUTH of a THING (-1: none): what it was (-1). BAD answers -100.");
        HandNews news = new HandNews();
        int[][] refused = {{-1, 0}, {10, 0}, {0, -2}, {0, 10000}, {0, Integer.MAX_VALUE}, {0, Integer.MIN_VALUE}};
        for (int thing = 0; thing <= 9; thing++) {
            check.due("none at first", -1, news.truth(thing, -1));
            check.due("none", -1, news.truth(thing, 0));
            for (int[] x : refused) {
                check.due("a bad one", -100, news.truth(x[0], x[1]));
            }
            check.due("the lowest", 0, news.truth(thing, 9999));
            check.due("truths", thing + 1, news.count(4));
            check.due("the highest", 9999, news.truth(thing, 9999));
        }
        for (int thing = 0; thing <= 9; thing++) {
            check.due("taken back", 9999, news.truth(thing, -1));
            check.due("taken back already", -1, news.truth(thing, -1));
            check.due("truths", 9 - thing, news.count(4));
        }
    }

    private static void rightOfNothing() {
        check.sentence("RIGHT of a WRITER: how many have that NUMBER (0), by how many (1); OFF (2)");
        HandNews news = new HandNews();
        for (int writer = 0; writer <= 7; writer++) {
            for (int what = 0; what <= 2; what++) {
                check.due("of nothing", 0, news.right(writer, what));
            }
        }
    }

    private static void rightIs(HandNews news, int writer, int right, int all, int off) {
        check.due("right", right, news.right(writer, 0));
        check.due("by how many", all, news.right(writer, 1));
        check.due("off", off, news.right(writer, 2));
    }

    private static void rightOfThoseThatCount() {
        check.sentence("of its SAYINGS (not DENIED) that have it of nobody, of THINGS with TRUTH");
        HandNews news = new HandNews();
        news.sheet(0, 0, 5);
        news.sheet(0, 7, 6);
        news.say(0, 0, 100, 0, false, false);
        news.say(1, 0, 100, 0, false, false);
        rightIs(news, 0, 0, 0, 0);
        news.truth(0, 100);
        rightIs(news, 0, 1, 1, 0);
        rightIs(news, 7, 0, 0, 0);
        news.say(1, 0, 99, 0, true, false);
        rightIs(news, 7, 0, 1, 1);
        news.say(1, 0, 102, 0, true, false);
        rightIs(news, 7, 0, 2, 3);
        news.say(1, 0, 100, 0, true, true);
        rightIs(news, 7, 0, 2, 3);
        news.say(1, 9, 0, 0, false, false);
        rightIs(news, 7, 0, 2, 3);
        news.truth(9, 0);
        rightIs(news, 7, 1, 3, 3);
        news.truth(0, -1);
        rightIs(news, 7, 1, 1, 0);
        rightIs(news, 0, 0, 0, 0);
        news.truth(0, 0);
        rightIs(news, 0, 0, 1, 100);
        news.own(0);
        rightIs(news, 7, 1, 3, 201);
        news.dated(1, 5);
        rightIs(news, 7, 1, 3, 201);
        news.dated(1, 4);
        rightIs(news, 7, 1, 4, 301);
        rightIs(news, 0, 0, 0, 0);
    }

    private static void rightAndOffAtMost() {
        check.sentence("OFF: the sum of how far NUMBERS are off");
        HandNews news = new HandNews();
        news.sheet(0, 7, 0);
        for (int i = 0; i < 30; i++) {
            news.say(0, i % 10, i < 15 ? 9999 : 0, 0, true, false);
        }
        for (int thing = 0; thing <= 9; thing++) {
            news.truth(thing, 0);
        }
        rightIs(news, 7, 15, 30, 15 * 9999);
        for (int thing = 0; thing <= 9; thing++) {
            news.truth(thing, 9999);
        }
        rightIs(news, 7, 15, 30, 15 * 9999);
        HandNews all = new HandNews();
        all.sheet(0, 7, 0);
        for (int i = 0; i < 30; i++) {
            all.say(0, 9, 9999, 0, false, false);
        }
        all.truth(9, 0);
        rightIs(all, 7, 0, 30, 30 * 9999);
        all.truth(9, 9999);
        rightIs(all, 7, 30, 30, 0);
    }

    private static void rightRefuses() {
        check.sentence("BAD; NO: a QUARREL.");
        HandNews news = new HandNews();
        news.sheet(0, 0, 1);
        news.sheet(0, 0, 0);
        int[][] refused = {{-1, 0}, {8, 0}, {0, -1}, {0, 3}, {7, 3}, {8, 3}};
        for (int[] x : refused) {
            check.due("right(" + x[0] + ", " + x[1] + ")", BAD, news.right(x[0], x[1]));
        }
        news.behind(1, 0);
        for (int what = 0; what <= 2; what++) {
            check.due("quarrel", NO, news.right(7, what));
        }
        for (int[] x : refused) {
            check.due("BAD comes first", BAD, news.right(x[0], x[1]));
        }
    }

    private static void beyondByOne() {
        check.sentence("of m to the n ways those by which k or more do (each look one way of m that helps)");
        HandNews news = new HandNews();
        for (int m = 2; m <= 10; m++) {
            check.due("one look, none or more", m, news.beyond(1, 0, m));
            check.due("one look, one or more", 1, news.beyond(1, 1, m));
            check.due("two looks, one or more", 2L * m - 1, news.beyond(2, 1, m));
        }
        for (int n = 1; n <= 15; n++) {
            check.due("one of two, all but none", (1L << n) - 1, news.beyond(n, 1, 2));
            check.due("one of two, all but one or all", n + 1, news.beyond(n, n - 1, 2));
            check.due("one of ten, all but one or all", 9L * n + 1, news.beyond(n, n - 1, 10));
        }
    }

    private static void beyondOfNoneAndAll() {
        check.sentence("n looked at (1 to 15), k helped somebody (k 0 to n), one of m (2 to 10)");
        HandNews news = new HandNews();
        for (int m = 2; m <= 10; m++) {
            long all = 1;
            for (int n = 1; n <= 15; n++) {
                all *= m;
                check.due("all ways of " + n + " by " + m, all, news.beyond(n, 0, m));
                check.due("the one way", 1, news.beyond(n, n, m));
            }
        }
        check.due("the most ways but those of none", 1000000000000000L - 205891132094649L, news.beyond(15, 1, 10));
        check.due("14 of 15 by 10", 136, news.beyond(15, 14, 10));
    }

    private static void beyondRefuses() {
        check.sentence("BEYOND. BAD (k 0 to n).");
        HandNews news = new HandNews();
        int[][] refused = {
            {0, 0, 2}, {16, 0, 2}, {-1, 0, 2}, {1, -1, 2}, {1, 2, 2}, {15, 16, 2}, {15, -1, 10}, {1, 0, 1}, {1, 0, 11},
            {1, 0, 0}, {1, 0, -1}, {14, 15, 2}, {Integer.MIN_VALUE, Integer.MIN_VALUE, 2},
            {Integer.MAX_VALUE, Integer.MAX_VALUE, 2}};
        for (int[] x : refused) {
            check.due("beyond(" + x[0] + ", " + x[1] + ", " + x[2] + ")", BAD, news.beyond(x[0], x[1], x[2]));
        }
    }

    private static void knownByTowns() {
        check.sentence("KNOWN FIRST of a THING that HAPPENED: by TOWNS: the first DAY");
        HandNews news = new HandNews();
        for (int town = 0; town < 5; town++) {
            news.post(town, town + 1, 60, 60);
        }
        news.happened(0, 0, 0);
        news.happened(9, 0, 999);
        for (int town = 0; town <= 5; town++) {
            check.due("of day 0 in " + town, 60 * town, news.known(0, town, 0));
            check.due("of day 999 in " + town, 999 + 60 * town, news.known(9, town, 0));
            check.due("lag in " + town, town == 5 ? NONE : 60, news.known(0, town, 1));
        }
        news.happened(5, 5, 500);
        check.due("where it happened", 500, news.known(5, 5, 0));
        check.due("against the posts", NONE, news.known(5, 4, 0));
        check.due("it is the last itself", NONE, news.known(5, 5, 1));
        check.due("lag where it never comes", NONE, news.known(5, 0, 1));
    }

    private static void lagToTheNextLater() {
        check.sentence("LAG: to the next TOWN that has it later (alike ones left out; none, if it is the last)");
        HandNews news = new HandNews();
        news.post(3, 0, 5, 5);
        news.post(3, 5, 5, 5);
        news.post(3, 1, 6, 6);
        news.post(3, 4, 60, 60);
        news.happened(2, 3, 100);
        check.due("of the first", 5, news.known(2, 3, 1));
        check.due("alike ones left out", 1, news.known(2, 0, 1));
        check.due("alike ones left out", 1, news.known(2, 5, 1));
        check.due("to the last", 54, news.known(2, 1, 1));
        check.due("of the last", NONE, news.known(2, 4, 1));
        check.due("of one that never has it", NONE, news.known(2, 2, 1));
        news.post(3, 2, 60, 60);
        check.due("two last ones alike", NONE, news.known(2, 4, 1));
        check.due("two last ones alike", NONE, news.known(2, 2, 1));
        news.post(3, 1, 5, 5);
        check.due("three alike", 55, news.known(2, 1, 1));
        HandNews falling = new HandNews();
        for (int town = 0; town < 5; town++) {
            falling.post(5, town, 60 - 10 * town, 60);
        }
        falling.happened(9, 5, 500);
        int[] lag = {NONE, 10, 10, 10, 10, 20};
        for (int town = 0; town <= 5; town++) {
            check.due("later ones by lower towns, " + town, lag[town], falling.known(9, town, 1));
        }
    }

    private static void knownRefuses() {
        check.sentence("NONE; BAD; NO: it did not HAPPEN.");
        HandNews news = new HandNews();
        news.happened(0, 0, 0);
        int[][] refused = {{-1, 0, 0}, {10, 0, 0}, {0, -1, 0}, {0, 6, 0}, {0, 0, -1}, {0, 0, 2}, {9, 0, 2}, {9, 6, 0}};
        for (int[] x : refused) {
            check.due("known(" + x[0] + ", " + x[1] + ", " + x[2] + ")", BAD, news.known(x[0], x[1], x[2]));
        }
        for (int what = 0; what <= 1; what++) {
            check.due("it did not happen", NO, news.known(9, 5, what));
            check.due("NO comes ahead of NONE", NO, news.known(1, 5, what));
            check.due("no way", NONE, news.known(0, 5, what));
        }
        news.sheet(0, 0, 1);
        news.sheet(0, 0, 0);
        news.behind(1, 0);
        check.due("a quarrel is no matter of it", 0, news.known(0, 0, 0));
    }

    private static void worthsAtMost() {
        check.sentence("CHOICES 0 to 5 by TRUTHS 0 to 3: worths (-1000 to 1000; 0 at first). BAD answers -10000.");
        HandNews news = new HandNews();
        int[][] refused = {
            {-1, 0, 0}, {6, 0, 0}, {0, -1, 0}, {0, 4, 0}, {0, 0, -1001}, {0, 0, 1001}, {5, 4, 0}, {6, 3, 0},
            {0, 0, Integer.MIN_VALUE}, {Integer.MAX_VALUE, 0, 0}};
        for (int at = 0; at < 24; at++) {
            check.due("at first", 0, news.worth(at / 4, at % 4, -1000));
            check.due("the lowest", -1000, news.worth(at / 4, at % 4, 1000));
            check.due("the highest", 1000, news.worth(at / 4, at % 4, 100 + at));
        }
        for (int[] x : refused) {
            check.due("a bad one", BAD_WORTH, news.worth(x[0], x[1], x[2]));
        }
        for (int at = 0; at < 24; at++) {
            check.due("each stays", 100 + at, news.worth(at / 4, at % 4, 0));
        }
    }

    private static HandNews worths(int[]... rows) {
        HandNews news = new HandNews();
        for (int choice = 0; choice < rows.length; choice++) {
            for (int truth = 0; truth < rows[choice].length; truth++) {
                news.worth(choice, truth, rows[choice][truth]);
            }
        }
        return news;
    }

    private static void buys(HandNews news, int n, int truths, int... due) {
        for (int what = 0; what <= 3; what++) {
            check.due("buy(" + n + ", " + truths + ", " + what + ")", due[what], news.buy(n, truths, what));
        }
    }

    private static void buyTheGreatestLeast() {
        check.sentence("the least worth over TRUTHS that are let is greatest, the lowest of several");
        buys(new HandNews(), 6, 15, 0, 0, 0, 0);
        check.due("by one more", 1, worths(new int[] {5, 9}, new int[] {6, 6}).buy(2, 3, 0));
        check.due("alike", 0, worths(new int[] {5, 9}, new int[] {6, 5}).buy(2, 3, 0));
        check.due("by one less", 0, worths(new int[] {5, 9}, new int[] {9, 4}).buy(2, 3, 0));
        HandNews six = worths(new int[] {1}, new int[] {2}, new int[] {3}, new int[] {4}, new int[] {5}, new int[] {6});
        for (int n = 1; n <= 6; n++) {
            buys(six, n, 1, n - 1, n, n - 1, 0);
        }
        HandNews down = worths(
                new int[] {-1}, new int[] {-2}, new int[] {-3}, new int[] {-4}, new int[] {-5}, new int[] {-6});
        for (int n = 1; n <= 6; n++) {
            buys(down, n, 1, 0, -1, 0, 0);
        }
    }

    private static void buyOfTruthsLet() {
        check.sentence("TRUTHS that are let (a set), TRUTHS let (1 to 15)");
        HandNews news = worths(new int[] {8, 4, 2, 1}, new int[] {1, 2, 4, 8});
        int[] choice = {0, 0, 0, 1, 0, 0, 0, 1, 0, 1, 0, 1, 0, 1, 0};
        int[] least = {8, 4, 4, 4, 2, 2, 2, 8, 1, 2, 1, 4, 1, 2, 1};
        for (int truths = 1; truths <= 15; truths++) {
            check.due("choice by " + truths, choice[truths - 1], news.buy(2, truths, 0));
            check.due("its least worth by " + truths, least[truths - 1], news.buy(2, truths, 1));
        }
    }

    private static void buyAmongChoices() {
        check.sentence("BUY among CHOICES 0 to n - 1 (n 1 to 6)");
        HandNews news = worths(new int[] {0, 0}, new int[] {1, 1}, new int[] {7, 7});
        buys(news, 1, 3, 0, 0, 0, 0);
        buys(news, 2, 3, 1, 1, 1, 0);
        buys(news, 3, 3, 2, 7, 2, 0);
        buys(news, 6, 3, 2, 7, 2, 0);
        HandNews apart = worths(new int[] {3, -5}, new int[] {1, 1}, new int[] {100, -100});
        check.due("regret by the two alone", 2, apart.buy(2, 3, 3));
        check.due("the calmer of two", 1, apart.buy(2, 3, 2));
        check.due("regret by the third, too", 97, apart.buy(3, 3, 3));
        check.due("the calmer of three", 0, apart.buy(3, 3, 2));
    }

    private static void buyTheLeastRegret() {
        check.sentence("REGRET: that by which the greatest of (the best worth of that TRUTH less its own) is least");
        buys(worths(new int[] {10, 0}, new int[] {5, 5}), 2, 3, 1, 5, 0, 5);
        buys(worths(new int[] {10, 0}, new int[] {5, 6}), 2, 3, 1, 5, 1, 5);
        buys(worths(new int[] {10, 0}, new int[] {6, 5}), 2, 3, 1, 5, 1, 4);
        buys(worths(new int[] {10, 1}, new int[] {6, 5}), 2, 3, 1, 5, 0, 4);
        buys(worths(new int[] {10, 2}, new int[] {6, 5}), 2, 3, 1, 5, 0, 3);
        buys(worths(new int[] {-9, -9}, new int[] {-9, -9}), 2, 3, 0, -9, 0, 0);
    }

    private static void buyAtMost() {
        check.sentence("worths (-1000 to 1000)");
        buys(worths(new int[] {1000, -1000}, new int[] {-1000, 1000}), 2, 3, 0, -1000, 0, 2000);
        buys(worths(new int[] {-1000, -1000, -1000, -1000}), 1, 15, 0, -1000, 0, 0);
        buys(worths(new int[] {1000, 1000, 1000, 1000}), 1, 15, 0, 1000, 0, 0);
        buys(worths(new int[] {1000, 1000, 1000, 1000}), 6, 15, 0, 1000, 0, 0);
        buys(worths(new int[] {-1000, -1000, -1000, -1000}), 6, 15, 1, 0, 1, 0);
    }

    private static void buyRefuses() {
        check.sentence("BAD answers -10000.");
        HandNews news = new HandNews();
        int[][] refused = {
            {0, 1, 0}, {7, 1, 0}, {-1, 1, 0}, {1, 0, 0}, {1, 16, 0}, {1, 17, 0}, {1, -1, 0}, {1, 1, -1}, {1, 1, 4},
            {1, Integer.MIN_VALUE, 0}, {1, Integer.MAX_VALUE, 0}};
        for (int[] x : refused) {
            check.due("buy(" + x[0] + ", " + x[1] + ", " + x[2] + ")", BAD_WORTH, news.buy(x[0], x[1], x[2]));
        }
    }

    private static void keepTwoAtMost() {
        check.sentence("KEPT: how many. FULL. 2 at most.");
        HandNews news = new HandNews();
        check.due("one", 1, news.keep());
        news.sheet(0, 0, 1);
        check.due("two", 2, news.keep());
        news.sheet(0, 0, 2);
        check.due("a third", FULL, news.keep());
        check.due("a fourth", FULL, news.keep());
        check.due("kept", 2, news.count(7));
        check.due("what is, stays", 2, news.count(0));
        check.due("back to the second", 1, news.back());
        check.due("as it was kept", 1, news.count(0));
        check.due("room again", 2, news.keep());
        check.due("and none again", FULL, news.keep());
    }

    private static void backFromNothing() {
        check.sentence("As KEPT last: how many are left. NO.");
        HandNews news = new HandNews();
        check.due("nothing kept", NO, news.back());
        news.sheet(0, 0, 1);
        check.due("nothing kept", NO, news.back());
        check.due("what is, stays", 1, news.count(0));
        news.keep();
        news.dated(0, 2);
        news.keep();
        news.dated(0, 3);
        check.due("one left", 1, news.back());
        check.due("as kept last", 2, news.span(0, 0));
        news.dated(0, 9);
        check.due("none left", 0, news.back());
        check.due("as kept first", 1, news.span(0, 0));
        check.due("nothing left", NO, news.back());
        check.due("what is, stays", 1, news.span(0, 0));
    }

    private static void backToAllThatIsKept() {
        check.sentence("KEPT are SHEETS and their DAYS, BEHIND, SAYINGS, what HAPPENED, TRUTHS");
        Scene kept = new Scene("kept");
        kept.and(news -> news.post(0, 1, 3, 4)).and(news -> news.post(1, 0, 2, 2));
        kept.and(news -> news.sheet(0, 1, 5)).and(news -> news.sheet(1, 2, -1)).and(news -> news.sheet(1, 3, 50));
        kept.and(news -> news.behind(1, 0)).and(news -> news.behind(2, 1)).and(news -> news.happened(3, 0, 4));
        kept.and(news -> news.say(0, 3, 100, 9, true, false)).and(news -> news.say(1, 3, 104, 8, false, false));
        kept.and(news -> news.say(2, 3, 0, 0, false, true)).and(news -> news.truth(3, 100));
        kept.and(news -> news.truth(9, 0));
        String changed = kept.changedBy(news -> {
            news.keep();
            overwrite(news);
            return news.back();
        });
        check.holds("all is as kept, but " + changed, changed == null);
        String twice = kept.changedBy(news -> {
            news.keep();
            overwrite(news);
            news.keep();
            overwrite(news);
            news.back();
            return news.back();
        });
        check.holds("all is as kept first, but " + twice, twice == null);
    }

    private static void overwrite(HandNews news) {
        for (int i = 0; i < 12; i++) {
            news.sheet(1 - i % 2, i % 8, 900 + i);
        }
        for (int sheet = 0; sheet < 12; sheet++) {
            news.dated(sheet, 888 - sheet);
        }
        for (int i = 0; i < 20; i++) {
            news.behind(i % 12, (i + 1) % 12);
        }
        for (int i = 0; i < 30; i++) {
            news.say(i % 12, i % 10, 9999 - i, 255 - i, i % 2 == 0, i % 3 == 0);
        }
        for (int thing = 0; thing <= 9; thing++) {
            news.happened(thing, thing % 2, 900);
            news.truth(thing, thing == 3 ? -1 : 7777);
        }
    }

    private static void backToEmptyAndFull() {
        check.sentence("KEPT are SHEETS and their DAYS, BEHIND, SAYINGS, what HAPPENED, TRUTHS");
        HandNews news = new HandNews();
        news.post(0, 1, 1, 1);
        news.post(1, 0, 1, 1);
        news.keep();
        overwrite(news);
        int[] full = {12, 20, 10, 30, 9};
        for (int what = 0; what <= 4; what++) {
            check.due("count(" + what + ") told", full[what], news.count(what));
        }
        news.back();
        for (int what = 0; what <= 4; what++) {
            check.due("count(" + what + ") of the empty one", 0, news.count(what));
        }
        for (int thing = 0; thing <= 9; thing++) {
            check.due("no truth", -1, news.truth(thing, -1));
            check.due("nothing happened", NO, news.known(thing, 0, 0));
        }
        check.due("no sheet", BAD, news.span(0, 0));
        check.due("no saying", BAD, news.from(0));
    }

    private static void restIsNotKept() {
        check.sentence("KEPT are SHEETS and their DAYS, BEHIND, SAYINGS, what HAPPENED, TRUTHS");
        HandNews news = new HandNews();
        news.keep();
        news.post(0, 1, 9, 9);
        news.own(7);
        news.closet(3);
        news.worth(5, 3, 55);
        Check.putInForce(news, "b5,0;x3,0;");
        Check.faultOf(news, "w");
        news.back();
        check.due("posts are not", 9, news.way(0, 1));
        check.due("nor how many", 1, news.count(8));
        check.due("own is not", 7, news.own(7));
        check.due("the closet is not", 3, news.closet(3));
        check.due("worths are not", 55, news.worth(5, 3, 55));
        check.due("what is in force is not", 2, news.count(6));
        check.due("the text is not", 1, news.count(5));
        check.due("and is as it was", 0, news.fault());
    }

    private static void countsFromNoneToFull() {
        check.sentence("How many: 0 SHEETS .. 8 POSTS. BAD.");
        HandNews empty = new HandNews();
        HandNews full = Scenes.full().play();
        int[] most = {12, 20, 10, 30, 10, 200, 40, 2, 21};
        for (int what = 0; what <= 8; what++) {
            check.due("count(" + what + ") of nothing", 0, empty.count(what));
            check.due("count(" + what + ") of the most", most[what], full.count(what));
        }
        for (int what : new int[] {Integer.MIN_VALUE, -1, 9, Integer.MAX_VALUE}) {
            check.due("count(" + what + ")", BAD, empty.count(what));
            check.due("count(" + what + ")", BAD, full.count(what));
        }
        HandNews posts = new HandNews();
        for (int at = 0; at < 36; at++) {
            posts.post(at / 6, at % 6, 1, 1);
        }
        check.due("all posts", 30, posts.count(8));
        posts.truth(0, 5);
        posts.truth(0, 6);
        check.due("one truth told twice", 1, posts.count(4));
        posts.truth(0, -1);
        check.due("and taken back", 0, posts.count(4));
    }

    private static void theLastCallOfAll() {
        check.sentence("An object is used for at most 512 calls after it has been made");
        HandNews news = new HandNews();
        for (int sheet = 0; sheet < 12; sheet++) {
            news.sheet(0, 0, sheet);
        }
        for (int i = 0; i < 30; i++) {
            news.say(i % 12, 0, 1, 0, false, false);
        }
        for (int calls = 42; calls < 511; calls++) {
            check.due("own again and again", calls == 42 ? 12 : calls - 1 & 15, news.own(calls & 15));
        }
        check.due("the 512th call: all but the two others of sheet 0", 28, news.voice(29, 1));
    }
}
