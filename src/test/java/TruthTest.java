/** Promises 30 to 38: truths, gains, what could be known, choices, what is kept, counts. */
public final class TruthTest {
    private static final Check check = new Check();

    public static void main(String[] args) {
        truthTellsWhatItWas();
        rightOfWriters();
        rightRefuses();
        beyondCountsWays();
        knownAndLag();
        worthTellsWhatItWas();
        buyTheWorst();
        buyByRegret();
        buyRefuses();
        keepAndBack();
        whatIsNotKept();
        counts();
        check.end();
    }

    private static void truthTellsWhatItWas() {
        HandNews news = new HandNews();
        check.due("at first", -1, news.truth(3, 0));
        check.due("then", 0, news.truth(3, 9999));
        check.due("thing below", -100, news.truth(-1, 0));
        check.due("thing above", -100, news.truth(10, 0));
        check.due("number below", -100, news.truth(3, -2));
        check.due("number above", -100, news.truth(3, 10000));
        check.due("one truth", 1, news.count(4));
        check.due("taken back", 9999, news.truth(3, -1));
        check.due("none", 0, news.count(4));
        check.due("none again", -1, news.truth(3, -1));
    }

    private static void rightOfWriters() {
        HandNews news = new HandNews();
        news.sheet(0, 2, 1);
        news.sheet(0, 3, 2);
        news.sheet(1, 2, 2);
        news.say(0, 0, 100, 0, false, false);
        news.say(1, 0, 100, 0, false, false);
        news.say(2, 0, 90, 0, false, false);
        news.say(0, 1, 7, 0, true, false);
        news.say(0, 2, 7, 0, true, true);
        news.say(1, 1, 10, 255, true, false);
        news.truth(0, 100);
        news.truth(2, 7);
        check.due("right of 2", 1, news.right(2, 0));
        check.due("by how many: no copy, none denied, none without truth", 2, news.right(2, 1));
        check.due("off", 10, news.right(2, 2));
        check.due("a copy is no matter of 3", 0, news.right(3, 1));
        news.truth(1, 12);
        check.due("one more of 2", 3, news.right(2, 1));
        check.due("off", 15, news.right(2, 2));
        check.due("one of 3", 1, news.right(3, 1));
        check.due("not right", 0, news.right(3, 0));
        check.due("off", 2, news.right(3, 2));
        news.truth(0, -1);
        check.due("truth taken back", 1, news.right(2, 1));
        check.due("nobody", 0, news.right(7, 2));
    }

    private static void rightRefuses() {
        HandNews news = new HandNews();
        check.due("BAD", HandNews.BAD, news.right(-1, 0));
        check.due("BAD", HandNews.BAD, news.right(8, 0));
        check.due("BAD", HandNews.BAD, news.right(0, -1));
        check.due("BAD", HandNews.BAD, news.right(0, 3));
        news.sheet(0, 0, 5);
        news.sheet(0, 0, 4);
        news.behind(1, 0);
        check.due("quarrel", HandNews.NO, news.right(0, 0));
        check.due("BAD ahead of NO", HandNews.BAD, news.right(0, 3));
    }

    private static void beyondCountsWays() {
        HandNews news = new HandNews();
        for (int m = 2; m <= 4; m++) {
            for (int n = 1; n <= 7; n++) {
                for (int k = 0; k <= n; k++) {
                    check.due("beyond(" + n + ", " + k + ", " + m + ")", waysByHand(n, k, m), news.beyond(n, k, m));
                }
            }
        }
        check.due("all ways", 1000000000000000L, news.beyond(15, 0, 10));
        check.due("one way", 1, news.beyond(15, 15, 10));
        check.due("all but none", 1000000000000000L - 205891132094649L, news.beyond(15, 1, 10));
        check.due("half", 16384, news.beyond(15, 8, 2));
        int[][] bad = {{0, 0, 2}, {16, 0, 2}, {5, -1, 2}, {5, 6, 2}, {5, 0, 1}, {5, 0, 11}, {-1, -1, 2}};
        for (int[] call : bad) {
            check.due("BAD", HandNews.BAD, news.beyond(call[0], call[1], call[2]));
        }
    }

    /** Goes through every way; way 0 of a look is the one that helps. */
    private static long waysByHand(int n, int k, int m) {
        if (n == 0) {
            return k <= 0 ? 1 : 0;
        }
        long ways = 0;
        for (int look = 0; look < m; look++) {
            ways += waysByHand(n - 1, look == 0 ? k - 1 : k, m);
        }
        return ways;
    }

    private static void knownAndLag() {
        HandNews news = new HandNews();
        news.post(0, 1, 3, 9);
        news.post(0, 2, 3, 4);
        news.post(2, 3, 5, 5);
        news.post(4, 0, 60, 60);
        news.happened(1, 0, 10);
        check.due("where it happened", 10, news.known(1, 0, 0));
        check.due("by post", 13, news.known(1, 1, 0));
        check.due("by two posts", 18, news.known(1, 3, 0));
        check.due("no way", HandNews.NONE, news.known(1, 4, 0));
        check.due("lag of the first", 3, news.known(1, 0, 1));
        check.due("lag, alike ones left out", 5, news.known(1, 1, 1));
        check.due("lag, alike ones left out", 5, news.known(1, 2, 1));
        check.due("lag of the last", HandNews.NONE, news.known(1, 3, 1));
        check.due("lag where it never comes", HandNews.NONE, news.known(1, 5, 1));
        check.due("did not happen", HandNews.NO, news.known(2, 0, 0));
        check.due("BAD ahead of NO", HandNews.BAD, news.known(2, 0, 2));
        news.happened(3, 4, 999);
        check.due("past the last day", 1059, news.known(3, 0, 0));
        int[][] bad = {{-1, 0, 0}, {10, 0, 0}, {1, -1, 0}, {1, 6, 0}, {1, 0, -1}, {1, 0, 2}};
        for (int[] call : bad) {
            check.due("BAD", HandNews.BAD, news.known(call[0], call[1], call[2]));
        }
        check.due("lag from elsewhere to town 0", 60, news.known(3, 4, 1));
        news.post(0, 1, 1, 1);
        check.due("a post in place", 11, news.known(1, 1, 0));
        check.due("changes the lag", 1, news.known(1, 0, 1));
        news.happened(4, 1, 10);
        news.post(1, 5, 9, 9);
        news.post(1, 4, 2, 2);
        check.due("the nearest of those that are later", 2, news.known(4, 1, 1));
        check.due("and not the farthest", 7, news.known(4, 4, 1));
    }

    private static void worthTellsWhatItWas() {
        HandNews news = new HandNews();
        check.due("at first", 0, news.worth(5, 3, -1000));
        check.due("then", -1000, news.worth(5, 3, 1000));
        check.due("then", 1000, news.worth(5, 3, 1));
        int[][] bad = {{-1, 0, 0}, {6, 0, 0}, {0, -1, 0}, {0, 4, 0}, {0, 0, -1001}, {0, 0, 1001}};
        for (int[] call : bad) {
            check.due("BAD", -10000, news.worth(call[0], call[1], call[2]));
        }
        check.due("nothing changed", 1, news.worth(5, 3, 1));
        check.due("nor another", 0, news.worth(0, 0, 0));
    }

    private static HandNews market() {
        HandNews news = new HandNews();
        int[][] worths = {
            {10, -5, 0, 1000}, {4, 4, 4, 4}, {4, 9, 9, 4}, {-1000, 1000, 8, 8}, {5, 5, 5, -9}, {7, 7, -7, 7}};
        for (int choice = 0; choice < 6; choice++) {
            for (int truth = 0; truth < 4; truth++) {
                news.worth(choice, truth, worths[choice][truth]);
            }
        }
        return news;
    }

    private static void buyTheWorst() {
        HandNews news = market();
        check.due("the lowest of several", 1, news.buy(6, 15, 0));
        check.due("its least worth", 4, news.buy(6, 15, 1));
        check.due("of one choice alone", 0, news.buy(1, 15, 0));
        check.due("its least worth", -5, news.buy(1, 15, 1));
        check.due("truths 0 to 2", 4, news.buy(6, 7, 0));
        check.due("its least worth", 5, news.buy(6, 7, 1));
        check.due("but not among four", 1, news.buy(4, 7, 0));
        check.due("truth 0 alone", 0, news.buy(6, 1, 0));
        check.due("truth 1 alone", 3, news.buy(6, 2, 0));
        check.due("truth 3 alone", 1000, news.buy(6, 8, 1));
        check.due("below 0 all", -1000, lowest().buy(6, 15, 1));
        check.due("the lowest of six alike", 0, lowest().buy(6, 15, 0));
    }

    private static HandNews lowest() {
        HandNews news = new HandNews();
        for (int choice = 0; choice < 6; choice++) {
            for (int truth = 0; truth < 4; truth++) {
                news.worth(choice, truth, -1000);
            }
        }
        return news;
    }

    private static void buyByRegret() {
        HandNews news = market();
        check.due("by all truths", 5, news.buy(6, 15, 2));
        check.due("that regret", 993, news.buy(6, 15, 3));
        check.due("among three, the lowest of several", 1, news.buy(3, 7, 2));
        check.due("that regret", 6, news.buy(3, 7, 3));
        check.due("of one choice none", 0, news.buy(1, 15, 3));
        check.due("truths 0 and 2", 4, news.buy(6, 5, 2));
        check.due("that regret", 5, news.buy(6, 5, 3));
        check.due("greatest of all", 2000, contrary().buy(2, 3, 3));
        check.due("the lowest of several", 0, contrary().buy(2, 3, 2));
    }

    private static HandNews contrary() {
        HandNews news = new HandNews();
        news.worth(0, 0, 1000);
        news.worth(1, 0, -1000);
        news.worth(0, 1, -1000);
        news.worth(1, 1, 1000);
        return news;
    }

    private static void buyRefuses() {
        HandNews news = new HandNews();
        int[][] bad = {{0, 1, 0}, {7, 1, 0}, {1, 0, 0}, {1, 16, 0}, {1, -1, 0}, {1, 1, -1}, {1, 1, 4}};
        for (int[] call : bad) {
            check.due("BAD", -10000, news.buy(call[0], call[1], call[2]));
        }
        check.due("all alike", 0, news.buy(6, 15, 0));
    }

    private static void keepAndBack() {
        HandNews news = new HandNews();
        news.post(0, 1, 2, 2);
        check.due("nothing kept", HandNews.NO, news.back());
        news.sheet(0, 0, 5);
        news.sheet(1, 1, -1);
        news.behind(1, 0);
        news.say(0, 0, 10, 3, true, false);
        news.say(1, 0, 19, 3, false, true);
        news.happened(0, 0, 4);
        news.truth(0, 10);
        check.due("kept", 1, news.keep());
        news.dated(0, 500);
        news.dated(1, 600);
        news.sheet(1, 1, 700);
        news.behind(2, 1);
        news.say(2, 0, 20, 3, false, false);
        news.happened(1, 0, 4);
        news.truth(0, 11);
        news.truth(1, 11);
        check.due("kept again", 2, news.keep());
        check.due("two at most", HandNews.FULL, news.keep());
        news.truth(2, 1);
        news.dated(2, -1);
        check.due("back to the second", 1, news.back());
        check.due("its day", 700, news.span(2, 0));
        check.due("its truths", 2, news.count(4));
        check.due("its sayings", 3, news.count(3));
        check.due("its number", 10, news.grew(2));
        check.due("kept once more", 2, news.keep());
        check.due("left once more", 1, news.back());
        check.due("back to the first", 0, news.back());
        check.due("sheets", 2, news.count(0));
        check.due("behind", 1, news.count(1));
        check.due("happened", 1, news.count(2));
        check.due("sayings", 2, news.count(3));
        check.due("truths", 1, news.count(4));
        check.due("first", 5, news.span(0, 0));
        check.due("first", 7, news.span(1, 0));
        check.due("last", 999, news.span(1, 1));
        check.due("a denied one", 1, news.voices(0, true));
        check.due("truth as kept", 10, news.truth(0, 10));
        check.due("happened as kept", 0, news.happened(1, 1, 4));
        check.due("nothing left", HandNews.NO, news.back());
        check.due("a new saying in an old place", 2, news.say(1, 0, 10, 3, false, false));
        check.due("has its own marks", 0, news.from(2));
    }

    private static void whatIsNotKept() {
        HandNews news = new HandNews();
        news.post(0, 1, 2, 2);
        Check.putInForce(news, "b5,0;");
        news.keep();
        news.post(0, 1, 3, 3);
        news.own(5);
        news.closet(4);
        news.worth(0, 0, 9);
        Check.putInForce(news, "b6,0;b7,0;");
        news.back();
        check.due("posts stay", 3, news.way(0, 1));
        check.due("own stays", 5, news.own(5));
        check.due("the closet stays", 4, news.closet(4));
        check.due("worths stay", 9, news.worth(0, 0, 9));
        check.due("rules stay", 7, news.rule(3, 0, 0));
        check.due("the text stays", 10, news.count(5));
    }

    private static void counts() {
        HandNews news = new HandNews();
        for (int from = 0; from < 6; from++) {
            for (int to = 0; to < 6; to++) {
                news.post(from, to, 1, 1);
            }
        }
        check.due("posts", 30, news.count(8));
        news.sheet(0, 0, 0);
        news.sheet(0, 0, 0);
        news.behind(1, 0);
        news.behind(1, 0);
        news.behind(0, 1);
        news.happened(0, 0, 0);
        news.happened(9, 0, 0);
        news.happened(5, 0, 0);
        news.happened(6, 1, 0);
        for (int i = 0; i < 5; i++) {
            news.say(0, 0, 0, 0, false, false);
        }
        for (int i = 0; i < 6; i++) {
            news.truth(i, 0);
        }
        Check.putInForce(news, "b5,0;");
        Check.faultOf(news, "b5,0;;");
        news.keep();
        int[] due = {2, 3, 4, 5, 6, 6, 1, 1, 30};
        for (int what = 0; what <= 8; what++) {
            check.due("count(" + what + ")", due[what], news.count(what));
        }
        check.due("below", HandNews.BAD, news.count(-1));
        check.due("above", HandNews.BAD, news.count(9));
    }
}
