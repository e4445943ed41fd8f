/** Promises 1 to 10: a new object, towns and posts, sheets and their spans. */
public final class TownsTest {
    private static final Check check = new Check();

    public static void main(String[] args) {
        newObject();
        postTakesAndRefuses();
        postIsReplaced();
        waysAndSlowWays();
        slowTakesTheGreatestOfAlikeWays();
        sheetsTakeAndRefuse();
        datedTellsWhatItWas();
        behindTakesAndRefuses();
        happenedTakesAndRefuses();
        spansFollowPairs();
        spansFollowWhatHappened();
        spansEndAtDay999();
        ringsQuarrel();
        longChainsSettle();
        aheadHangsTogether();
        laterCallsAreSeen();
        check.end();
    }

    private static void newObject() {
        HandNews news = new HandNews();
        for (int what = 0; what <= 8; what++) {
            check.due("count(" + what + ") of a new object", 0, news.count(what));
        }
        check.due("fault()", HandNews.NONE, news.fault());
        check.due("quarrel()", HandNews.NONE, news.quarrel());
        check.due("force() of the empty text", 0, news.force());
        check.due("wipe()", 0, news.wipe());
        check.due("back()", HandNews.NO, news.back());
        for (int from = 0; from < 6; from++) {
            for (int to = 0; to < 6; to++) {
                check.due("way without posts", from == to ? 0 : HandNews.NONE, news.way(from, to));
                check.due("slow without posts", from == to ? 0 : HandNews.NONE, news.slow(from, to));
            }
        }
        for (int k = 0; k < 6; k++) {
            check.due("w without", 10, news.rule(0, k, 0));
            check.due("v without", 0, news.rule(1, k, 999));
        }
        check.due("o without", 999, news.rule(2, 0, 5));
        check.due("b without", 20, news.rule(3, 0, 5));
        check.due("x without", 1, news.rule(4, 0, 5));
        check.due("own at first", 12, news.own(12));
        check.due("closet at first", 0, news.closet(0));
        check.due("truth at first", -1, news.truth(0, -1));
        check.due("worth at first", 0, news.worth(5, 3, 0));
        check.due("habit of nobody's sayings", 0, news.habit(7));
        check.due("voices of nothing", 0, news.voices(9, false));
    }

    private static void postTakesAndRefuses() {
        HandNews news = new HandNews();
        check.due("post from below", HandNews.BAD, news.post(-1, 0, 1, 1));
        check.due("post from above", HandNews.BAD, news.post(6, 0, 1, 1));
        check.due("post to below", HandNews.BAD, news.post(0, -1, 1, 1));
        check.due("post to above", HandNews.BAD, news.post(0, 6, 1, 1));
        check.due("post to itself", HandNews.BAD, news.post(3, 3, 1, 1));
        check.due("post least 0", HandNews.BAD, news.post(0, 1, 0, 1));
        check.due("post most 61", HandNews.BAD, news.post(0, 1, 1, 61));
        check.due("post least above most", HandNews.BAD, news.post(0, 1, 5, 4));
        check.due("nothing changed", 0, news.count(8));
        check.due("post 1 to 60", 0, news.post(0, 5, 1, 60));
        check.due("post 60 to 60", 0, news.post(5, 0, 60, 60));
        check.due("count of posts", 2, news.count(8));
        news.sheet(0, 0, -1);
        check.due("post with sheets told", HandNews.NO, news.post(0, 1, 1, 1));
        check.due("BAD comes ahead of NO", HandNews.BAD, news.post(0, 0, 1, 1));
        check.due("no post came", 2, news.count(8));
        check.due("no way came", HandNews.NONE, news.way(0, 1));
    }

    private static void postIsReplaced() {
        HandNews news = new HandNews();
        news.post(0, 1, 3, 4);
        check.due("way before", 3, news.way(0, 1));
        check.due("post in place", 0, news.post(0, 1, 7, 9));
        check.due("way after", 7, news.way(0, 1));
        check.due("slow after", 9, news.slow(0, 1));
        check.due("still one post", 1, news.count(8));
        news.keep();
        news.sheet(0, 0, 0);
        check.due("post refused", HandNews.NO, news.post(0, 1, 1, 1));
        news.back();
        check.due("post again, as no sheet is told any more", 0, news.post(0, 1, 2, 2));
        check.due("way by it", 2, news.way(0, 1));
    }

    private static void waysAndSlowWays() {
        HandNews news = new HandNews();
        news.post(0, 1, 60, 60);
        news.post(1, 2, 60, 60);
        news.post(2, 3, 60, 60);
        news.post(3, 4, 60, 60);
        news.post(4, 5, 60, 60);
        check.due("the longest way", 300, news.way(0, 5));
        check.due("and slow", 300, news.slow(0, 5));
        check.due("posts lead one way", HandNews.NONE, news.way(5, 0));
        check.due("slow, too", HandNews.NONE, news.slow(5, 0));
        news.post(5, 0, 1, 2);
        check.due("around", 61, news.way(5, 1));
        check.due("to itself 0, whatever the ring", 0, news.way(5, 5));
        check.due("slow to itself", 0, news.slow(5, 5));
        check.due("way BAD", HandNews.BAD, news.way(-1, 0));
        check.due("way BAD", HandNews.BAD, news.way(0, 6));
        check.due("way BAD", HandNews.BAD, news.way(6, 6));
        check.due("slow BAD", HandNews.BAD, news.slow(0, -1));
        check.due("slow BAD", HandNews.BAD, news.slow(6, 0));
    }

    private static void slowTakesTheGreatestOfAlikeWays() {
        HandNews news = new HandNews();
        news.post(0, 3, 4, 50);
        news.post(0, 1, 1, 2);
        news.post(1, 3, 2, 3);
        check.due("the shorter way", 3, news.way(0, 3));
        check.due("slow goes by the shorter way alone", 5, news.slow(0, 3));
        news.post(0, 2, 2, 20);
        news.post(2, 3, 1, 1);
        check.due("two alike", 3, news.way(0, 3));
        check.due("the slower of them", 21, news.slow(0, 3));
        news.post(3, 4, 1, 1);
        check.due("further on", 22, news.slow(0, 4));
        HandNews turned = new HandNews();
        turned.post(0, 1, 1, 20);
        turned.post(1, 3, 2, 3);
        turned.post(0, 2, 2, 2);
        turned.post(2, 3, 1, 1);
        check.due("the slower one by the lower town", 23, turned.slow(0, 3));
    }

    private static void laterCallsAreSeen() {
        HandNews news = new HandNews();
        news.post(0, 1, 4, 4);
        news.sheet(0, 0, 3);
        check.due("asked once", 3, news.span(0, 0));
        news.sheet(1, 0, 9);
        check.due("a sheet that came since", 9, news.span(1, 0));
        news.say(1, 0, 1, 0, false, false);
        news.dated(1, -1);
        check.due("a day taken back since", 0, news.span(1, 0));
        news.happened(0, 0, 20);
        check.due("a thing that happened since", 24, news.span(1, 0));
        news.sheet(1, 0, -1);
        news.behind(2, 1);
        check.due("a pair told since", 24, news.span(2, 0));
        news.say(2, 1, 1, 0, false, false);
        news.say(1, 1, 1, 0, false, false);
        check.due("of one said since", 2, news.from(1));
        news.keep();
        news.dated(1, 100);
        check.due("dated since", 100, news.span(2, 0));
        news.back();
        check.due("back since", 24, news.span(2, 0));
    }

    private static void sheetsTakeAndRefuse() {
        HandNews news = new HandNews();
        check.due("town below", HandNews.BAD, news.sheet(-1, 0, 0));
        check.due("town above", HandNews.BAD, news.sheet(6, 0, 0));
        check.due("writer below", HandNews.BAD, news.sheet(0, -1, 0));
        check.due("writer above", HandNews.BAD, news.sheet(0, 8, 0));
        check.due("day below", HandNews.BAD, news.sheet(0, 0, -2));
        check.due("day above", HandNews.BAD, news.sheet(0, 0, 1000));
        check.due("none came", 0, news.count(0));
        for (int i = 0; i < 12; i++) {
            check.due("sheet", i, news.sheet(i % 6, i % 8, i % 2 == 0 ? 999 : -1));
        }
        check.due("a thirteenth", HandNews.FULL, news.sheet(0, 0, 0));
        check.due("BAD ahead of FULL", HandNews.BAD, news.sheet(0, 0, 1000));
        check.due("twelve", 12, news.count(0));
        check.due("span of a told day", 999, news.span(0, 0));
        check.due("span of none", 0, news.span(1, 0));
    }

    private static void datedTellsWhatItWas() {
        HandNews news = new HandNews();
        check.due("no sheet", -100, news.dated(0, 5));
        news.sheet(0, 0, -1);
        check.due("it was none", -1, news.dated(0, 5));
        check.due("first", 5, news.span(0, 0));
        check.due("last", 5, news.span(0, 1));
        check.due("it was 5", 5, news.dated(0, 0));
        check.due("it was 0", 0, news.dated(0, 999));
        check.due("too late", -100, news.dated(0, 1000));
        check.due("too early", -100, news.dated(0, -2));
        check.due("another sheet", -100, news.dated(1, 3));
        check.due("below", -100, news.dated(-1, 3));
        check.due("it was 999", 999, news.dated(0, -1));
        check.due("last without a day", 999, news.span(0, 1));
    }

    private static void behindTakesAndRefuses() {
        HandNews news = new HandNews();
        news.post(0, 1, 2, 3);
        news.sheet(0, 0, -1);
        news.sheet(1, 0, -1);
        check.due("itself", HandNews.BAD, news.behind(0, 0));
        check.due("no such sheet", HandNews.BAD, news.behind(2, 0));
        check.due("no such other", HandNews.BAD, news.behind(0, 2));
        check.due("below", HandNews.BAD, news.behind(-1, 0));
        check.due("no way", HandNews.NO, news.behind(0, 1));
        check.due("none came", 0, news.count(1));
        for (int i = 1; i <= 20; i++) {
            check.due("pair", i, news.behind(1, 0));
        }
        check.due("a 21st", HandNews.FULL, news.behind(1, 0));
        check.due("NO ahead of FULL", HandNews.NO, news.behind(0, 1));
        check.due("BAD ahead of FULL", HandNews.BAD, news.behind(1, 1));
        check.due("twenty", 20, news.count(1));
        check.due("span", 2, news.span(1, 0));
    }

    private static void happenedTakesAndRefuses() {
        HandNews news = new HandNews();
        news.post(0, 1, 2, 3);
        check.due("thing below", HandNews.BAD, news.happened(-1, 0, 0));
        check.due("thing above", HandNews.BAD, news.happened(10, 0, 0));
        check.due("town below", HandNews.BAD, news.happened(0, -1, 0));
        check.due("town above", HandNews.BAD, news.happened(0, 6, 0));
        check.due("no day", HandNews.BAD, news.happened(0, 0, -1));
        check.due("day above", HandNews.BAD, news.happened(0, 0, 1000));
        check.due("none came", 0, news.count(2));
        news.sheet(0, 0, -1);
        news.sheet(1, 0, -1);
        news.say(1, 0, 1, 1, false, true);
        check.due("no way to a sheet that denies it", HandNews.NO, news.happened(0, 2, 5));
        check.due("a way", 0, news.happened(0, 0, 5));
        check.due("told already", HandNews.NO, news.happened(0, 0, 5));
        check.due("BAD ahead of NO", HandNews.BAD, news.happened(0, 0, 1000));
        check.due("another thing elsewhere", 0, news.happened(1, 5, 999));
        check.due("on day 0", 0, news.happened(9, 5, 0));
        check.due("three", 3, news.count(2));
        check.due("the denying sheet is later", 7, news.span(1, 0));
        check.due("the other is not", 0, news.span(0, 0));
    }

    private static void spansFollowPairs() {
        HandNews news = new HandNews();
        news.post(0, 1, 3, 9);
        news.post(1, 2, 4, 9);
        check.due("no sheet", HandNews.BAD, news.span(0, 0));
        news.sheet(0, 0, -1);
        news.sheet(1, 0, -1);
        news.sheet(2, 0, -1);
        check.due("what below", HandNews.BAD, news.span(0, -1));
        check.due("what above", HandNews.BAD, news.span(0, 2));
        check.due("sheet above", HandNews.BAD, news.span(3, 0));
        check.due("sheet below", HandNews.BAD, news.span(-1, 0));
        news.behind(2, 1);
        news.behind(1, 0);
        int[] first = {0, 3, 7};
        int[] last = {992, 995, 999};
        for (int s = 0; s < 3; s++) {
            check.due("first", first[s], news.span(s, 0));
            check.due("last", last[s], news.span(s, 1));
        }
        news.dated(1, 500);
        check.due("last before a told day", 497, news.span(0, 1));
        check.due("first behind a told day", 504, news.span(2, 0));
        news.dated(0, 498);
        check.due("quarrel", HandNews.NO, news.span(2, 0));
        check.due("ahead in a quarrel", HandNews.NO, news.ahead(0, 1));
        check.due("BAD ahead of NO", HandNews.BAD, news.span(3, 0));
        check.due("BAD ahead of NO", HandNews.BAD, news.ahead(0, 3));
        news.dated(0, 497);
        check.due("just in time", 497, news.span(0, 0));
    }

    private static void spansFollowWhatHappened() {
        HandNews news = new HandNews();
        news.post(3, 0, 10, 20);
        news.sheet(0, 0, -1);
        news.sheet(0, 1, 49);
        news.happened(2, 3, 40);
        news.say(0, 2, 5, 0, true, false);
        check.due("first day it could be heard of", 50, news.span(0, 0));
        check.due("last day stays", 999, news.span(0, 1));
        news.say(1, 2, 5, 0, false, true);
        check.due("a denial too early", HandNews.NO, news.span(0, 0));
        news.dated(1, 50);
        check.due("in time", 50, news.span(1, 0));
    }

    private static void spansEndAtDay999() {
        HandNews news = new HandNews();
        news.post(0, 1, 30, 30);
        news.post(1, 0, 30, 30);
        news.sheet(0, 0, 970);
        news.sheet(1, 0, -1);
        news.sheet(0, 0, -1);
        news.behind(1, 0);
        check.due("a day past the last", HandNews.NO, news.span(1, 0));
        news.dated(0, 969);
        check.due("the last day of all", 999, news.span(1, 0));
        news.behind(2, 1);
        check.due("beyond it", HandNews.NO, news.span(0, 0));
        news.dated(0, -1);
        check.due("last of the first", 939, news.span(0, 1));
    }

    private static void ringsQuarrel() {
        HandNews news = new HandNews();
        news.post(0, 1, 1, 1);
        news.post(1, 0, 1, 1);
        news.sheet(0, 0, -1);
        news.sheet(1, 0, -1);
        news.sheet(0, 0, -1);
        news.behind(2, 0);
        news.behind(0, 2);
        check.due("a ring without days", 0, news.span(0, 0));
        check.due("none of it is ahead", 0, news.ahead(0, 2));
        news.behind(1, 0);
        news.behind(0, 1);
        check.due("a ring that takes days", HandNews.NO, news.span(2, 0));
    }

    /** Pairs told last to first, so that each round settles but one of them. */
    private static void longChainsSettle() {
        HandNews news = new HandNews();
        news.post(0, 1, 60, 60);
        news.post(1, 0, 30, 60);
        for (int s = 0; s < 12; s++) {
            news.sheet(s % 2, 0, -1);
        }
        for (int s = 11; s > 0; s--) {
            news.behind(s, s - 1);
        }
        check.due("first of the last sheet", 6 * 60 + 5 * 30, news.span(11, 0));
        check.due("last of the first sheet", 999 - 510, news.span(0, 1));
        check.due("the ends are in order", 1, news.ahead(0, 11));
        HandNews other = new HandNews();
        other.post(0, 1, 60, 60);
        other.post(1, 0, 30, 60);
        for (int s = 0; s < 12; s++) {
            other.sheet(s % 2, 0, -1);
        }
        for (int s = 1; s < 12; s++) {
            other.behind(s, s - 1);
        }
        check.due("first, told in order", 510, other.span(11, 0));
        check.due("last, told in order", 489, other.span(0, 1));
    }

    private static void aheadHangsTogether() {
        HandNews news = new HandNews();
        news.post(0, 1, 2, 2);
        news.sheet(0, 0, -1);
        news.sheet(1, 0, -1);
        news.sheet(0, 0, -1);
        news.sheet(0, 0, 5);
        news.sheet(0, 0, 6);
        news.behind(1, 0);
        news.behind(2, 0);
        check.due("two days behind, whatever the days", 1, news.ahead(0, 1));
        check.due("not the other way", 0, news.ahead(1, 0));
        check.due("behind by no day", 0, news.ahead(0, 2));
        check.due("told days", 1, news.ahead(3, 4));
        check.due("told days, turned", 0, news.ahead(4, 3));
        check.due("itself", 0, news.ahead(3, 3));
        check.due("BAD", HandNews.BAD, news.ahead(-1, 0));
        check.due("BAD", HandNews.BAD, news.ahead(0, 5));
        check.due("free ones", 0, news.ahead(2, 3));
        news.behind(3, 2);
        check.due("spans that touch", 0, news.ahead(2, 3));
        check.due("spans apart", 1, news.ahead(2, 4));
    }
}
