/** Promises 1 to 10, sentence by sentence: the lowest, the highest, just outside, empty, full, refused. */
public final class TownEdgesTest {
    private static final int BAD = HandNews.BAD, NO = HandNews.NO, FULL = HandNews.FULL, NONE = HandNews.NONE;
    private static final Check check = new Check();

    public static void main(String[] args) {
        nothingIsTold();
        objectsShareNothing();
        daysAndTowns();
        postsTakeDays();
        postToItself();
        postInPlace();
        postWithSheetsTold();
        wayToItselfAndNone();
        wayIsTheLeastSum();
        slowIsTheGreatestOfAlikeWays();
        sheetsAsTheyCome();
        datedIsTold();
        behindIsAnotherOne();
        behindByNoWay();
        behindTwentyAtMost();
        behindIsNoEarlier();
        happenedOnceEach();
        happenedWithoutWay();
        saidNoEarlierThanHappened();
        spansFromDay0ToDay999();
        spansOfToldDays();
        quarrelOfOneIsOfAll();
        sureAhead();
        sureByWhatHappened();
        check.end();
    }

    private static void nothingIsTold() {
        check.sentence("Nothing is told; an empty TEXT is IN FORCE.");
        HandNews news = new HandNews();
        check.due("force() of the empty text", 0, news.force());
        check.due("items in force", 0, news.count(6));
        check.due("bytes", 0, news.count(5));
        check.due("sheet 0", BAD, news.span(0, 0));
        check.due("sheet 0 dated", -100, news.dated(0, 0));
        check.due("sheet 0 says", BAD, news.say(0, 0, 0, 0, false, false));
        check.due("saying 0", BAD, news.from(0));
        check.due("thing 0", NO, news.known(0, 0, 0));
        check.due("truth 0", -1, news.truth(0, -1));
        check.due("banned", 0, news.banned(-1));
        check.due("the first banned", NONE, news.banned(0));
        check.due("without sayings nothing is believed", 0, news.belief(0, 0, 1));
        check.due("no quarrel without sheets", 0, news.voices(0, false));
    }

    private static void objectsShareNothing() {
        check.sentence("Nothing is told; an empty TEXT is IN FORCE.");
        HandNews full = Scenes.full().play();
        HandNews news = new HandNews();
        for (int what = 0; what <= 8; what++) {
            check.due("count(" + what + ") beside a full one", 0, news.count(what));
        }
        check.due("own beside a full one", 12, news.own(3));
        check.due("closet beside a full one", 0, news.closet(3));
        check.due("a worth beside a full one", 0, news.worth(5, 3, 3));
        check.due("b beside a full one", 20, news.rule(3, 0, 999));
        check.due("way beside a full one", NONE, news.way(0, 1));
        check.due("own of the full one", 40, full.own(40));
        check.due("a worth of the full one", 35, full.worth(5, 0, 35));
    }

    private static void daysAndTowns() {
        check.sentence("DAYS are 0 to 999, TOWNS 0 to 5.");
        HandNews news = new HandNews();
        for (int town = -1; town <= 6; town++) {
            boolean let = town >= 0 && town <= 5;
            check.due("way of town " + town, let ? 0 : BAD, news.way(town, town));
            check.due("slow of town " + town, let ? 0 : BAD, news.slow(town, town));
            check.due("closet in town " + town, let ? Math.max(0, town - 1) : BAD, news.closet(town));
            check.due("w of town " + town, let ? 10 : BAD, news.rule(0, town, 0));
            check.due("happened in town " + town, let ? 0 : BAD, news.happened(let ? town : 9, town, 0));
            check.due("known in town " + town, let ? town == 0 ? 0 : NONE : BAD, news.known(let ? 0 : 9, town, 0));
            check.due("sheet from town " + town, let ? town : BAD, news.sheet(town, 0, 0));
        }
        for (int day : new int[] {-2, -1, 0, 999, 1000}) {
            boolean let = day == 0 || day == 999;
            check.due("rule on " + day, let ? 20 : BAD, news.rule(3, 0, day));
            check.due("why on " + day, let ? NONE : BAD, news.why(3, 0, day));
            check.due("belief on " + day, let ? 0 : -1000000, news.belief(9, day, 0));
            check.due("happened on " + day, let ? 0 : BAD, news.happened(day == 0 ? 8 : 9, 0, day));
            check.due("sheet of " + day, let || day == -1 ? news.count(0) : BAD, news.sheet(0, 0, day));
            check.due("dated " + day, let || day == -1 ? 1 : 0, news.dated(0, day) == -100 ? 0 : 1);
        }
    }

    private static void postsTakeDays() {
        check.sentence("A POST takes least to most DAYS (1 to 60; least no more than most)");
        HandNews news = new HandNews();
        int[][] let = {{1, 1}, {1, 60}, {60, 60}, {59, 60}, {30, 31}};
        for (int[] days : let) {
            check.due("post of " + days[0] + " to " + days[1], 0, news.post(0, 1, days[0], days[1]));
            check.due("its way", days[0], news.way(0, 1));
            check.due("its slow way", days[1], news.slow(0, 1));
        }
        int[][] refused = {
            {0, 0}, {0, 1}, {0, 60}, {-1, 1}, {1, 0}, {1, 61}, {60, 61}, {61, 61}, {61, 60}, {2, 1}, {60, 59}, {31, 30},
            {Integer.MIN_VALUE, 60}, {1, Integer.MAX_VALUE}, {Integer.MAX_VALUE, Integer.MIN_VALUE}};
        for (int[] days : refused) {
            check.due("post of " + days[0] + " to " + days[1], BAD, news.post(0, 1, days[0], days[1]));
            check.due("the way stays", 30, news.way(0, 1));
            check.due("the slow way stays", 31, news.slow(0, 1));
        }
        check.due("one post", 1, news.count(8));
    }

    private static void postToItself() {
        check.sentence("BAD (from is to, too)");
        HandNews news = new HandNews();
        for (int town = 0; town <= 5; town++) {
            check.due("post from " + town + " to itself", BAD, news.post(town, town, 1, 60));
            check.due("way to itself", 0, news.way(town, town));
        }
        check.due("no post", 0, news.count(8));
    }

    private static void postInPlace() {
        check.sentence("A POST (in place of one told): 0.");
        HandNews news = new HandNews();
        for (int round = 1; round <= 2; round++) {
            int told = round == 1 ? 0 : 30;
            for (int at = 0; at < 36; at++) {
                if (at / 6 == at % 6) {
                    continue;
                }
                check.due("post", 0, news.post(at / 6, at % 6, round * 20, 60));
                told += round == 1 ? 1 : 0;
                check.due("posts", told, news.count(8));
            }
        }
        check.due("all are in place", 40, news.way(0, 5));
        news.post(5, 0, 1, 2);
        check.due("the way back is a post of its own", 40, news.way(0, 5));
        check.due("it is in place", 1, news.way(5, 0));
        news.post(5, 0, 2, 2);
        check.due("a longer one in place of a shorter", 2, news.way(5, 0));
    }

    private static void postWithSheetsTold() {
        check.sentence("NO: SHEETS are told.");
        HandNews news = new HandNews();
        news.happened(0, 0, 0);
        news.truth(0, 0);
        news.write(1, ';');
        news.keep();
        check.due("before the first sheet", 0, news.post(0, 1, 5, 5));
        news.sheet(3, 0, -1);
        check.due("with one sheet, in place", NO, news.post(0, 1, 4, 4));
        check.due("with one sheet, a new one", NO, news.post(3, 4, 1, 1));
        check.due("BAD comes first", BAD, news.post(3, 4, 0, 1));
        check.due("BAD comes first", BAD, news.post(3, 3, 1, 1));
        check.due("the way stays", 5, news.way(0, 1));
        check.due("no way came", NONE, news.way(3, 4));
        check.due("posts", 1, news.count(8));
        check.due("back to none", 0, news.back());
        check.due("without sheets again", 0, news.post(3, 4, 1, 1));
        check.due("posts", 2, news.count(8));
    }

    private static void wayToItselfAndNone() {
        check.sentence("from a TOWN to itself 0; none, if no POSTS lead there");
        HandNews news = new HandNews();
        check.due("without posts", NONE, news.way(0, 1));
        check.due("slow without posts", NONE, news.slow(0, 1));
        news.post(0, 1, 1, 1);
        news.post(1, 2, 1, 1);
        check.due("through another", 2, news.way(0, 2));
        check.due("against the posts", NONE, news.way(2, 0));
        check.due("slow against the posts", NONE, news.slow(2, 0));
        check.due("beyond them", NONE, news.way(0, 3));
        news.post(3, 0, 1, 1);
        check.due("a post from there leads not there", NONE, news.way(0, 3));
        news.post(2, 3, 1, 1);
        check.due("a ring", 3, news.way(0, 3));
        for (int town = 0; town <= 5; town++) {
            check.due("to itself", 0, news.way(town, town));
            check.due("slow to itself", 0, news.slow(town, town));
        }
    }

    private static void wayIsTheLeastSum() {
        check.sentence("the least sum of least DAYS over POSTS");
        HandNews news = new HandNews();
        news.post(0, 1, 60, 60);
        news.post(0, 2, 31, 31);
        news.post(2, 1, 30, 30);
        check.due("a day more through another", 60, news.way(0, 1));
        news.post(0, 2, 30, 31);
        check.due("alike", 60, news.way(0, 1));
        news.post(0, 2, 29, 60);
        check.due("a day less", 59, news.way(0, 1));
        for (int via = 0; via <= 5; via++) {
            HandNews through = new HandNews();
            int from = (via + 1) % 6;
            int to = (via + 5) % 6;
            through.post(from, via, 1, 2);
            through.post(via, to, 3, 5);
            check.due("through town " + via, 4, through.way(from, to));
            check.due("slow through town " + via, 7, through.slow(from, to));
        }
        HandNews all = new HandNews();
        for (int town = 5; town > 0; town--) {
            all.post(town, town - 1, 60, 60);
        }
        check.due("the most posts of the most days", 300, all.way(5, 0));
        check.due("slow", 300, all.slow(5, 0));
        for (int town = 5; town > 0; town--) {
            all.post(town, town - 1, 1, 60);
        }
        check.due("of the least days", 5, all.way(5, 0));
        check.due("slow", 300, all.slow(5, 0));
    }

    private static void slowIsTheGreatestOfAlikeWays() {
        check.sentence("of THE WAY's POSTS the sum of most DAYS, the greatest of several such ways");
        HandNews news = new HandNews();
        news.post(0, 1, 2, 10);
        news.post(0, 2, 1, 4);
        news.post(2, 1, 1, 5);
        check.due("alike, the straight one slower", 10, news.slow(0, 1));
        news.post(2, 1, 1, 6);
        check.due("alike in both", 10, news.slow(0, 1));
        news.post(2, 1, 1, 7);
        check.due("alike, the other slower", 11, news.slow(0, 1));
        news.post(0, 1, 1, 1);
        check.due("a day less, though fast", 1, news.slow(0, 1));
        news.post(0, 1, 3, 60);
        check.due("a day more, though slow", 11, news.slow(0, 1));
        news.post(0, 3, 1, 20);
        news.post(3, 1, 1, 20);
        news.post(0, 4, 1, 15);
        news.post(4, 1, 1, 15);
        check.due("of three alike", 40, news.slow(0, 1));
        news.post(1, 5, 60, 60);
        check.due("and on", 100, news.slow(0, 5));
        check.due("by its way", 62, news.way(0, 5));
    }

    private static void sheetsAsTheyCome() {
        check.sentence("SHEETS 0 to 11 as they come: by a WRITER (0 to 7), of a DAY or of none. FULL: 12.");
        HandNews news = new HandNews();
        news.keep();
        int[][] refused = {{0, -1, 0}, {0, 8, 0}, {0, 0, -2}, {0, 0, 1000}, {-1, 0, 0}, {6, 0, 0}};
        int[][] let = {
            {0, 0, -1}, {5, 7, 999}, {0, 7, 0}, {5, 0, 999}, {1, 1, 1}, {2, 2, 998}, {3, 3, 500}, {4, 4, -1}, {5, 5, 0},
            {0, 6, 999}, {1, 7, -1}, {2, 0, 0}};
        for (int i = 0; i < let.length; i++) {
            for (int[] sheet : refused) {
                check.due("a bad one with " + i, BAD, news.sheet(sheet[0], sheet[1], sheet[2]));
            }
            check.due("sheets", i, news.count(0));
            check.due("sheet " + i, i, news.sheet(let[i][0], let[i][1], let[i][2]));
            check.due("its first day", Math.max(0, let[i][2]), news.span(i, 0));
            check.due("its last day", let[i][2] < 0 ? 999 : let[i][2], news.span(i, 1));
        }
        check.due("a 13th", FULL, news.sheet(0, 0, 0));
        check.due("a 14th", FULL, news.sheet(5, 7, -1));
        check.due("a bad one comes first", BAD, news.sheet(6, 0, 0));
        check.due("sheets", 12, news.count(0));
        check.due("no sheet 12", BAD, news.span(12, 0));
        check.due("sheet 11 stays", 0, news.span(11, 1));
        check.due("back to none", 0, news.back());
        check.due("room again", 0, news.sheet(0, 0, 7));
        check.due("of its own day", 7, news.span(0, 1));
        check.due("no sheet 1", BAD, news.span(1, 0));
    }

    private static void datedIsTold() {
        check.sentence("A SHEET's DAY is told (-1: none): what it was. BAD answers -100.");
        HandNews news = new HandNews();
        news.post(0, 1, 1, 1);
        news.sheet(0, 0, 0);
        news.sheet(1, 0, 999);
        news.behind(1, 0);
        int[][] refused = {
            {0, -2}, {0, 1000}, {-1, 0}, {2, 0}, {1, Integer.MAX_VALUE}, {1, Integer.MIN_VALUE}, {12, 5}};
        for (int[] dated : refused) {
            check.due("dated(" + dated[0] + ", " + dated[1] + ")", -100, news.dated(dated[0], dated[1]));
        }
        check.due("the first stays", 0, news.span(0, 1));
        check.due("the last stays", 999, news.span(1, 0));
        check.due("999 it was", 999, news.dated(1, -1));
        check.due("none it was", -1, news.dated(1, -1));
        check.due("none it was", -1, news.dated(1, 0));
        check.due("a day that quarrels is told, too", NO, news.span(0, 0));
        check.due("0 it was", 0, news.dated(1, 1));
        check.due("the least day that is let", 1, news.span(1, 0));
        check.due("0 it was", 0, news.dated(0, 999));
        check.due("quarrel", NO, news.span(1, 0));
        check.due("a quarrel keeps no day from being told", 999, news.dated(0, -1));
        check.due("none: the first day", 0, news.span(0, 0));
        check.due("none: the last day", 0, news.span(0, 1));
    }

    private static void behindIsAnotherOne() {
        check.sentence("BEHIND: a SHEET has another one (unlike) before it: how many such. BAD");
        HandNews news = new HandNews();
        check.due("without sheets", BAD, news.behind(0, 1));
        news.sheet(0, 0, -1);
        check.due("of one sheet", BAD, news.behind(0, 0));
        check.due("a second that is not", BAD, news.behind(0, 1));
        check.due("a second that is not", BAD, news.behind(1, 0));
        news.sheet(0, 0, -1);
        check.due("below", BAD, news.behind(0, -1));
        check.due("below", BAD, news.behind(-1, 1));
        check.due("above", BAD, news.behind(1, 2));
        check.due("above", BAD, news.behind(2, 1));
        check.due("itself", BAD, news.behind(1, 1));
        check.due("none such", 0, news.count(1));
        check.due("the first", 1, news.behind(1, 0));
        check.due("again", 2, news.behind(1, 0));
        check.due("and turned", 3, news.behind(0, 1));
        check.due("such", 3, news.count(1));
    }

    private static void behindByNoWay() {
        check.sentence("THE WAY from that one's TOWN to its own (none: NO)");
        HandNews news = new HandNews();
        news.post(0, 1, 1, 1);
        news.sheet(0, 0, -1);
        news.sheet(1, 0, -1);
        news.sheet(2, 0, -1);
        news.sheet(2, 0, -1);
        check.due("against the post", NO, news.behind(0, 1));
        check.due("where no post is", NO, news.behind(2, 0));
        check.due("where no post is", NO, news.behind(0, 2));
        check.due("none such", 0, news.count(1));
        check.due("last day of 1, as nothing came", 999, news.span(1, 1));
        check.due("of one town, without posts", 1, news.behind(3, 2));
        check.due("by the post", 2, news.behind(1, 0));
        check.due("last day of 0", 998, news.span(0, 1));
    }

    private static void behindTwentyAtMost() {
        check.sentence("20 such at most. BAD; NO: no way; FULL: 20.");
        HandNews news = new HandNews();
        news.sheet(0, 0, 5);
        news.sheet(0, 0, -1);
        news.sheet(1, 0, -1);
        news.sheet(0, 0, 4);
        news.keep();
        for (int i = 1; i <= 20; i++) {
            check.due("behind", i, news.behind(1, 0));
        }
        check.due("a 21st", FULL, news.behind(1, 0));
        check.due("a 21st that would quarrel", FULL, news.behind(3, 0));
        check.due("no quarrel came", 5, news.span(1, 0));
        check.due("no way comes first", NO, news.behind(2, 0));
        check.due("a bad one comes first", BAD, news.behind(0, 0));
        check.due("such", 20, news.count(1));
        news.back();
        check.due("room again", 1, news.behind(3, 0));
        check.due("the quarrel", NO, news.span(1, 0));
    }

    private static void behindIsNoEarlier() {
        check.sentence("its DAY is no earlier than that one's and THE WAY from that one's TOWN to its own");
        HandNews news = new HandNews();
        news.post(0, 1, 7, 60);
        news.sheet(0, 0, 10);
        news.sheet(1, 0, 17);
        news.behind(1, 0);
        check.due("just so", 17, news.span(1, 0));
        news.dated(1, 16);
        check.due("a day too early", NO, news.span(1, 0));
        news.dated(0, 9);
        check.due("just so again", 9, news.span(0, 0));
        news.dated(1, -1);
        check.due("without a day, the first", 16, news.span(1, 0));
        check.due("without a day, the last", 999, news.span(1, 1));
        news.dated(0, -1);
        news.dated(1, 7);
        check.due("the least day of the later one", 0, news.span(0, 1));
        news.dated(1, 6);
        check.due("a day less", NO, news.span(0, 1));
        news.dated(0, 992);
        news.dated(1, -1);
        check.due("the greatest day of the earlier one", 999, news.span(1, 0));
        news.dated(0, 993);
        check.due("a day more", NO, news.span(1, 0));
        HandNews one = new HandNews();
        one.sheet(3, 0, 10);
        one.sheet(3, 0, 10);
        one.behind(1, 0);
        check.due("of one town, on one day", 10, one.span(1, 0));
        one.dated(1, 9);
        check.due("of one town, a day earlier", NO, one.span(1, 0));
    }

    private static void happenedOnceEach() {
        check.sentence("A THING (0 to 9) HAPPENED in a TOWN on a DAY (told once each)");
        HandNews news = new HandNews();
        int[][] refused = {{-1, 0, 0}, {10, 0, 0}, {0, -1, 0}, {0, 6, 0}, {0, 0, -1}, {0, 0, 1000}};
        for (int[] call : refused) {
            check.due("happened", BAD, news.happened(call[0], call[1], call[2]));
        }
        check.due("things", 0, news.count(2));
        for (int thing = 0; thing <= 9; thing++) {
            check.due("not yet", NO, news.known(thing, thing % 6, 0));
            check.due("happened", 0, news.happened(thing, thing % 6, thing == 0 ? 0 : 990 + thing));
            check.due("the same again", NO, news.happened(thing, thing % 6, thing == 0 ? 0 : 990 + thing));
            check.due("elsewhere", NO, news.happened(thing, (thing + 1) % 6, 5));
            check.due("a bad one comes first", BAD, news.happened(thing, 0, 1000));
            check.due("it stays", thing == 0 ? 0 : 990 + thing, news.known(thing, thing % 6, 0));
            check.due("things", thing + 1, news.count(2));
        }
    }

    private static void happenedWithoutWay() {
        check.sentence("NO: that is told already, or a SHEET says it to which no way leads from there.");
        for (int marks = 0; marks < 4; marks++) {
            HandNews news = new HandNews();
            news.post(0, 1, 1, 1);
            news.sheet(1, 0, 50);
            news.sheet(2, 0, 50);
            news.sheet(3, 0, 50);
            news.say(0, 5, 0, 0, marks % 2 == 1, marks > 1);
            news.say(1, 6, 0, 0, marks % 2 == 1, marks > 1);
            check.due("no way", NO, news.happened(5, 2, 0));
            check.due("against the post", NO, news.happened(6, 0, 0));
            check.due("it did not happen", NO, news.known(5, 2, 0));
            check.due("by a post, and to 2 that says it not", 0, news.happened(5, 0, 49));
            check.due("where the sheet is", 0, news.happened(6, 2, 50));
            check.due("of what nobody says", 0, news.happened(7, 4, 999));
            check.due("things", 3, news.count(2));
            news.say(2, 8, 0, 0, marks % 2 == 1, marks > 1);
            news.say(0, 8, 0, 0, marks % 2 == 1, marks > 1);
            check.due("a way to one of two", NO, news.happened(8, 0, 0));
            check.due("a way to the other of two", NO, news.happened(8, 3, 0));
            check.due("the spans stay", 50, news.span(2, 0));
        }
    }

    private static void saidNoEarlierThanHappened() {
        check.sentence("a SHEET that says it (DENIED, too) is no earlier than that DAY and THE WAY from there");
        for (int marks = 0; marks < 4; marks++) {
            HandNews news = new HandNews();
            news.post(0, 1, 3, 60);
            news.sheet(1, 0, -1);
            news.sheet(0, 0, 10);
            news.happened(2, 0, 10);
            check.due("nobody says it", 0, news.span(0, 0));
            news.say(0, 2, 0, 0, marks % 2 == 1, marks > 1);
            check.due("by the post", 13, news.span(0, 0));
            check.due("to the last day", 999, news.span(0, 1));
            news.say(1, 2, 0, 0, marks % 2 == 1, marks > 1);
            check.due("where it happened, on the day", 10, news.span(1, 0));
            news.dated(0, 13);
            check.due("just so", 13, news.span(0, 1));
            news.dated(0, 12);
            check.due("a day too early", NO, news.span(0, 1));
            news.dated(0, 13);
            news.dated(1, 9);
            check.due("there, a day too early", NO, news.span(0, 1));
        }
        HandNews said = new HandNews();
        said.post(0, 1, 3, 60);
        said.sheet(1, 0, -1);
        said.say(0, 9, 0, 0, false, false);
        check.due("said before it is told", 0, said.span(0, 0));
        said.happened(9, 0, 0);
        check.due("told since", 3, said.span(0, 0));
        HandNews late = new HandNews();
        late.post(0, 1, 3, 3);
        late.sheet(1, 0, -1);
        late.happened(0, 0, 996);
        late.happened(1, 0, 997);
        late.say(0, 0, 0, 0, false, false);
        check.due("the last day of all", 999, late.span(0, 0));
        late.say(0, 1, 0, 0, false, false);
        check.due("a day later", NO, late.span(0, 0));
    }

    private static void spansFromDay0ToDay999() {
        check.sentence("SPAN of a SHEET: the first and the last DAY (0 to 999) that all this lets");
        HandNews news = new HandNews();
        news.post(0, 1, 60, 60);
        news.post(1, 0, 60, 60);
        for (int i = 0; i < 12; i++) {
            news.sheet(i % 2, 0, -1);
        }
        for (int i = 11; i > 0; i--) {
            news.behind(i, i - 1);
        }
        for (int i = 0; i < 12; i++) {
            check.due("first of " + i, 60 * i, news.span(i, 0));
            check.due("last of " + i, 999 - 60 * (11 - i), news.span(i, 1));
            check.due("what below", BAD, news.span(i, -1));
            check.due("what above", BAD, news.span(i, 2));
        }
        news.dated(0, 339);
        check.due("pushed to the last day", 999, news.span(11, 0));
        check.due("no room", 999, news.span(11, 1));
        news.dated(0, 340);
        check.due("pushed beyond", NO, news.span(11, 0));
        news.dated(0, -1);
        news.dated(11, 660);
        check.due("drawn to day 0", 0, news.span(0, 1));
        news.dated(11, 659);
        check.due("drawn below", NO, news.span(0, 1));
    }

    private static void spansOfToldDays() {
        check.sentence("told DAYS as they are");
        HandNews news = new HandNews();
        news.sheet(0, 0, 0);
        news.sheet(0, 0, 500);
        news.sheet(0, 0, 999);
        news.behind(1, 0);
        news.behind(2, 1);
        int[] days = {0, 500, 999};
        for (int sheet = 0; sheet < 3; sheet++) {
            check.due("first", days[sheet], news.span(sheet, 0));
            check.due("last", days[sheet], news.span(sheet, 1));
        }
    }

    private static void quarrelOfOneIsOfAll() {
        check.sentence("QUARREL, if some SHEET has none (then none has)");
        HandNews news = new HandNews();
        news.post(0, 1, 1, 1);
        news.post(1, 0, 1, 1);
        for (int i = 0; i < 12; i++) {
            news.sheet(i % 2, 0, -1);
        }
        news.behind(0, 2);
        news.behind(2, 0);
        check.due("a ring of no days", 0, news.span(0, 0));
        check.due("a ring of no days", 999, news.span(2, 1));
        news.behind(11, 10);
        news.keep();
        news.behind(10, 11);
        for (int sheet = 0; sheet < 12; sheet++) {
            check.due("first", NO, news.span(sheet, 0));
            check.due("last", NO, news.span(sheet, 1));
            check.due("ahead", NO, news.ahead(sheet, 11 - sheet));
            check.due("ahead of itself", NO, news.ahead(sheet, sheet));
        }
        check.due("a bad one comes first", BAD, news.span(12, 0));
        check.due("a bad one comes first", BAD, news.span(0, 2));
        check.due("a bad one comes first", BAD, news.ahead(12, 0));
        check.due("a bad one comes first", BAD, news.ahead(0, -1));
        news.back();
        check.due("without the last behind", 1, news.span(11, 0));
        check.due("and the last day of the other", 998, news.span(10, 1));
    }

    private static void sureAhead() {
        check.sentence("SURE is a SHEET ahead of another one, if its DAY is earlier whatever DAYS are let.");
        HandNews news = new HandNews();
        news.post(0, 1, 1, 1);
        news.sheet(0, 0, 5);
        news.sheet(0, 0, 6);
        news.sheet(0, 0, -1);
        news.sheet(0, 0, -1);
        news.sheet(1, 0, -1);
        check.due("a day earlier", 1, news.ahead(0, 1));
        check.due("a day later", 0, news.ahead(1, 0));
        check.due("itself", 0, news.ahead(0, 0));
        check.due("itself without a day", 0, news.ahead(2, 2));
        check.due("no day told", 0, news.ahead(0, 2));
        check.due("no day told", 0, news.ahead(2, 0));
        news.dated(1, 5);
        check.due("on one day", 0, news.ahead(0, 1));
        news.behind(0, 2);
        check.due("on one day at the latest", 0, news.ahead(2, 0));
        news.dated(1, 6);
        check.due("a day earlier at the latest", 1, news.ahead(2, 1));
        news.behind(3, 2);
        check.due("behind by no day", 0, news.ahead(2, 3));
        news.behind(4, 3);
        check.due("behind by a day", 1, news.ahead(3, 4));
        check.due("behind one that is behind", 1, news.ahead(2, 4));
        check.due("not turned", 0, news.ahead(4, 2));
        news.dated(4, 999);
        news.dated(3, 998);
        check.due("the last days of all", 1, news.ahead(3, 4));
    }

    private static void sureByWhatHappened() {
        check.sentence("SURE is a SHEET ahead of another one, if its DAY is earlier whatever DAYS are let.");
        HandNews news = new HandNews();
        news.post(0, 1, 4, 4);
        news.sheet(0, 0, 13);
        news.sheet(1, 0, -1);
        news.happened(0, 0, 10);
        news.say(1, 0, 0, 0, false, true);
        check.due("heard of a day later", 1, news.ahead(0, 1));
        news.dated(0, 14);
        check.due("heard of on the day", 0, news.ahead(0, 1));
    }
}
