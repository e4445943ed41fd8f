/** Promises 19 to 29: the text of rules, what is in force, the closet, belief and bans. */
public final class RulesTest {
    private static final Check check = new Check();

    public static void main(String[] args) {
        writeAndWipe();
        faultsOfForm();
        faultsOfRange();
        faultsBehindGoodItems();
        forceTakesAndRefuses();
        theLastItemHolds();
        ruleAndWhyRefuse();
        quarrelsAreFound();
        closetAndCame();
        beliefCountsVoicesOnce();
        beliefGoesByRulesOfTheDay();
        beliefForgetsOldSheets();
        beliefRefuses();
        bannedSayings();
        check.end();
    }

    private static void writeAndWipe() {
        HandNews news = new HandNews();
        check.due("no byte", HandNews.BAD, news.write(0, 0));
        check.due("nine bytes", HandNews.BAD, news.write(9, 0));
        check.due("below", HandNews.BAD, news.write(-1, 0));
        check.due("of three bytes the low ones", 3, news.write(3, 0x7f7f7f6f312cL));
        check.due("the rest", 5, news.write(2, 0x313bL));
        check.due("it is o1,1;", HandNews.NONE, news.fault());
        check.due("one item", 1, news.force());
        check.due("it holds", 1, news.rule(2, 0, 1));
        for (int at = 8; at <= 200; at += 8) {
            news.write(at == 8 ? 3 : 8, -1L);
        }
        check.due("full length", 200, news.count(5));
        check.due("one more", HandNews.FULL, news.write(1, 0));
        check.due("BAD ahead of FULL", HandNews.BAD, news.write(9, 0));
        check.due("the fault", 5, news.fault());
        check.due("wipe", 200, news.wipe());
        check.due("wiped", 0, news.count(5));
        check.due("no fault", HandNews.NONE, news.fault());
        check.due("in force still", 1, news.count(6));
        check.due("it holds still", 1, news.rule(2, 0, 1));
        check.due("197", 197, fill(news, 197));
        check.due("four more", HandNews.FULL, news.write(4, 0));
        check.due("nothing changed", 197, news.count(5));
        check.due("three more", 200, news.write(3, 0));
    }

    private static int fill(HandNews news, int length) {
        int answer = 0;
        for (int at = 0; at < length; at++) {
            answer = news.write(1, 'w');
        }
        return answer;
    }

    private static void faultsOfForm() {
        HandNews news = new HandNews();
        String[] faulty = {
            ";", "w", "w;", "w0", "w0,1", "w0,1,1", "w0,1;", "w0,1,1,1;", "w0,1,;", "w0,,1;", "w,1,1;",
            "w 0,1,1;", "W0,1,1;", "a0,1,1;", "o1;", "o1,1,1;", "o,1;", "o1,;", "o1,1,", "o1.1;", "o-1,1;",
            "o0001,1;", "o1,0001;", "b1;", "x1,1", "x1,1:", "n0,0,0;", "n0,0,0,0", "n0,0,0,0,0;", "v0,0;",
            "\u00f7", "\u0000", "0", ",", " o1,1;", "oo1,1;"};
        for (String rules : faulty) {
            check.due("fault of '" + rules + "'", 0, Check.faultOf(news, rules));
        }
        String[] good = {
            "", "w0,1,1;", "w005,007,000;", "v7,100,999;", "o0,0;", "o999,999;", "b1,0;", "b001,0;", "x0,0;",
            "n0,0,0,0;", "n5,9,0,999;", "n05,009,999,999;"};
        for (String rules : good) {
            check.due("fault of '" + rules + "'", HandNews.NONE, Check.faultOf(news, rules));
        }
    }

    private static void faultsOfRange() {
        HandNews news = new HandNews();
        String[] good = {
            "w5,100,999;", "w0,0,0;", "v7,100,999;", "v0,0,0;", "o999,0;", "b999,0;", "b1,0;", "x9,0;", "x0,999;",
            "n5,9,999,999;"};
        String[] faulty = {
            "w6,100,999;", "w0,101,0;", "v8,100,999;", "v0,101,0;", "o1000,0;", "b1000,0;", "b0,0;", "x10,0;",
            "x0,1000;", "n6,9,999,999;", "n0,10,0,0;", "n0,0,1,0;", "w0,0,1000;", "n0,0,0,1000;", "n0,0,1000,0;"};
        for (String rules : good) {
            check.due("fault of '" + rules + "'", HandNews.NONE, Check.faultOf(news, rules));
        }
        for (String rules : faulty) {
            check.due("fault of '" + rules + "'", 0, Check.faultOf(news, rules));
        }
    }

    private static void faultsBehindGoodItems() {
        HandNews news = new HandNews();
        check.due("the second item", 7, Check.faultOf(news, "w0,1,1;w0,1;o1,1;"));
        check.due("the last item", 14, Check.faultOf(news, "w0,1,1;w0,1,2;o1,1"));
        check.due("a stray ;", 7, Check.faultOf(news, "w0,1,1;;"));
        StringBuilder most = new StringBuilder();
        for (int i = 0; i < 40; i++) {
            most.append("o1,").append(i % 10).append(';');
        }
        check.due("forty items", HandNews.NONE, Check.faultOf(news, most.toString()));
        check.due("forty in force", 40, news.force());
        check.due("the last holds", 39, news.why(2, 0, 9));
        most.setLength(199);
        check.due("the fortieth cut", 195, Check.faultOf(news, most.toString()));
    }

    private static void forceTakesAndRefuses() {
        HandNews news = new HandNews();
        check.due("two items", 2, Check.putInForce(news, "b7,0;x2,0;"));
        check.due("count", 2, news.count(6));
        check.due("a fault", HandNews.NO, Check.putInForce(news, "b8,0;b0,0;"));
        check.due("the old ones hold", 7, news.rule(3, 0, 0));
        check.due("x too", 2, news.rule(4, 0, 0));
        check.due("count as it was", 2, news.count(6));
        Check.faultOf(news, "b9,0;");
        check.due("written is not in force", 7, news.rule(3, 0, 0));
        check.due("forced", 1, news.force());
        check.due("now it is", 9, news.rule(3, 0, 0));
        check.due("and the old is not", 1, news.rule(4, 0, 0));
        news.wipe();
        check.due("nothing in force", 0, news.force());
        check.due("without", 20, news.rule(3, 0, 0));
        check.due("count", 0, news.count(6));
    }

    private static void theLastItemHolds() {
        HandNews news = new HandNews();
        Check.putInForce(news, "w1,30,50;w1,40,20;w2,50,20;v1,60,10;o5,10;o6,5;b9,10;x3,10;n0,0,0,999;");
        check.due("w before", 10, news.rule(0, 1, 19));
        check.due("why before", HandNews.NONE, news.why(0, 1, 19));
        check.due("w from its day on", 40, news.rule(0, 1, 20));
        check.due("why", 1, news.why(0, 1, 20));
        check.due("the last one in the text, not of the days", 40, news.rule(0, 1, 50));
        check.due("why", 1, news.why(0, 1, 999));
        check.due("another town", 50, news.rule(0, 2, 20));
        check.due("a town without", 10, news.rule(0, 0, 999));
        check.due("v of a writer", 60, news.rule(1, 1, 10));
        check.due("why", 3, news.why(1, 1, 10));
        check.due("v of another", 0, news.rule(1, 2, 10));
        check.due("o", 6, news.rule(2, -5, 10));
        check.due("why o", 5, news.why(2, 77, 10));
        check.due("o before all", 999, news.rule(2, 0, 4));
        check.due("b", 9, news.rule(3, 1000, 10));
        check.due("why b", 6, news.why(3, 0, 10));
        check.due("x", 3, news.rule(4, -1, 10));
        check.due("why x", 7, news.why(4, 0, 10));
        check.due("x before", 1, news.rule(4, 0, 9));
        check.due("why x before", HandNews.NONE, news.why(4, 0, 9));
    }

    private static void ruleAndWhyRefuse() {
        HandNews news = new HandNews();
        int[][] bad = {
            {-1, 0, 0}, {5, 0, 0}, {0, -1, 0}, {0, 6, 0}, {1, -1, 0}, {1, 8, 0}, {0, 0, -1}, {0, 0, 1000},
            {2, 0, -1}, {4, 0, 1000}};
        for (int[] call : bad) {
            check.due("rule", HandNews.BAD, news.rule(call[0], call[1], call[2]));
            check.due("why", HandNews.BAD, news.why(call[0], call[1], call[2]));
        }
        check.due("writer 7", 0, news.rule(1, 7, 999));
        check.due("town 5", 10, news.rule(0, 5, 999));
        check.due("writer 7", HandNews.NONE, news.why(1, 7, 0));
    }

    private static void quarrelsAreFound() {
        HandNews news = new HandNews();
        check.due("the first pair", 3, quarrelOf(news, "w0,1,1;b1,0;b2,0;w0,2,1;"));
        check.due("w", 1, quarrelOf(news, "w0,1,1;w0,2,1;"));
        check.due("w of other towns", HandNews.NONE, quarrelOf(news, "w0,1,1;w1,2,1;"));
        check.due("w of other days", HandNews.NONE, quarrelOf(news, "w0,1,1;w0,2,2;"));
        check.due("w alike", HandNews.NONE, quarrelOf(news, "w0,1,1;w0,01,001;"));
        check.due("w and v", HandNews.NONE, quarrelOf(news, "w0,1,1;v0,2,1;"));
        check.due("v", 102, quarrelOf(news, "w0,1,1;v0,1,1;v0,2,1;"));
        check.due("v of other writers", HandNews.NONE, quarrelOf(news, "v0,1,1;v1,2,1;"));
        check.due("o", 2, quarrelOf(news, "o1,1;o1,2;o2,1;"));
        check.due("b", 1, quarrelOf(news, "b1,1;b2,1;"));
        check.due("x", 1, quarrelOf(news, "x1,1;x2,1;"));
        check.due("n never", HandNews.NONE, quarrelOf(news, "n0,1,1,1;n0,2,1,1;n0,1,1,2;"));
        check.due("o and b", HandNews.NONE, quarrelOf(news, "o1,1;b2,1;x3,1;"));
        Check.faultOf(news, "b1,1;b2,1;");
        check.due("of what is in force alone", HandNews.NONE, news.quarrel());
    }

    private static int quarrelOf(HandNews news, String rules) {
        Check.putInForce(news, rules);
        return news.quarrel();
    }

    private static void closetAndCame() {
        HandNews news = new HandNews();
        news.post(0, 1, 5, 60);
        news.sheet(0, 0, 10);
        news.sheet(1, 0, -1);
        news.sheet(0, 0, 999);
        news.say(0, 0, 1, 0, false, false);
        news.say(1, 0, 1, 0, false, false);
        news.say(2, 1, 1, 0, false, false);
        check.due("here", 10, news.came(0));
        check.due("no way", HandNews.NONE, news.came(1));
        check.due("BAD", HandNews.BAD, news.closet(6));
        check.due("BAD", HandNews.BAD, news.closet(-1));
        check.due("it was in 0", 0, news.closet(1));
        check.due("by the way", 15, news.came(0));
        check.due("on the first day", 0, news.came(1));
        check.due("past the last day", 1004, news.came(2));
        check.due("BAD", HandNews.BAD, news.came(3));
        check.due("BAD", HandNews.BAD, news.came(-1));
        check.due("it was in 1", 1, news.closet(5));
        news.behind(1, 2);
        check.due("quarrel", HandNews.NO, news.came(0));
        check.due("BAD ahead of NO", HandNews.BAD, news.came(3));
    }

    private static void beliefCountsVoicesOnce() {
        HandNews news = new HandNews();
        news.post(0, 1, 5, 5);
        news.sheet(0, 0, 10);
        news.sheet(0, 1, 12);
        news.sheet(1, 2, 20);
        news.say(0, 0, 1000, 0, false, false);
        news.say(1, 0, 1000, 0, false, false);
        news.say(2, 0, 7777, 255, false, false);
        news.say(2, 1, 7777, 255, false, false);
        check.due("not yet", 0, news.belief(0, 9, 0));
        check.due("the voice came", 10, news.belief(0, 10, 0));
        check.due("its copy adds nothing", 10, news.belief(0, 12, 0));
        check.due("the other town's never comes", 10, news.belief(0, 999, 0));
        check.due("too little", 0, news.belief(0, 999, 1));
        news.closet(1);
        check.due("by the post", 0, news.belief(0, 14, 0));
        check.due("by the post", 10, news.belief(0, 15, 0));
        check.due("two voices", 20, news.belief(0, 20, 0));
        check.due("enough", 1, news.belief(0, 20, 1));
        check.due("another thing", 10, news.belief(1, 20, 0));
        check.due("none of it", 0, news.belief(2, 20, 0));
        HandNews copy = new HandNews();
        copy.post(0, 1, 5, 5);
        copy.post(1, 2, 1, 1);
        copy.sheet(0, 0, 10);
        copy.sheet(1, 1, 15);
        copy.sheet(0, 2, 10);
        copy.say(0, 0, 1000, 0, true, false);
        copy.say(1, 0, 1000, 0, false, false);
        copy.closet(1);
        Check.putInForce(copy, "w0,30,0;w1,70,0;v0,5,0;v1,9,0;");
        check.due("the voice weighs, not what brought it", 35, copy.belief(0, 15, 0));
        copy.own(0);
        check.due("an alike copy still has it of the voice", 35, copy.belief(0, 15, 0));
    }

    private static void beliefGoesByRulesOfTheDay() {
        HandNews news = new HandNews();
        news.sheet(0, 0, 0);
        news.sheet(1, 1, 0);
        news.sheet(0, 1, 0);
        news.say(0, 0, 1, 0, true, false);
        news.say(2, 0, 1, 0, true, true);
        Check.putInForce(news, "w0,50,10;v0,7,20;v1,100,30;x3,40;b1,50;x0,60;");
        check.due("10 - 10", 0, news.belief(0, 9, 0));
        check.due("50 - 50", 0, news.belief(0, 10, 0));
        check.due("57 - 50", 7, news.belief(0, 20, 0));
        check.due("57 - 150", -93, news.belief(0, 30, 0));
        check.due("57 - 3 * 150", -393, news.belief(0, 40, 0));
        check.due("not believed", 0, news.belief(0, 50, 1));
        check.due("57 - 0", 57, news.belief(0, 60, 0));
        check.due("believed", 1, news.belief(0, 60, 1));
        Check.putInForce(news, "x0,0;b10,0;b11,5;");
        check.due("just enough", 1, news.belief(0, 4, 1));
        check.due("just not", 0, news.belief(0, 5, 1));
    }

    private static void beliefForgetsOldSheets() {
        HandNews news = new HandNews();
        news.sheet(0, 0, 10);
        news.sheet(0, 1, 30);
        news.say(0, 0, 1, 0, true, false);
        news.say(1, 0, 1, 0, false, false);
        Check.putInForce(news, "o15,0;w0,40,0;o0,100;");
        check.due("not old", 40, news.belief(0, 25, 0));
        check.due("old", 0, news.belief(0, 26, 0));
        check.due("come again by a copy", 40, news.belief(0, 30, 0));
        check.due("until that is old", 40, news.belief(0, 45, 0));
        check.due("old, too", 0, news.belief(0, 46, 0));
        news.sheet(0, 2, 100);
        news.say(2, 0, 1, 0, true, false);
        check.due("of the very day", 40, news.belief(0, 100, 0));
        check.due("a day old", 0, news.belief(0, 101, 0));
    }

    private static void beliefRefuses() {
        HandNews news = new HandNews();
        int[][] bad = {{-1, 0, 0}, {10, 0, 0}, {0, -1, 0}, {0, 1000, 0}, {0, 0, -1}, {0, 0, 2}};
        for (int[] call : bad) {
            check.due("belief", -1000000, news.belief(call[0], call[1], call[2]));
        }
        check.due("nothing told", 0, news.belief(9, 999, 0));
        check.due("nor believed", 0, news.belief(9, 999, 1));
        news.sheet(0, 0, 5);
        news.sheet(0, 0, 4);
        news.behind(1, 0);
        check.due("quarrel", -1000002, news.belief(9, 999, 1));
        check.due("BAD ahead of NO", -1000000, news.belief(9, 999, 2));
    }

    private static void bannedSayings() {
        HandNews news = new HandNews();
        check.due("none", 0, news.banned(-1));
        check.due("BAD", HandNews.BAD, news.banned(-2));
        check.due("NONE", HandNews.NONE, news.banned(0));
        news.sheet(0, 0, -1);
        news.sheet(0, 0, 20);
        news.sheet(1, 0, 20);
        news.say(1, 3, 1, 0, true, false);
        news.say(0, 3, 1, 0, false, true);
        news.say(0, 4, 1, 0, true, false);
        news.say(2, 3, 1, 0, true, false);
        Check.putInForce(news, "n0,3,10,20;");
        check.due("two", 2, news.banned(-1));
        check.due("on the last day of it", 0, news.banned(0));
        check.due("on some day of its span, denied too", 1, news.banned(1));
        check.due("no third", HandNews.NONE, news.banned(2));
        check.due("far beyond", HandNews.NONE, news.banned(Integer.MAX_VALUE));
        Check.putInForce(news, "n0,3,10,19;n0,3,21,30;");
        check.due("between", 1, news.banned(-1));
        check.due("the other", 1, news.banned(0));
        Check.putInForce(news, "n0,3,20,20;n0,3,20,20;n1,3,0,999;n0,9,0,999;");
        check.due("each once", 3, news.banned(-1));
        check.due("the third", 3, news.banned(2));
        news.dated(0, 19);
        check.due("its span ends before", 2, news.banned(-1));
        news.dated(0, 21);
        check.due("or begins behind", 2, news.banned(-1));
        news.behind(1, 0);
        check.due("quarrel", HandNews.NO, news.banned(-1));
        check.due("NO ahead of NONE", HandNews.NO, news.banned(9));
        check.due("BAD ahead of NO", HandNews.BAD, news.banned(-2));
    }
}
