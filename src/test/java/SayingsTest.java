/** Promises 11 to 18: sayings, their changes, the tree, growth and habit. */
public final class SayingsTest {
    private static final Check check = new Check();

    public static void main(String[] args) {
        sayTakesAndRefuses();
        changeCountsFiguresAndWords();
        ownTakesAndRefuses();
        treeTakesTheLeastChange();
        whoCouldCopy();
        copiesNeedDays();
        alikeFirstDaysGoBySheet();
        voiceTellsRootFollowersAndCopies();
        voicesAreToldApart();
        growthAndHabit();
        quarrelsSayNo();
        check.end();
    }

    private static void sayTakesAndRefuses() {
        HandNews news = new HandNews();
        check.due("no sheet", HandNews.BAD, news.say(0, 0, 0, 0, false, false));
        news.sheet(0, 0, -1);
        check.due("sheet below", HandNews.BAD, news.say(-1, 0, 0, 0, false, false));
        check.due("sheet above", HandNews.BAD, news.say(1, 0, 0, 0, false, false));
        check.due("thing below", HandNews.BAD, news.say(0, -1, 0, 0, false, false));
        check.due("thing above", HandNews.BAD, news.say(0, 10, 0, 0, false, false));
        check.due("number below", HandNews.BAD, news.say(0, 0, -1, 0, false, false));
        check.due("number above", HandNews.BAD, news.say(0, 0, 10000, 0, false, false));
        check.due("words below", HandNews.BAD, news.say(0, 0, 0, -1, false, false));
        check.due("words above", HandNews.BAD, news.say(0, 0, 0, 256, false, false));
        check.due("none came", 0, news.count(3));
        news.happened(3, 1, 0);
        check.due("no way from where it happened", HandNews.NO, news.say(0, 3, 0, 0, true, false));
        check.due("denied, too", HandNews.NO, news.say(0, 3, 0, 0, true, true));
        check.due("BAD ahead of NO", HandNews.BAD, news.say(0, 3, 10000, 0, true, true));
        for (int i = 0; i < 30; i++) {
            check.due("saying", i, news.say(0, 9, 9999, 255, i % 2 == 0, i % 3 == 0));
        }
        check.due("a 31st", HandNews.FULL, news.say(0, 9, 0, 0, false, false));
        check.due("NO ahead of FULL", HandNews.NO, news.say(0, 3, 0, 0, false, false));
        check.due("thirty", 30, news.count(3));
    }

    private static void changeCountsFiguresAndWords() {
        HandNews news = new HandNews();
        news.sheet(0, 0, -1);
        news.say(0, 0, 0, 0, false, false);
        news.say(0, 0, 9999, 255, true, true);
        news.say(0, 0, 7, 1, false, false);
        news.say(0, 0, 70, 2, false, false);
        news.say(0, 1, 0, 0, false, false);
        check.due("all unlike", 20, news.change(0, 1));
        check.due("one figure, one word", 4, news.change(0, 2));
        check.due("figures by place", 8, news.change(2, 3));
        check.due("alike both ways", 8, news.change(3, 2));
        check.due("itself", 0, news.change(1, 1));
        check.due("things unlike", HandNews.BAD, news.change(0, 4));
        check.due("below", HandNews.BAD, news.change(-1, 0));
        check.due("above", HandNews.BAD, news.change(0, 5));
        check.due("above", HandNews.BAD, news.change(5, 5));
    }

    private static void ownTakesAndRefuses() {
        HandNews news = new HandNews();
        check.due("below", HandNews.BAD, news.own(-1));
        check.due("above", HandNews.BAD, news.own(41));
        check.due("at first", 12, news.own(40));
        check.due("then", 40, news.own(0));
        check.due("then", 0, news.own(0));
    }

    private static void treeTakesTheLeastChange() {
        HandNews news = new HandNews();
        for (int s = 0; s < 5; s++) {
            news.sheet(0, s, 10 * s);
        }
        news.say(0, 0, 1000, 0, true, false);
        news.say(1, 0, 2000, 1, true, false);
        news.say(2, 0, 1000, 1, false, false);
        news.say(3, 0, 1001, 1, false, false);
        news.say(4, 0, 2222, 255, false, false);
        check.due("the nearer one", 0, news.from(2));
        check.due("nearer still", 2, news.from(3));
        check.due("too far from all", HandNews.NONE, news.from(4));
        check.due("the least change of it", 16, news.change(4, 1));
        news.own(16);
        check.due("just not too far", 1, news.from(4));
        news.own(15);
        check.due("too far again", HandNews.NONE, news.from(4));
        news.own(0);
        check.due("only alike ones", HandNews.NONE, news.from(2));
        check.due("BAD", HandNews.BAD, news.from(5));
        check.due("BAD", HandNews.BAD, news.from(-1));
        news.own(40);
        news.say(4, 0, 1000, 1, false, false);
        check.due("alike to a copy", 2, news.from(5));
        HandNews ties = new HandNews();
        ties.sheet(0, 0, 5);
        ties.sheet(0, 0, 3);
        ties.sheet(0, 0, 9);
        ties.say(0, 0, 1, 0, true, false);
        ties.say(1, 0, 2, 0, true, false);
        ties.say(2, 0, 3, 0, false, false);
        check.due("the lowest of several", 0, ties.from(2));
    }

    private static void whoCouldCopy() {
        HandNews news = new HandNews();
        news.sheet(0, 0, 10);
        news.sheet(0, 1, 20);
        news.say(0, 0, 5, 0, false, false);
        news.say(1, 0, 5, 0, true, false);
        news.say(1, 0, 5, 0, false, true);
        news.say(1, 1, 5, 0, false, false);
        news.say(0, 0, 5, 0, false, false);
        news.say(1, 0, 5, 0, false, false);
        news.say(0, 0, 6, 0, false, true);
        check.due("the first has it of nobody", HandNews.NONE, news.from(0));
        check.due("seen", HandNews.NONE, news.from(1));
        check.due("denied, of the denied one", 6, news.from(2));
        check.due("of another thing", HandNews.NONE, news.from(3));
        check.due("of the same sheet", HandNews.NONE, news.from(4));
        check.due("the lowest alike", 0, news.from(5));
        check.due("the denied one", HandNews.NONE, news.from(6));
        check.due("a denial that copies is no voice", 1, news.voices(0, true));
    }

    private static void copiesNeedDays() {
        HandNews news = new HandNews();
        news.post(0, 1, 5, 9);
        news.sheet(0, 0, 10);
        news.sheet(1, 1, 14);
        news.sheet(2, 2, 50);
        news.say(0, 0, 5, 0, false, false);
        news.say(1, 0, 5, 0, false, false);
        news.say(2, 0, 5, 0, false, false);
        check.due("a day too early", HandNews.NONE, news.from(1));
        news.dated(1, 15);
        check.due("just in time", 0, news.from(1));
        check.due("no way leads there", HandNews.NONE, news.from(2));
        news.dated(1, -1);
        check.due("its first day is earlier", HandNews.NONE, news.from(1));
        news.sheet(1, 3, 10);
        news.behind(1, 3);
        check.due("alike first days, lower number, last day late", 0, news.from(1));
        news.sheet(1, 4, 14);
        news.behind(4, 1);
        check.due("last day too early", HandNews.NONE, news.from(1));
    }

    private static void alikeFirstDaysGoBySheet() {
        HandNews news = new HandNews();
        news.sheet(0, 0, 7);
        news.sheet(0, 0, 7);
        news.sheet(0, 0, 6);
        news.say(1, 0, 5, 0, false, false);
        news.say(0, 0, 5, 0, false, false);
        check.due("the higher sheet has it of the lower", 1, news.from(0));
        check.due("the lower of nobody", HandNews.NONE, news.from(1));
        news.say(2, 0, 5, 0, false, false);
        check.due("an earlier sheet of a higher number", 2, news.from(1));
        check.due("the lowest saying of several", 1, news.from(0));
    }

    private static void voiceTellsRootFollowersAndCopies() {
        HandNews news = new HandNews();
        for (int s = 0; s < 12; s++) {
            news.sheet(0, 0, s);
        }
        int[] numbers = {0, 1, 11, 111, 1111, 1112, 1122, 1222, 2222, 2223, 2233, 2333};
        for (int s = 0; s < 12; s++) {
            news.say(s, 4, numbers[s], 0, false, false);
        }
        news.own(3);
        for (int s = 0; s < 12; s++) {
            check.due("root of " + s, 0, news.voice(s, 0));
            check.due("followers of " + s, 12, news.voice(s, 1));
            check.due("copies of " + s, s, news.voice(s, 2));
        }
        news.own(2);
        check.due("root by itself", 11, news.voice(11, 0));
        check.due("followers of itself", 1, news.voice(11, 1));
        check.due("copied never", 0, news.voice(11, 2));
        check.due("BAD", HandNews.BAD, news.voice(12, 0));
        check.due("BAD", HandNews.BAD, news.voice(-1, 0));
        check.due("BAD", HandNews.BAD, news.voice(0, -1));
        check.due("BAD", HandNews.BAD, news.voice(0, 3));
    }

    private static void voicesAreToldApart() {
        HandNews news = new HandNews();
        news.sheet(0, 0, 1);
        news.sheet(0, 0, 2);
        news.say(0, 0, 1, 0, true, false);
        news.say(1, 0, 1, 0, true, false);
        news.say(1, 0, 1, 0, false, false);
        news.say(0, 0, 1, 0, false, true);
        news.say(1, 5, 1, 0, false, true);
        check.due("told", 2, news.voices(0, false));
        check.due("denied", 1, news.voices(0, true));
        check.due("another thing told", 0, news.voices(5, false));
        check.due("another thing denied", 1, news.voices(5, true));
        check.due("BAD", HandNews.BAD, news.voices(10, false));
        check.due("BAD", HandNews.BAD, news.voices(-1, true));
    }

    private static void growthAndHabit() {
        HandNews news = new HandNews();
        news.sheet(0, 3, 1);
        news.sheet(0, 4, 2);
        news.sheet(0, 3, 3);
        news.say(0, 0, 100, 0, true, false);
        news.say(1, 0, 900, 0, false, false);
        news.say(2, 0, 908, 0, false, false);
        news.say(0, 1, 5000, 0, false, false);
        news.say(1, 1, 2000, 0, false, false);
        news.say(2, 1, 2000, 0, true, false);
        news.say(0, 2, 10, 0, false, true);
        news.say(2, 2, 40, 0, false, true);
        check.due("a voice", 0, news.grew(0));
        check.due("grew", 800, news.grew(1));
        check.due("grew of a copy", 8, news.grew(2));
        check.due("fell", -3000, news.grew(4));
        check.due("seen", 0, news.grew(5));
        check.due("a denied one", 30, news.grew(7));
        check.due("habit of 3", 38, news.habit(3));
        check.due("habit of 4", -2200, news.habit(4));
        check.due("habit of another", 0, news.habit(0));
        HandNews turned = new HandNews();
        turned.sheet(0, 3, 2);
        turned.sheet(0, 4, 1);
        turned.say(0, 0, 105, 0, false, false);
        turned.say(1, 0, 100, 0, false, false);
        check.due("the first saying copies, too", 5, turned.habit(3));
        check.due("BAD", -100000, news.grew(8));
        check.due("BAD", -100000, news.grew(-1));
        check.due("BAD", -1000000, news.habit(8));
        check.due("BAD", -1000000, news.habit(-1));
    }

    private static void quarrelsSayNo() {
        HandNews news = new HandNews();
        news.sheet(0, 0, 5);
        news.sheet(0, 0, 4);
        news.say(0, 0, 1, 1, true, false);
        news.say(1, 0, 1, 1, false, false);
        news.behind(1, 0);
        check.due("from", HandNews.NO, news.from(1));
        check.due("from of one seen", HandNews.NO, news.from(0));
        check.due("voice", HandNews.NO, news.voice(0, 0));
        check.due("voices", HandNews.NO, news.voices(9, false));
        check.due("grew", -100002, news.grew(0));
        check.due("habit", -1000002, news.habit(7));
        check.due("change is no matter of days", 0, news.change(0, 1));
        check.due("BAD ahead of NO: from", HandNews.BAD, news.from(2));
        check.due("BAD ahead of NO: voice", HandNews.BAD, news.voice(0, 3));
        check.due("BAD ahead of NO: voices", HandNews.BAD, news.voices(10, false));
        check.due("BAD ahead of NO: grew", -100000, news.grew(2));
        check.due("BAD ahead of NO: habit", -1000000, news.habit(8));
        check.due("say goes on", 2, news.say(0, 0, 1, 1, false, false));
        news.dated(1, 5);
        check.due("and it ends", 0, news.from(1));
    }
}
