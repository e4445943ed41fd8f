/** Promises 11 to 18, sentence by sentence: the lowest, the highest, just outside, empty, full, refused. */
public final class SayingEdgesTest {
    private static final int BAD = HandNews.BAD, NO = HandNews.NO, FULL = HandNews.FULL, NONE = HandNews.NONE;
    private static final int BAD_GROWTH = -100000, NO_GROWTH = -100002, BAD_SUM = -1000000, NO_SUM = -1000002;
    private static final Check check = new Check();

    public static void main(String[] args) {
        sayingsAsTheyCome();
        sayThirtyAtMost();
        sayWithoutWay();
        changeOfFigures();
        changeOfWords();
        changeOfUnlikeThings();
        ownAtFirstAndAtMost();
        noMoreThanOwn();
        seenCopiesNobody();
        ofItsThingOfAnotherSheet();
        bothDeniedOrBothNot();
        lastDayNoEarlier();
        firstDayEarlierOrAlike();
        noWayNoCopy();
        leastChangeAndLowest();
        fromRefuses();
        voiceOfItself();
        voiceOfTheLongestChain();
        voiceOfThirty();
        voicesFromNoneToThirty();
        grewAndFellAtMost();
        grewOfVoices();
        habitAtMost();
        habitIsOfSheets();
        quarrelSaysNo();
        check.end();
    }

    private static HandNews sheets(int... days) {
        HandNews news = new HandNews();
        for (int day : days) {
            news.sheet(0, 0, day);
        }
        return news;
    }

    private static void sayingsAsTheyCome() {
        check.sentence("SAYINGS in a SHEET, of a THING, with a NUMBER (0 to 9999), WORDS (a set of 8 bits)");
        HandNews news = sheets(5, 6);
        int[][] refused = {
            {-1, 0, 0, 0}, {2, 0, 0, 0}, {12, 0, 0, 0}, {0, -1, 0, 0}, {0, 10, 0, 0}, {0, 0, -1, 0}, {0, 0, 10000, 0},
            {0, 0, 0, -1}, {0, 0, 0, 256}, {0, 0, 0, 511}, {0, 0, Integer.MIN_VALUE, 0}, {0, 0, 0, Integer.MIN_VALUE}};
        int[][] let = {{0, 0, 0, 0}, {1, 9, 9999, 255}, {0, 9, 0, 255}, {1, 0, 9999, 0}, {1, 0, 0, 128}};
        for (int i = 0; i < let.length; i++) {
            for (int[] x : refused) {
                check.due("a bad one", BAD, news.say(x[0], x[1], x[2], x[3], i % 2 == 0, i % 3 == 0));
            }
            check.due("sayings", i, news.count(3));
            check.due("saying", i, news.say(let[i][0], let[i][1], let[i][2], let[i][3], true, false));
        }
        check.due("9999 and 255 by 0 and 255", 12, news.change(1, 2));
        check.due("0 and 0 by 9999 and 0", 12, news.change(0, 3));
        check.due("the highest word", 1, news.change(0, 4));
    }

    private static void sayThirtyAtMost() {
        check.sentence("SAYINGS, 30 at most, as they come. FULL: 30.");
        HandNews news = sheets(5, 6);
        news.keep();
        for (int i = 0; i < 30; i++) {
            check.due("saying", i, news.say(i % 2, i % 10, i, i, i % 2 == 0, i % 3 == 0));
            check.due("no saying yet", BAD, news.from(i + 1));
        }
        check.due("a 31st", FULL, news.say(0, 0, 0, 0, false, false));
        check.due("a bad one comes first", BAD, news.say(0, 0, 10000, 0, false, false));
        check.due("a bad one comes first", BAD, news.say(2, 0, 0, 0, false, false));
        check.due("sayings", 30, news.count(3));
        check.due("the last is there", 0, news.change(29, 29));
        check.due("no 31st", BAD, news.change(30, 30));
        news.back();
        check.due("room again", 0, news.say(1, 9, 0, 0, false, false));
        check.due("not seen any more", NONE, news.from(0));
        check.due("of its own sheet and thing", 6, news.came(0));
    }

    private static void sayWithoutWay() {
        check.sentence("NO: it is of a THING that HAPPENED, and no way leads there; FULL: 30.");
        HandNews news = new HandNews();
        news.post(0, 1, 1, 1);
        news.sheet(0, 0, -1);
        news.sheet(1, 0, -1);
        news.sheet(2, 0, -1);
        news.happened(3, 1, 10);
        for (int marks = 0; marks < 4; marks++) {
            check.due("against the post", NO, news.say(0, 3, 0, 0, marks % 2 == 1, marks > 1));
            check.due("where no post leads", NO, news.say(2, 3, 0, 0, marks % 2 == 1, marks > 1));
        }
        check.due("a bad one comes first", BAD, news.say(2, 3, 0, 256, false, false));
        check.due("none came", 0, news.count(3));
        check.due("the span stays", 0, news.span(2, 0));
        check.due("of what did not happen", 0, news.say(2, 4, 0, 0, false, false));
        check.due("where it happened", 1, news.say(1, 3, 0, 0, false, false));
        for (int i = 2; i < 30; i++) {
            news.say(1, 3, 0, 0, false, false);
        }
        check.due("NO comes ahead of FULL", NO, news.say(0, 3, 0, 0, false, false));
        check.due("FULL where a way leads", FULL, news.say(1, 3, 0, 0, false, false));
        check.due("FULL of what did not happen", FULL, news.say(0, 4, 0, 0, false, false));
    }

    private static int changeOf(int number, int words, int otherNumber, int otherWords) {
        HandNews news = sheets(5, 6);
        news.say(0, 0, number, words, false, false);
        news.say(1, 0, otherNumber, otherWords, true, true);
        int change = news.change(0, 1);
        check.due("turned", change, news.change(1, 0));
        return change;
    }

    private static void changeOfFigures() {
        check.sentence("CHANGE: 3 for each figure (of four, 0s ahead) that is unlike");
        check.due("none", 0, changeOf(0, 0, 0, 0));
        check.due("none of the highest", 0, changeOf(9999, 0, 9999, 0));
        check.due("the last", 3, changeOf(0, 0, 1, 0));
        check.due("the third", 3, changeOf(0, 0, 90, 0));
        check.due("the second", 3, changeOf(0, 0, 500, 0));
        check.due("the first", 3, changeOf(0, 0, 9000, 0));
        check.due("the first of a full number", 3, changeOf(9999, 0, 999, 0));
        check.due("two", 6, changeOf(1000, 0, 1, 0));
        check.due("three", 9, changeOf(1234, 0, 4, 0));
        check.due("four, though the figures are alike", 12, changeOf(1234, 0, 2341, 0));
        check.due("0s ahead are not unlike", 3, changeOf(7, 0, 17, 0));
        check.due("a sum just behind", 12, changeOf(999, 0, 1000, 0));
    }

    private static void changeOfWords() {
        check.sentence("1 for each WORD that is in one alone");
        for (int bit = 0; bit < 8; bit++) {
            check.due("word " + bit, 1, changeOf(5, 0, 5, 1 << bit));
            check.due("all but " + bit, 7, changeOf(5, 255, 5, 1 << bit));
        }
        check.due("words in both", 0, changeOf(5, 255, 5, 255));
        check.due("words in one each", 8, changeOf(5, 170, 5, 85));
        check.due("the most", 20, changeOf(0, 0, 9999, 255));
    }

    private static void changeOfUnlikeThings() {
        check.sentence("BAD (THINGS unlike, too).");
        HandNews news = sheets(5);
        check.due("without sayings", BAD, news.change(0, 0));
        news.say(0, 0, 5, 5, false, false);
        news.say(0, 9, 5, 5, false, false);
        check.due("itself", 0, news.change(0, 0));
        check.due("unlike", BAD, news.change(0, 1));
        check.due("unlike", BAD, news.change(1, 0));
        check.due("below", BAD, news.change(-1, 0));
        check.due("below", BAD, news.change(0, -1));
        check.due("above", BAD, news.change(2, 1));
        check.due("above", BAD, news.change(1, 2));
        check.due("far above", BAD, news.change(30, 30));
    }

    private static void ownAtFirstAndAtMost() {
        check.sentence("OWN (0 to 40; 12 at first): what it was. BAD.");
        HandNews news = new HandNews();
        check.due("below", BAD, news.own(-1));
        check.due("above", BAD, news.own(41));
        check.due("far below", BAD, news.own(Integer.MIN_VALUE));
        check.due("far above", BAD, news.own(Integer.MAX_VALUE));
        check.due("at first", 12, news.own(0));
        check.due("the lowest", 0, news.own(40));
        check.due("refused", BAD, news.own(41));
        check.due("the highest stays", 40, news.own(40));
        news.keep();
        news.own(1);
        news.back();
        check.due("own is not kept", 1, news.own(1));
    }

    private static void noMoreThanOwn() {
        check.sentence("if that is no more than OWN; else of nobody");
        int[][] changes = {
            {1, 0, 0}, {1, 1, 1}, {2, 0, 3}, {2, 255, 11}, {2222, 0, 12}, {2222, 1, 13}, {2222, 255, 20}};
        for (int[] change : changes) {
            HandNews news = sheets(5, 6);
            news.say(0, 0, 1, 0, false, false);
            news.say(1, 0, change[0], change[1], false, false);
            check.due("change", change[2], news.change(0, 1));
            check.due("at first", change[2] <= 12 ? 0 : NONE, news.from(1));
            news.own(change[2]);
            check.due("as much as OWN", 0, news.from(1));
            if (change[2] > 0) {
                news.own(change[2] - 1);
                check.due("one more than OWN", NONE, news.from(1));
            }
            news.own(40);
            check.due("by the highest OWN", 0, news.from(1));
            news.own(0);
            check.due("by the lowest OWN", change[2] == 0 ? 0 : NONE, news.from(1));
        }
    }

    private static void seenCopiesNobody() {
        check.sentence("COULD COPY: a SAYING that is not SEEN");
        HandNews news = sheets(5, 6, 7);
        news.say(0, 0, 1, 0, true, false);
        news.say(1, 0, 1, 0, true, false);
        news.say(2, 0, 1, 0, false, false);
        check.due("seen has it of nobody", NONE, news.from(1));
        check.due("of a seen one it may be had", 0, news.from(2));
        check.due("the seen one's voice is itself", 1, news.voice(1, 0));
        check.due("two voices", 2, news.voices(0, false));
    }

    private static void ofItsThingOfAnotherSheet() {
        check.sentence("from another one of its THING, of another SHEET");
        HandNews news = sheets(5, 6);
        news.say(0, 0, 1, 0, false, false);
        check.due("itself is no other", NONE, news.from(0));
        news.say(0, 0, 1, 0, false, false);
        check.due("of the same sheet", NONE, news.from(1));
        news.say(1, 1, 1, 0, false, false);
        check.due("of another thing", NONE, news.from(2));
        news.say(1, 0, 1, 0, false, false);
        check.due("of its thing and another sheet", 0, news.from(3));
        news.say(0, 1, 1, 0, false, false);
        check.due("a later saying of an earlier sheet", 4, news.from(2));
    }

    private static void bothDeniedOrBothNot() {
        check.sentence("both DENIED or both not");
        for (int marks = 0; marks < 4; marks++) {
            HandNews news = sheets(5, 6);
            boolean alike = marks == 0 || marks == 3;
            news.say(0, 0, 1, 0, false, marks % 2 == 1);
            news.say(1, 0, 1, 0, false, marks > 1);
            check.due("marks " + marks, alike ? 0 : NONE, news.from(1));
            check.due("denied voices", marks == 0 ? 0 : 1, news.voices(0, true));
            check.due("voices not denied", marks == 3 ? 0 : 1, news.voices(0, false));
        }
    }

    private static void lastDayNoEarlier() {
        check.sentence("the last DAY of its SHEET is no earlier than the first DAY of that one's and THE WAY");
        HandNews news = new HandNews();
        news.post(0, 1, 7, 60);
        news.sheet(0, 0, 10);
        news.sheet(1, 0, 17);
        news.say(0, 0, 1, 0, false, false);
        news.say(1, 0, 1, 0, false, false);
        check.due("just so", 0, news.from(1));
        news.dated(1, 16);
        check.due("a day too early", NONE, news.from(1));
        news.dated(0, -1);
        check.due("by that one's first day", 0, news.from(1));
        news.sheet(1, 0, 9);
        news.behind(1, 2);
        news.dated(0, 8);
        news.dated(1, -1);
        check.due("by its own last day", 0, news.from(1));
        news.sheet(1, 0, 15);
        news.behind(3, 1);
        check.due("its last day just so", 0, news.from(1));
        news.dated(3, 14);
        check.due("its last day a day too early", NONE, news.from(1));
        HandNews near = sheets(0, 0, 999, 999);
        for (int sheet = 0; sheet < 4; sheet++) {
            near.say(sheet, sheet / 2, 1, 0, false, false);
        }
        check.due("no way needed, on day 0", 0, near.from(1));
        check.due("no way needed, on day 999", 2, near.from(3));
    }

    private static void firstDayEarlierOrAlike() {
        check.sentence("the first DAY of that one's SHEET is earlier, or alike and that SHEET has the lower number");
        HandNews news = sheets(10, 10, -1);
        news.say(0, 0, 1, 0, false, false);
        news.say(1, 0, 1, 0, false, false);
        check.due("alike, the lower number", 0, news.from(1));
        check.due("alike, the higher number", NONE, news.from(0));
        news.dated(1, 9);
        check.due("a day earlier, the higher number", 1, news.from(0));
        check.due("a day later, the lower number", NONE, news.from(1));
        news.dated(1, 11);
        check.due("a day later, the higher number", NONE, news.from(0));
        check.due("a day earlier, the lower number", 0, news.from(1));
        news.say(2, 0, 1, 0, false, false);
        check.due("a first day of 0 copies nothing later", NONE, news.from(2));
        check.due("and is copied", 2, news.from(0));
        check.due("the lowest of two", 0, news.from(1));
    }

    private static void noWayNoCopy() {
        check.sentence("THE WAY from TOWN to TOWN");
        HandNews news = new HandNews();
        news.post(1, 0, 1, 1);
        news.sheet(0, 0, 0);
        news.sheet(1, 0, 999);
        news.sheet(0, 0, 999);
        news.say(0, 0, 1, 0, false, false);
        news.say(1, 0, 1, 0, false, false);
        check.due("against the post", NONE, news.from(1));
        news.say(2, 0, 1, 0, false, false);
        check.due("in one town", 0, news.from(2));
        news.dated(0, -1);
        news.dated(1, 998);
        news.say(1, 1, 1, 0, false, false);
        news.say(2, 1, 1, 0, false, false);
        check.due("by the post, on the last day", 3, news.from(4));
        news.dated(1, 999);
        check.due("a day later", NONE, news.from(4));
    }

    private static void leastChangeAndLowest() {
        check.sentence("by least CHANGE (of several the lowest)");
        HandNews news = sheets(30, 20, 10, 40);
        news.say(1, 0, 1, 3, true, false);
        news.say(0, 0, 1, 5, true, false);
        news.say(2, 0, 1, 6, true, false);
        news.say(3, 0, 1, 7, false, false);
        check.due("the lowest saying, whatever its sheet and day", 0, news.from(3));
        news.say(2, 0, 1, 7, true, false);
        check.due("less change, though higher", 4, news.from(3));
        news.say(2, 0, 1, 7, true, false);
        check.due("as little, but higher", 4, news.from(3));
        news.own(0);
        check.due("by no change at all", 4, news.from(3));
    }

    private static void fromRefuses() {
        check.sentence("Of whom a SAYING has it. NONE: of nobody; BAD; NO: a QUARREL.");
        HandNews news = sheets(5, 6);
        check.due("without sayings", BAD, news.from(0));
        news.say(0, 0, 1, 0, false, false);
        news.say(1, 0, 1, 0, false, false);
        check.due("below", BAD, news.from(-1));
        check.due("above", BAD, news.from(2));
        check.due("far above", BAD, news.from(30));
        check.due("the lowest", NONE, news.from(0));
        check.due("the highest", 0, news.from(1));
        news.behind(0, 1);
        check.due("NO comes ahead of NONE", NO, news.from(0));
        check.due("BAD comes ahead of NO", BAD, news.from(2));
    }

    private static void voiceOfItself() {
        check.sentence("THE VOICE behind a SAYING (0), how many have it of that VOICE (1), how often copied (2)");
        HandNews news = sheets(5);
        check.due("without sayings", BAD, news.voice(0, 0));
        news.say(0, 0, 1, 0, false, false);
        check.due("itself", 0, news.voice(0, 0));
        check.due("itself alone", 1, news.voice(0, 1));
        check.due("never copied", 0, news.voice(0, 2));
        check.due("what below", BAD, news.voice(0, -1));
        check.due("what above", BAD, news.voice(0, 3));
        check.due("saying below", BAD, news.voice(-1, 0));
        check.due("saying above", BAD, news.voice(1, 0));
    }

    private static void voiceOfTheLongestChain() {
        check.sentence("how often it was copied on the way (2)");
        HandNews news = sheets(8, 7, 6, 5, 4, 3, 2, 1, 0);
        news.own(1);
        for (int i = 0; i <= 8; i++) {
            news.say(i, 0, 0, (1 << 8 - i) - 1, false, false);
        }
        check.due("a word more each time", 8, news.voice(0, 2));
        check.due("by the first of all", 8, news.voice(0, 0));
        news.own(0);
        check.due("too far from each other", 0, news.voice(0, 2));
        HandNews longest = new HandNews();
        for (int sheet = 0; sheet < 12; sheet++) {
            longest.sheet(0, 0, -1);
        }
        longest.own(0);
        for (int i = 0; i < 12; i++) {
            longest.say(11 - i, 0, 7, 7, false, false);
        }
        check.due("the lowest saying copies the next", 1, longest.from(0));
        check.due("copied eleven times", 11, longest.voice(0, 2));
        check.due("of the last", 11, longest.voice(0, 0));
        check.due("twelve have it", 12, longest.voice(5, 1));
        check.due("never copied", 0, longest.voice(11, 2));
    }

    private static void voiceOfThirty() {
        check.sentence("how many have it of that VOICE, itself too (1)");
        HandNews news = sheets(5, 6);
        news.say(0, 0, 1, 0, true, false);
        for (int i = 1; i < 30; i++) {
            news.say(1, 0, 1, 0, false, false);
            check.due("so far", i + 1, news.voice(i, 1));
        }
        check.due("thirty", 30, news.voice(0, 1));
        check.due("the 30th by one copy", 1, news.voice(29, 2));
        check.due("of the first", 0, news.voice(29, 0));
        check.due("one voice", 1, news.voices(0, false));
    }

    private static void voicesFromNoneToThirty() {
        check.sentence("VOICES of a THING (denied: DENIED ones): how many. BAD; NO.");
        HandNews news = sheets(5);
        check.due("below", BAD, news.voices(-1, false));
        check.due("above", BAD, news.voices(10, true));
        check.due("none", 0, news.voices(0, false));
        check.due("none denied", 0, news.voices(9, true));
        for (int i = 0; i < 30; i++) {
            news.say(0, i < 15 ? 0 : 9, 1, 0, i % 2 == 0, i % 3 == 0);
        }
        check.due("of the lowest thing", 10, news.voices(0, false));
        check.due("denied of the lowest", 5, news.voices(0, true));
        check.due("of the highest thing", 10, news.voices(9, false));
        check.due("denied of the highest", 5, news.voices(9, true));
        check.due("of another", 0, news.voices(5, false));
        HandNews one = sheets(5);
        for (int i = 0; i < 30; i++) {
            one.say(0, 4, 1, 0, false, true);
        }
        check.due("thirty", 30, one.voices(4, true));
        check.due("none of them not denied", 0, one.voices(4, false));
    }

    private static void grewAndFellAtMost() {
        check.sentence("GREW: by how much (below 0: fell; 0: a VOICE).");
        HandNews news = sheets(5, 6, 7);
        news.say(0, 0, 0, 0, false, false);
        news.say(1, 0, 9999, 0, false, false);
        news.say(0, 1, 9999, 0, false, false);
        news.say(1, 1, 0, 0, false, false);
        news.say(2, 1, 0, 0, false, false);
        news.say(0, 2, 999, 0, false, true);
        news.say(1, 2, 1000, 0, false, true);
        check.due("the most", 9999, news.grew(1));
        check.due("fell the most", -9999, news.grew(3));
        check.due("an alike copy", 0, news.grew(4));
        check.due("by one, denied", 1, news.grew(6));
        news.own(11);
        check.due("too far: a voice", 0, news.grew(1));
        check.due("too far: a voice", 0, news.grew(3));
    }

    private static void grewOfVoices() {
        check.sentence("BAD answers -100000; NO -100002.");
        HandNews news = sheets(5, 6);
        check.due("without sayings", BAD_GROWTH, news.grew(0));
        news.say(0, 0, 5, 0, false, false);
        news.say(1, 0, 6, 0, true, false);
        check.due("below", BAD_GROWTH, news.grew(-1));
        check.due("above", BAD_GROWTH, news.grew(2));
        check.due("a voice", 0, news.grew(0));
        check.due("a seen one", 0, news.grew(1));
        news.behind(0, 1);
        check.due("quarrel", NO_GROWTH, news.grew(0));
        check.due("BAD comes first", BAD_GROWTH, news.grew(2));
    }

    private static void habitAtMost() {
        check.sentence("HABIT of a WRITER: the sum of how much NUMBERS GREW (and fell: less)");
        for (int sign = -1; sign <= 1; sign += 2) {
            HandNews news = new HandNews();
            news.sheet(0, 0, 5);
            news.sheet(0, 7, 6);
            news.say(0, 0, sign < 0 ? 9999 : 0, 0, false, false);
            for (int i = 1; i < 30; i++) {
                news.say(1, 0, sign < 0 ? 0 : 9999, 0, false, false);
                check.due("so far", sign * 9999 * i, news.habit(7));
            }
            check.due("of the voice's writer", 0, news.habit(0));
        }
    }

    private static void habitIsOfSheets() {
        check.sentence("in its SHEETS, of all SAYINGS that have it of others. BAD answers -1000000; NO -1000002.");
        HandNews news = new HandNews();
        check.due("below", BAD_SUM, news.habit(-1));
        check.due("above", BAD_SUM, news.habit(8));
        check.due("of nothing, the lowest", 0, news.habit(0));
        check.due("of nothing, the highest", 0, news.habit(7));
        news.sheet(0, 0, 5);
        news.sheet(0, 7, 6);
        news.sheet(0, 7, 7);
        news.say(0, 0, 10, 0, false, false);
        news.say(1, 0, 13, 0, false, false);
        news.say(2, 0, 19, 0, false, false);
        news.say(2, 1, 500, 0, false, false);
        news.say(1, 1, 507, 0, true, true);
        check.due("grew in two sheets, 3 and 9", 12, news.habit(7));
        news.say(2, 0, 3, 0, false, false);
        check.due("and fell by 10", 2, news.habit(7));
        HandNews first = sheets(6, 5);
        first.say(0, 0, 15, 0, false, false);
        first.say(1, 0, 10, 0, false, false);
        check.due("of the first saying, too", 5, first.habit(0));
        news.behind(0, 1);
        check.due("quarrel", NO_SUM, news.habit(0));
        check.due("BAD comes first", BAD_SUM, news.habit(8));
    }

    private static void quarrelSaysNo() {
        check.sentence("(QUARREL: NO.)");
        HandNews news = sheets(5, 6, 7);
        news.say(2, 0, 1, 0, true, false);
        news.behind(0, 1);
        for (int what = 0; what <= 2; what++) {
            check.due("of a sheet that quarrels not", NO, news.voice(0, what));
        }
        check.due("from", NO, news.from(0));
        check.due("voices of what nobody says", NO, news.voices(9, true));
        check.due("BAD comes first", BAD, news.voice(0, 3));
        check.due("BAD comes first", BAD, news.voice(1, 0));
        check.due("BAD comes first", BAD, news.voices(10, true));
        check.due("own is told", 12, news.own(5));
        check.due("change is told", 0, news.change(0, 0));
        check.due("say is told", 1, news.say(0, 0, 1, 0, false, false));
        news.dated(0, 6);
        check.due("no quarrel any more", NONE, news.from(0));
        check.due("nobody's before it", NONE, news.from(1));
    }
}
