import java.util.ArrayList;
import java.util.List;

/**
 * All that can be asked of an object. Each group is for an object of its own: some answers can be had only by calls
 * that change something (what a worth was, what is kept, how the text reads once it is in force).
 */
final class Questions {
    /** A call, and how it is printed. */
    record Question(String name, Scene.Call call) {
    }

    private static final int[] DAYS = {0, 9, 10, 11, 20, 40, 500, 999};

    static final List<List<Question>> GROUPS = new ArrayList<>();

    static {
        askTowns();
        askSheets();
        askTree();
        askChanges();
        askRules();
        askBelief();
        askOutcomes();
        askWhatWas();
        askTheText();
        askTheKept(1);
        askTheKept(2);
    }

    private Questions() {
    }

    static String nameOf(int index) {
        int at = index;
        for (List<Question> group : GROUPS) {
            if (at < group.size()) {
                return group.get(at).name();
            }
            at -= group.size();
        }
        return "no question";
    }

    private static List<Question> newGroup() {
        List<Question> group = new ArrayList<>();
        GROUPS.add(group);
        return group;
    }

    private static void ask(List<Question> group, String name, Scene.Call call) {
        group.add(new Question(name, call));
    }

    private static void askTowns() {
        List<Question> group = newGroup();
        askCounts(group);
        for (int at = 0; at < 36; at++) {
            int from = at / 6;
            int to = at % 6;
            ask(group, "way(" + from + ", " + to + ")", news -> news.way(from, to));
            ask(group, "slow(" + from + ", " + to + ")", news -> news.slow(from, to));
        }
    }

    private static void askCounts(List<Question> group) {
        for (int i = 0; i <= 8; i++) {
            int what = i;
            ask(group, "count(" + what + ")", news -> news.count(what));
        }
    }

    private static void askSpans(List<Question> group) {
        for (int at = 0; at < 24; at++) {
            int sheet = at / 2;
            int what = at % 2;
            ask(group, "span(" + sheet + ", " + what + ")", news -> news.span(sheet, what));
        }
    }

    private static void askSheets() {
        List<Question> group = newGroup();
        askSpans(group);
        for (int at = 0; at < 144; at++) {
            int a = at / 12;
            int b = at % 12;
            ask(group, "ahead(" + a + ", " + b + ")", news -> news.ahead(a, b));
        }
    }

    private static void askSayings(List<Question> group) {
        for (int i = 0; i < 30; i++) {
            int saying = i;
            ask(group, "from(" + saying + ")", news -> news.from(saying));
            ask(group, "grew(" + saying + ")", news -> news.grew(saying));
            ask(group, "came(" + saying + ")", news -> news.came(saying));
        }
    }

    private static void askTree() {
        List<Question> group = newGroup();
        askSayings(group);
        for (int at = 0; at < 90; at++) {
            int saying = at / 3;
            int what = at % 3;
            ask(group, "voice(" + saying + ", " + what + ")", news -> news.voice(saying, what));
        }
        for (int at = 0; at < 20; at++) {
            int thing = at / 2;
            boolean denied = at % 2 == 1;
            ask(group, "voices(" + thing + ", " + denied + ")", news -> news.voices(thing, denied));
        }
        for (int i = 0; i < 8; i++) {
            int writer = i;
            ask(group, "habit(" + writer + ")", news -> news.habit(writer));
        }
    }

    private static void askChanges() {
        List<Question> group = newGroup();
        for (int a = 0; a < 30; a++) {
            for (int b = a; b < 30; b++) {
                if (group.size() == 300) {
                    group = newGroup();
                }
                int one = a;
                int other = b;
                ask(group, "change(" + one + ", " + other + ")", news -> news.change(one, other));
            }
        }
    }

    private static void askRulesOf(List<Question> group, int what, int highest) {
        for (int i = 0; i <= highest; i++) {
            int k = i;
            for (int day : DAYS) {
                String args = "(" + what + ", " + k + ", " + day + ")";
                ask(group, "rule" + args, news -> news.rule(what, k, day));
                ask(group, "why" + args, news -> news.why(what, k, day));
            }
        }
    }

    private static void askAllRules(List<Question> group) {
        askRulesOf(group, 0, 5);
        askRulesOf(group, 1, 7);
        for (int what = 2; what <= 4; what++) {
            askRulesOf(group, what, 0);
        }
        ask(group, "quarrel()", news -> news.quarrel());
    }

    private static void askBanned(List<Question> group) {
        for (int at = -1; at <= 30; at++) {
            int i = at;
            ask(group, "banned(" + i + ")", news -> news.banned(i));
        }
    }

    private static void askRules() {
        List<Question> group = newGroup();
        ask(group, "fault()", news -> news.fault());
        askAllRules(group);
    }

    private static void askBelief() {
        List<Question> group = newGroup();
        askBanned(group);
        for (int i = 0; i < 10; i++) {
            int thing = i;
            for (int day : DAYS) {
                String args = "(" + thing + ", " + day;
                ask(group, "belief" + args + ", 0)", news -> news.belief(thing, day, 0));
                ask(group, "belief" + args + ", 1)", news -> news.belief(thing, day, 1));
            }
        }
    }

    private static void askOutcomes() {
        List<Question> group = newGroup();
        for (int at = 0; at < 24; at++) {
            int writer = at / 3;
            int what = at % 3;
            ask(group, "right(" + writer + ", " + what + ")", news -> news.right(writer, what));
        }
        for (int at = 0; at < 120; at++) {
            int thing = at / 12;
            int town = at / 2 % 6;
            int what = at % 2;
            ask(group, "known(" + thing + ", " + town + ", " + what + ")", news -> news.known(thing, town, what));
        }
        for (int i = 1; i <= 6; i++) {
            int n = i;
            for (int truths : new int[] {1, 2, 4, 8, 15}) {
                for (int j = 0; j < 4; j++) {
                    int what = j;
                    ask(group, "buy(" + n + ", " + truths + ", " + what + ")", news -> news.buy(n, truths, what));
                }
            }
        }
    }

    private static void askWhatWas() {
        List<Question> group = newGroup();
        ask(group, "own(12)", news -> news.own(12));
        ask(group, "closet(0)", news -> news.closet(0));
        for (int i = 0; i < 10; i++) {
            int thing = i;
            ask(group, "truth(" + thing + ", -1)", news -> news.truth(thing, -1));
        }
        for (int at = 0; at < 24; at++) {
            int choice = at / 4;
            int truth = at % 4;
            ask(group, "worth(" + choice + ", " + truth + ", 0)", news -> news.worth(choice, truth, 0));
        }
        for (int i = 0; i < 12; i++) {
            int sheet = i;
            ask(group, "dated(" + sheet + ", -1)", news -> news.dated(sheet, -1));
        }
        ask(group, "sheet(0, 0, 0)", news -> news.sheet(0, 0, 0));
        ask(group, "say(0, 0, 0, 0, true, true)", news -> news.say(0, 0, 0, 0, true, true));
        ask(group, "behind(1, 0)", news -> news.behind(1, 0));
        ask(group, "keep()", news -> news.keep());
    }

    private static void askTheText() {
        List<Question> group = newGroup();
        ask(group, "force()", news -> news.force());
        ask(group, "write(1, 0)", news -> news.write(1, 0));
        askAllRules(group);
        ask(group, "wipe()", news -> news.wipe());
    }

    private static void askTheKept(int steps) {
        List<Question> group = newGroup();
        for (int i = 0; i < steps; i++) {
            ask(group, "back()", news -> news.back());
        }
        askCounts(group);
        askSpans(group);
        askSayings(group);
        for (int i = 0; i < 30; i++) {
            int saying = i;
            ask(group, "change(0, " + saying + ")", news -> news.change(0, saying));
        }
        for (int i = 0; i < 10; i++) {
            int thing = i;
            ask(group, "known(" + thing + ", 0, 0)", news -> news.known(thing, 0, 0));
            ask(group, "truth(" + thing + ", -1)", news -> news.truth(thing, -1));
        }
        for (int i = 0; i < 12; i++) {
            int sheet = i;
            ask(group, "dated(" + sheet + ", -1)", news -> news.dated(sheet, -1));
        }
        askSpans(group);
    }
}
