import java.util.Random;

/**
 * Promises 9 and 10 by their words alone: all days of four sheets are tried one by one, and those kept that are let.
 * All days lie in a window of ten, at the end of the days or at their beginning, so that all can be tried.
 */
public final class DaysTriedTest {
    private static final int RUNS = 600;
    private static final int SHEETS = 4;
    private static final int WINDOW = 10;
    private static final int TRIES = 10_000;
    private static final Check check = new Check();

    private final Random random;
    private final HandNews news = new HandNews();
    private final int start;
    private final int[] town = new int[SHEETS];
    private final int[] told = new int[SHEETS];
    private final int[] floor = new int[SHEETS];
    private final int[][] gap = new int[SHEETS][SHEETS];
    private final int[] first = new int[SHEETS];
    private final int[] last = new int[SHEETS];
    private final boolean[][] sure = new boolean[SHEETS][SHEETS];
    private int let = 0;

    private DaysTriedTest(int seed) {
        random = new Random(seed);
        start = seed % 2 == 0 ? 1000 - WINDOW : 0;
    }

    public static void main(String[] args) {
        int quarrels = 0;
        int sureOnes = 0;
        for (int seed = 0; seed < RUNS; seed++) {
            check.sentence("run " + seed);
            DaysTriedTest run = new DaysTriedTest(seed);
            run.tell();
            run.tryAll();
            sureOnes += run.compare();
            quarrels += run.let == 0 ? 1 : 0;
        }
        check.sentence("the runs are of all kinds");
        check.holds("quarrels: " + quarrels, quarrels > 60 && quarrels < RUNS / 2);
        check.holds("sure ones whose spans overlap: " + sureOnes, sureOnes > 100);
        check.end();
    }

    private void tell() {
        for (int i = 0; i < 5; i++) {
            news.post(random.nextInt(3), random.nextInt(3), 1 + random.nextInt(3), 60);
        }
        for (int s = 0; s < SHEETS; s++) {
            town[s] = random.nextInt(3);
            told[s] = random.nextInt(5) == 0 ? start + random.nextInt(WINDOW) : -1;
            news.sheet(town[s], s, told[s]);
        }
        tellWindow();
        for (int i = 0; i < 4; i++) {
            tellBehind(random.nextInt(SHEETS), random.nextInt(SHEETS));
        }
    }

    /** At the end things that happened keep the days up; at the beginning a sheet behind all keeps them down. */
    private void tellWindow() {
        for (int s = 0; s < SHEETS; s++) {
            if (start > 0) {
                floor[s] = start + random.nextInt(3);
                check.due("happened", 0, news.happened(s, town[s], floor[s]));
                check.due("say", s, news.say(s, s, 0, 0, false, random.nextBoolean()));
            } else {
                int end = news.sheet(town[s], 7, WINDOW - 1);
                check.holds("behind", news.behind(end, s) > 0);
            }
        }
    }

    private void tellBehind(int later, int earlier) {
        int way = news.way(town[earlier], town[later]);
        int answer = news.behind(later, earlier);
        if (later == earlier) {
            check.due("behind itself", HandNews.BAD, answer);
        } else if (way == HandNews.NONE) {
            check.due("behind without a way", HandNews.NO, answer);
        } else {
            check.holds("behind", answer > 0);
            // A way may be 0, and 0 stands for no pair, so the gap is noted a day longer.
            gap[later][earlier] = way + 1;
        }
    }

    private void tryAll() {
        int[] day = new int[SHEETS];
        for (int i = 0; i < TRIES; i++) {
            int rest = i;
            for (int s = 0; s < SHEETS; s++) {
                day[s] = start + rest % WINDOW;
                rest /= WINDOW;
            }
            if (isLet(day)) {
                note(day);
                let++;
            }
        }
    }

    private boolean isLet(int[] day) {
        for (int s = 0; s < SHEETS; s++) {
            if (told[s] != -1 && day[s] != told[s] || day[s] < floor[s]) {
                return false;
            }
            for (int other = 0; other < SHEETS; other++) {
                if (gap[s][other] > 0 && day[s] < day[other] + gap[s][other] - 1) {
                    return false;
                }
            }
        }
        return true;
    }

    private void note(int[] day) {
        for (int s = 0; s < SHEETS; s++) {
            first[s] = let == 0 ? day[s] : Math.min(first[s], day[s]);
            last[s] = let == 0 ? day[s] : Math.max(last[s], day[s]);
            for (int other = 0; other < SHEETS; other++) {
                sure[s][other] = (let == 0 || sure[s][other]) && day[s] < day[other];
            }
        }
    }

    /** Answers how many were sure though their spans overlap. */
    private int compare() {
        int overlapping = 0;
        for (int s = 0; s < SHEETS; s++) {
            check.due("first day of " + s, let == 0 ? HandNews.NO : first[s], news.span(s, 0));
            check.due("last day of " + s, let == 0 ? HandNews.NO : last[s], news.span(s, 1));
            for (int other = 0; other < SHEETS; other++) {
                int due = let == 0 ? HandNews.NO : sure[s][other] ? 1 : 0;
                check.due("ahead(" + s + ", " + other + ")", due, news.ahead(s, other));
                overlapping += due == 1 && last[s] >= first[other] ? 1 : 0;
            }
        }
        return overlapping;
    }
}
