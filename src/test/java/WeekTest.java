/** Promises 44 to 47: which stories to freshen with a week's hours. */
public final class WeekTest {
    public static void main(String[] args) {
        refusals();
        chances();
        hoursNeeded();
        bestWeek();
        tiedWeeks();
        twelveStories();
        freshened();
        Check.end("WeekTest");
    }

    /** A desk on day 2 whose kinds keep a day; person i has as many stale facts as told. */
    private static LivesAhead desk(int hours, int[] born, int[] worth, int[] stale) {
        LivesAhead x = new LivesAhead();
        x.writer(hours);
        x.writer(60);
        for (int kind = 0; kind < 10; kind++) {
            x.keeps(kind, 1);
        }
        for (int i = 0; i < born.length; i++) {
            x.person(1, born[i], worth[i], 0);
            for (int kind = 0; kind < stale[i]; kind++) {
                x.fact(i, kind, 1, false);
            }
        }
        x.pass(2880);
        return x;
    }

    private static void weekIs(LivesAhead x, int gain, int takes, int... people) {
        Check.granted(x, "week", x.week(0), gain);
        Check.due("takes", x.takes(), takes);
        for (int i = 0; i < people.length; i++) {
            Check.due("fresh " + i, x.fresh(i), people[i]);
        }
        Check.due("no more", x.fresh(people.length), -1);
        Check.due("none below", x.fresh(-1), -1);
    }

    private static void refusals() {
        LivesAhead x = desk(10, new int[] {10}, new int[] {1}, new int[] {1});
        Check.refused(x, "none", x.week(2), 1);
        Check.refused(x, "none", x.week(-1), 1);
        Check.due("no week yet", x.takes(), -1);
        weekIs(x, 1, 2, 0);
        x.bury(1);
        Check.refused(x, "one that died", x.week(1), 1);
        Check.due("the latest that told a number", x.takes(), 2);
        Check.due("the latest that told a number", x.fresh(0), 0);
    }

    private static void chances() {
        int[] ages = {0, 39, 40, 59, 60, 74, 75, 84, 85, 100};
        int[] chance = {1, 1, 3, 3, 10, 10, 30, 30, 80, 80};
        for (int i = 0; i < ages.length; i++) {
            int born = Math.max(1, ages[i] * 365);
            LivesAhead x = desk(10, new int[] {born}, new int[] {7}, new int[] {2});
            weekIs(x, chance[i] * 14, 2, 0);
            x.peril(0, true);
            weekIs(x, chance[i] * 14 * 5, 2, 0);
        }
        LivesAhead x = desk(10, new int[] {40 * 365 - 3}, new int[] {1}, new int[] {1});
        weekIs(x, 1, 2, 0);
        x.pass(1440);
        weekIs(x, 3, 2, 0);
    }

    private static void hoursNeeded() {
        int[] hours = {2, 2, 2, 3, 3, 3, 4, 4, 4, 5};
        for (int stale = 1; stale <= 10; stale++) {
            LivesAhead x = desk(hours[stale - 1], new int[] {10}, new int[] {1}, new int[] {stale});
            weekIs(x, stale, hours[stale - 1], 0);
            x.hours(0, hours[stale - 1] - 1);
            weekIs(x, 0, 0);
        }
    }

    private static void bestWeek() {
        int[] born = {10, 10, 10, 10};
        LivesAhead x = desk(6, born, new int[] {10, 9, 9, 50}, new int[] {4, 1, 3, 0});
        weekIs(x, 67, 5, 0, 2);
        x.hours(0, 4);
        weekIs(x, 40, 3, 0);
        x.hours(0, 7);
        weekIs(x, 76, 7, 0, 1, 2);
        x.hours(0, 0);
        weekIs(x, 0, 0);
        Check.granted(x, "none of its own", x.week(1), 0);
        x.bury(0);
        Check.granted(x, "its stories now", x.week(1), 76);
        Check.rule(x, "kin > 0");
        x.report(0, 0, 0);
        x.tell(0);
        Check.granted(x, "one is dead", x.week(1), 36);
        Check.due("not the dead one", x.fresh(0), 1);
    }

    private static void tiedWeeks() {
        int[] born = {10, 10, 10, 10};
        LivesAhead x = desk(4, born, new int[] {6, 6, 6, 6}, new int[] {1, 1, 1, 1});
        weekIs(x, 12, 4, 0, 1);
        x.hours(0, 5);
        weekIs(x, 12, 4, 0, 1);
        LivesAhead y = desk(3, born, new int[] {3, 12, 12, 1}, new int[] {4, 1, 1, 1});
        weekIs(y, 12, 2, 1);
        LivesAhead z = desk(4, born, new int[] {3, 10, 20, 12}, new int[] {10, 1, 1, 2});
        weekIs(z, 44, 4, 2, 3);
    }

    private static void twelveStories() {
        int[] born = new int[14];
        int[] worth = new int[14];
        int[] stale = new int[14];
        for (int i = 0; i < 14; i++) {
            born[i] = 10;
            worth[i] = i == 13 ? 99 : i == 0 ? 2 : 5;
            stale[i] = 1;
        }
        LivesAhead x = desk(60, born, worth, stale);
        weekIs(x, 99 + 11 * 5, 24, 1, 2, 3, 4, 5, 6, 7, 8, 9, 10, 11, 13);
        x.hours(0, 3);
        weekIs(x, 99, 2, 13);
        worth[0] = 5;
        worth[1] = 1;
        worth[2] = 2;
        LivesAhead y = desk(60, born, worth, stale);
        weekIs(y, 99 + 11 * 5, 24, 0, 3, 4, 5, 6, 7, 8, 9, 10, 11, 12, 13);
    }

    private static void freshened() {
        LivesAhead x = desk(5, new int[] {10, 10, 10}, new int[] {5, 1, 5}, new int[] {1, 1, 2});
        x.keeps(9, 5);
        x.fact(0, 9, 1, false);
        weekIs(x, 15, 4, 0, 2);
        Check.due("freshen", x.freshen(), 3);
        Check.due("checked", x.known(2, 1, 3), 2);
        Check.due("not of others", x.about(1, 9), 1);
        Check.due("nothing more", x.freshen(), 0);
        x.pass(2880);
        Check.due("stale again", x.freshen(), 3);
        x.pass(2880);
        x.pass(2880);
        Check.due("one more", x.freshen(), 4);
    }
}
