import java.util.Arrays;

/** The sentences on weeks: term VII, promises 44 to 47. */
final class WeekEdges {
    private WeekEdges() {
    }

    static void run() {
        hours();
        takes();
        gains();
        chances();
        stories();
        within();
        ties();
        twelve();
        weekCall();
        freshCall();
        takesCall();
        freshen();
    }

    /** A desk on day 2 whose kinds keep a day: of person i so many facts are stale; all are young. */
    private static LivesAhead desk(int hours, int[] worth, int[] stale) {
        LivesAhead x = new LivesAhead();
        x.writer(hours);
        for (int kind = 0; kind < 10; kind++) {
            x.keeps(kind, 1);
        }
        for (int i = 0; i < worth.length; i++) {
            x.person(1, 10, worth[i], 0);
            for (int kind = 0; kind < stale[i]; kind++) {
                x.fact(i, kind, 1, false);
            }
        }
        x.pass(2880);
        return x;
    }

    private static void weekIs(LivesAhead x, int gain, int takes, int... people) {
        Check.granted(x, "week", x.week(0), gain);
        Check.due("takes", x.takes(), takes);
        for (int i = 0; i < people.length; i++) {
            Check.due("fresh " + i, x.fresh(i), people[i]);
        }
        Check.due("no more", x.fresh(people.length), -1);
    }

    private static int[] all(int many, int value) {
        int[] all = new int[many];
        Arrays.fill(all, value);
        return all;
    }

    // ---- term VII

    private static void hours() {
        Check.sentence("VII", "each WRITER has HOURS (0 .. 60).");
        Check.bounds(LivesAhead::new, 0, 60, 2, (x, n) -> x.writer(n));
        LivesAhead x = desk(0, all(13, 1), all(13, 10));
        weekIs(x, 0, 0);
        x.hours(0, 60);
        weekIs(x, 120, 60, 0, 1, 2, 3, 4, 5, 6, 7, 8, 9, 10, 11);
        x.hours(0, 59);
        weekIs(x, 110, 55, 0, 1, 2, 3, 4, 5, 6, 7, 8, 9, 10);
    }

    private static void takes() {
        Check.sentence("VII", "To FRESHEN a story takes 1 hour and one more for each 3 of its FACTS that are STALE now,"
            + " upwards;");
        int[] hours = {2, 2, 2, 3, 3, 3, 4, 4, 4, 5};
        for (int stale = 1; stale <= 10; stale++) {
            int needs = hours[stale - 1];
            LivesAhead x = desk(needs, new int[] {3}, new int[] {stale});
            weekIs(x, 3 * stale, needs, 0);
            x.hours(0, needs - 1);
            weekIs(x, 0, 0);
        }
        LivesAhead y = desk(60, new int[] {3}, new int[] {10});
        y.check(0, 0);
        weekIs(y, 27, 4, 0);
    }

    private static void gains() {
        Check.sentence("VII", "its gain: CHANCE times WORTH times how many are STALE.");
        weekIs(desk(60, new int[] {1}, new int[] {1}), 1, 2, 0);
        weekIs(desk(60, new int[] {100}, new int[] {10}), 1000, 5, 0);
        LivesAhead x = desk(60, new int[] {7}, new int[] {4});
        x.fact(0, 0, 2, false);
        weekIs(x, 21, 2, 0);
        LivesAhead y = new LivesAhead();
        y.writer(60);
        for (int i = 0; i < 12; i++) {
            y.person(1, 36500, 100, 0);
            y.peril(i, true);
            for (int kind = 0; kind < 10; kind++) {
                y.keeps(kind, 1);
                y.fact(i, kind, 1, false);
            }
        }
        y.pass(2880);
        weekIs(y, 12 * 80 * 5 * 100 * 10, 60, 0, 1, 2, 3, 4, 5, 6, 7, 8, 9, 10, 11);
    }

    private static void chances() {
        Check.sentence("VII", "CHANCE by AGE: 1 below 40, 3 below 60, 10 below 75, 30 below 85, 80 else;");
        int[][] chance = {{0, 1}, {39, 1}, {40, 3}, {59, 3}, {60, 10}, {74, 10}, {75, 30}, {84, 30}, {85, 80}, {99, 80}};
        for (int[] one : chance) {
            int age = one[0];
            Check.due("first of " + age, aged(Math.max(1, age * 365 - 2), false), one[1]);
            Check.due("last of " + age, aged(age * 365 + 364 - 2, false), one[1]);
        }
        Check.sentence("VII", "times 5 if in PERIL.");
        for (int[] one : chance) {
            Check.due("in peril at " + one[0], aged(one[0] * 365 + 364 - 2, true), 5 * one[1]);
        }
    }

    /** The gain on day 2 of a story of worth 1 with one fact that is stale. */
    private static int aged(int born, boolean peril) {
        LivesAhead x = new LivesAhead();
        x.writer(2);
        x.person(1, born, 1, 0);
        x.peril(0, peril);
        x.keeps(0, 1);
        x.fact(0, 0, 1, false);
        x.pass(2880);
        return x.week(0);
    }

    private static void stories() {
        Check.sentence("VII", "BEST WEEK of a WRITER: of its stories (not DEAD, some STALE)");
        LivesAhead x = desk(60, all(5, 1), new int[] {1, 0, 1, 1, 1});
        x.writer(60);
        x.person(1, 10, 1, 1);
        weekIs(x, 4, 8, 0, 2, 3, 4);
        Check.rule(x, "kin > 0");
        x.report(2, 0, 0);
        weekIs(x, 4, 8, 0, 2, 3, 4);
        x.tell(2);
        weekIs(x, 3, 6, 0, 3, 4);
        x.check(3, 0);
        weekIs(x, 2, 4, 0, 4);
        Check.granted(x, "of one whose stories are fresh", x.week(1), 0);
        x.bury(0);
        Check.granted(x, "of one that they were left to", x.week(1), 2);
        LivesAhead y = new LivesAhead();
        y.writer(5);
        Check.granted(y, "of one without a story", y.week(0), 0);
        Check.due("takes", y.takes(), 0);
    }

    private static void within() {
        Check.sentence("VII", "the most gain within HOURS;");
        LivesAhead x = desk(2, new int[] {9, 10, 3}, new int[] {1, 1, 10});
        weekIs(x, 10, 2, 1);
        x.hours(0, 3);
        weekIs(x, 10, 2, 1);
        x.hours(0, 4);
        weekIs(x, 19, 4, 0, 1);
        x.hours(0, 5);
        weekIs(x, 30, 5, 2);
        x.hours(0, 6);
        weekIs(x, 30, 5, 2);
        x.hours(0, 7);
        weekIs(x, 40, 7, 1, 2);
        x.hours(0, 9);
        weekIs(x, 49, 9, 0, 1, 2);
        x.hours(0, 1);
        weekIs(x, 0, 0);
    }

    private static void ties() {
        Check.sentence("VII", "of as good ones the fewest hours,");
        LivesAhead x = desk(3, new int[] {3, 12}, new int[] {4, 1});
        weekIs(x, 12, 2, 1);
        LivesAhead v = desk(4, new int[] {6, 6, 4}, new int[] {1, 1, 3});
        weekIs(v, 18, 4, 0, 2);
        LivesAhead w = desk(5, new int[] {6, 6, 2}, new int[] {1, 1, 6});
        weekIs(w, 18, 5, 0, 2);
        LivesAhead u = desk(4, new int[] {3, 6, 6}, new int[] {4, 1, 1});
        weekIs(u, 12, 3, 0);
        Check.sentence("VII", "then with the story of the lesser PERSON where they first differ;");
        LivesAhead y = desk(2, all(5, 6), all(5, 1));
        weekIs(y, 6, 2, 0);
        y.hours(0, 4);
        weekIs(y, 12, 4, 0, 1);
        y.hours(0, 7);
        weekIs(y, 18, 6, 0, 1, 2);
        LivesAhead z = desk(4, new int[] {1, 2, 2, 3}, all(4, 1));
        weekIs(z, 5, 4, 1, 3);
        LivesAhead t = desk(4, new int[] {1, 2, 2, 3}, new int[] {3, 1, 1, 1});
        weekIs(t, 6, 4, 0, 3);
    }

    private static void twelve() {
        Check.sentence("VII", "up to 12 stories (those with the most gain, of as much the least number).");
        weekIs(desk(60, all(12, 1), all(12, 1)), 12, 24, 0, 1, 2, 3, 4, 5, 6, 7, 8, 9, 10, 11);
        weekIs(desk(60, all(13, 1), all(13, 1)), 12, 24, 0, 1, 2, 3, 4, 5, 6, 7, 8, 9, 10, 11);
        int[] worth = all(13, 2);
        worth[0] = 1;
        weekIs(desk(60, worth, all(13, 1)), 24, 24, 1, 2, 3, 4, 5, 6, 7, 8, 9, 10, 11, 12);
        worth[0] = 2;
        worth[1] = 1;
        weekIs(desk(60, worth, all(13, 1)), 24, 24, 0, 2, 3, 4, 5, 6, 7, 8, 9, 10, 11, 12);
        worth[1] = 2;
        worth[12] = 3;
        weekIs(desk(60, worth, all(13, 1)), 25, 24, 0, 1, 2, 3, 4, 5, 6, 7, 8, 9, 10, 12);
        int[] stale = all(13, 10);
        worth = all(13, 1);
        worth[12] = 9;
        stale[12] = 1;
        LivesAhead x = desk(4, worth, stale);
        weekIs(x, 0, 0);
        x.hours(0, 5);
        weekIs(x, 10, 5, 0);
        LivesAhead y = desk(60, all(30, 1), all(30, 1));
        weekIs(y, 12, 24, 0, 1, 2, 3, 4, 5, 6, 7, 8, 9, 10, 11);
        y.peril(29, true);
        y.peril(28, true);
        weekIs(y, 20, 24, 0, 1, 2, 3, 4, 5, 6, 7, 8, 9, 28, 29);
    }

    // ---- promises 44 to 47

    private static void weekCall() {
        LivesAhead x = desk(60, all(1, 4), all(1, 1));
        x.writer(60);
        x.bury(1);
        Check.sentence("44", "BEST WEEK of a WRITER: the gain. NONE: 1 (one that died, too).");
        Check.granted(x, "week", x.week(0), 4);
        for (int writer : new int[] {Integer.MIN_VALUE, -1, 1, 2, 6, Integer.MAX_VALUE}) {
            Check.refused(x, "of " + writer, x.week(writer), 1);
        }
        Check.due("nothing is checked by that", x.about(0, 9), 1);
    }

    private static void freshCall() {
        LivesAhead x = desk(60, all(4, 4), new int[] {1, 0, 1, 1});
        Check.sentence("45", "The i-th PERSON of the latest week() that told a number, by number; NONE.");
        for (int i : new int[] {Integer.MIN_VALUE, -1, 0, 1, Integer.MAX_VALUE}) {
            Check.due("ahead of any", x.fresh(i), -1);
        }
        x.week(1);
        Check.due("ahead of any that told a number", x.fresh(0), -1);
        x.week(0);
        int[] want = {0, 2, 3};
        for (int i = 0; i < 3; i++) {
            Check.due("by number " + i, x.fresh(i), want[i]);
        }
        for (int i : new int[] {Integer.MIN_VALUE, -1, 3, 12, Integer.MAX_VALUE}) {
            Check.due("none such " + i, x.fresh(i), -1);
        }
        x.week(1);
        Check.due("not of one refused", x.fresh(2), 3);
        x.hours(0, 2);
        x.week(0);
        Check.due("of the latest", x.fresh(0), 0);
        Check.due("of the latest", x.fresh(1), -1);
        x.hours(0, 0);
        x.week(0);
        Check.due("of the latest, with none", x.fresh(0), -1);
    }

    private static void takesCall() {
        LivesAhead x = desk(60, all(2, 4), all(2, 4));
        Check.sentence("46", "Hours that it takes; NONE ahead of any.");
        Check.due("ahead of any", x.takes(), -1);
        x.week(1);
        Check.due("ahead of any that told a number", x.takes(), -1);
        x.week(0);
        Check.due("both", x.takes(), 6);
        x.week(-1);
        Check.due("not of one refused", x.takes(), 6);
        x.hours(0, 2);
        Check.due("as it was asked", x.takes(), 6);
        x.week(0);
        Check.due("none", x.takes(), 0);
    }

    private static void freshen() {
        LivesAhead x = desk(5, new int[] {9, 1, 8}, new int[] {4, 10, 2});
        Check.sentence("47", "All FACTS of those stories that are STALE are CHECKED NOW: how many.");
        Check.due("ahead of any", x.freshen(), 0);
        x.week(1);
        Check.due("ahead of any that told a number", x.freshen(), 0);
        weekIs(x, 52, 5, 0, 2);
        x.fact(0, 9, 5, false);
        x.check(0, 3);
        x.pass(1440);
        Check.due("those that are stale", x.freshen(), 5);
        Check.due("checked now", x.known(0, 0, 3), 3);
        Check.due("one that wasn't stale", x.known(0, 9, 3), 2);
        Check.due("one that was checked", x.known(0, 3, 3), 2);
        Check.due("of the last story", x.known(2, 1, 3), 3);
        Check.due("told when it was", x.known(2, 1, 2), 0);
        Check.due("no telling more", x.known(2, 1, 5), 1);
        Check.due("not of another story", x.about(1, 9), 10);
        Check.due("all are fresh", x.freshen(), 0);
        x.week(-1);
        x.pass(2880);
        Check.due("of the latest that told a number", x.freshen(), 7);
        x.hours(0, 0);
        x.pass(2880);
        x.week(0);
        Check.due("of none", x.freshen(), 0);
        LivesAhead y = desk(60, all(12, 1), all(12, 10));
        y.week(0);
        Check.due("all of twelve stories", y.freshen(), 120);
    }
}
