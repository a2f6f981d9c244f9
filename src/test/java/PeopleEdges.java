import java.util.function.Supplier;

/** The sentences on people, facts and the time: terms I and II, promises 1 to 15, 48 and 49. */
final class PeopleEdges {
    private PeopleEdges() {
    }

    static void run() {
        newDesk();
        clock();
        years();
        people();
        ages();
        facts();
        keepsAndStale();
        tellings();
        writers();
        hours();
        buried();
        persons();
        about();
        perilAndKeeps();
        factCall();
        checkCall();
        known();
        knownOn();
        agesCall();
        alike();
        apart();
        pass();
        count();
    }

    /** Two writers, one person of the first. */
    private static LivesAhead desk() {
        LivesAhead x = new LivesAhead();
        x.writer(10);
        x.writer(5);
        x.person(7, 21900, 50, 0);
        return x;
    }

    private static LivesAhead deskOf(int people) {
        LivesAhead x = new LivesAhead();
        x.writer(10);
        for (int i = 0; i < people; i++) {
            x.person(7, 21900, 50, 0);
        }
        return x;
    }

    private static void newDesk() {
        LivesAhead x = new LivesAhead();
        Check.sentence("1", "Nobody; DAY 0, MINUTE 0.");
        for (int what = 0; what <= 12; what++) {
            Check.due("count " + what, x.count(what), 0);
        }
        Check.due("trouble", x.trouble(), 0);
        Check.due("nobody", x.about(0, 0), -1);
        Check.sentence("I", "DAY 0, MINUTE 0 at first");
        Check.due("day", x.count(10), 0);
        Check.due("minute", x.count(11), 0);
    }

    private static void clock() {
        LivesAhead x = new LivesAhead();
        Check.sentence("I", "NOW: a DAY (0 .. 3,650) and a MINUTE of it (0 .. 1,439)");
        Check.granted(x, "a minute short of a day", x.pass(1439), 0);
        Check.due("minute", x.count(11), 1439);
        Check.granted(x, "over midnight", x.pass(1), 1);
        Check.due("minute", x.count(11), 0);
        Check.granted(x, "from one day's middle into another's", x.pass(1440 + 77), 2);
        Check.due("minute", x.count(11), 77);
        Check.until(x, 3650, 1438);
        Check.granted(x, "the last minute of the last day", x.pass(1), 3650);
        Check.due("minute", x.count(11), 1439);
        Check.refused(x, "there is none behind it", x.pass(1), 2);
    }

    private static void years() {
        LivesAhead x = desk();
        Check.paragraph(x, 0, 1, -1, "{year}");
        Check.sentence("I", "A YEAR has 365 DAYS; DAY 0 is the first of YEAR 100.");
        int[][] days = {{0, 100}, {364, 100}, {365, 101}, {729, 101}, {730, 102}, {3649, 109}, {3650, 110}};
        for (int[] day : days) {
            Check.until(x, day[0], 0);
            Check.due("on day " + day[0], Check.printed(x, 0, 0), String.valueOf(day[1]));
            Check.until(x, day[0], 1439);
            Check.due("late on day " + day[0], Check.printed(x, 0, 0), String.valueOf(day[1]));
        }
    }

    private static void people() {
        Supplier<LivesAhead> desk = PeopleEdges::desk;
        Check.sentence("II", "a NAME (a number 0 .. 99;");
        Check.bounds(desk, 0, 99, 2, (x, n) -> x.person(n, 1, 1, 0));
        Check.sentence("II", "BORN (DAYS before DAY 0: 1 .. 36,500)");
        Check.bounds(desk, 1, 36500, 2, (x, n) -> x.person(0, n, 1, 0));
        Check.sentence("II", "WORTH (1 .. 100)");
        Check.bounds(desk, 1, 100, 2, (x, n) -> x.person(0, 1, n, 0));
        Check.sentence("II", "a WRITER.");
        LivesAhead two = deskOf(0);
        two.writer(1);
        two.person(0, 1, 1, 1);
        two.person(0, 1, 1, 0);
        Check.due("each has its own", two.about(0, 3) * 10 + two.about(1, 3), 10);
        Check.sentence("II", "those with one are ALIKE");
        LivesAhead x = desk();
        x.person(0, 1, 1, 0);
        x.person(99, 1, 1, 0);
        x.person(0, 2, 3, 1);
        Check.due("name 0", x.alike(1), 1);
        Check.due("name 99", x.alike(2), 0);
        LivesAhead y = deskOf(0);
        Check.sentence("I", "PEOPLE 30");
        for (int i = 0; i < 30; i++) {
            Check.granted(y, "person", y.person(i, i + 1, i + 1, 0), i);
        }
        Check.refused(y, "a 31st", y.person(1, 1, 1, 0), 3);
        Check.due("people", y.count(0), 30);
        Check.due("the last", y.about(29, 0), 29);
        Check.due("there is no other", y.about(30, 0), -1);
    }

    private static void ages() {
        Check.sentence("II", "AGE on a DAY: whole YEARS of 365 DAYS since BORN.");
        LivesAhead x = deskOf(0);
        x.person(1, 1, 1, 0);
        x.person(1, 364, 1, 0);
        x.person(1, 365, 1, 0);
        x.person(1, 729, 1, 0);
        x.person(1, 36499, 1, 0);
        x.person(1, 36500, 1, 0);
        int[] first = {0, 0, 1, 1, 99, 100};
        int[] second = {0, 1, 1, 2, 100, 100};
        int[] late = {1, 1, 1, 2, 100, 100};
        int[] yearOn = {1, 1, 2, 2, 100, 101};
        int[] last = {10, 10, 11, 11, 109, 110};
        for (int i = 0; i < 6; i++) {
            Check.due("on day 0", x.about(i, 1), first[i]);
        }
        Check.until(x, 1, 0);
        for (int i = 0; i < 6; i++) {
            Check.due("on day 1", x.about(i, 1), second[i]);
        }
        Check.until(x, 363, 1439);
        Check.due("a day short of a year", x.about(0, 1), 0);
        Check.until(x, 364, 0);
        for (int i = 0; i < 6; i++) {
            Check.due("on day 364", x.about(i, 1), late[i]);
        }
        Check.until(x, 365, 0);
        for (int i = 0; i < 6; i++) {
            Check.due("on day 365", x.about(i, 1), yearOn[i]);
        }
        Check.until(x, 3650, 1439);
        for (int i = 0; i < 6; i++) {
            Check.due("on the last day", x.about(i, 1), last[i]);
        }
    }

    private static void facts() {
        Supplier<LivesAhead> desk = PeopleEdges::desk;
        Check.sentence("II", "a KIND (0 .. 9)");
        Check.bounds(desk, 0, 9, 2, (x, n) -> x.fact(0, n, 1, false));
        Check.sentence("II", "a value (-9,999 .. 9,999)");
        Check.bounds(desk, -9999, 9999, 2, (x, n) -> x.fact(0, 1, n, false));
        LivesAhead y = desk();
        y.fact(0, 0, -9999, false);
        y.fact(0, 9, 9999, true);
        Check.due("the least", y.known(0, 0, 0), -9999);
        Check.due("the most", y.known(0, 9, 0), 9999);
        Check.sentence("II", "SEALED or not (told of nobody who isn't dead)");
        Check.due("not sealed", y.known(0, 0, 1), 0);
        Check.due("sealed", y.known(0, 9, 1), 1);
        Check.paragraph(y, 0, 1, -1, "{k0} {k9}");
        Check.due("not told of the living", Check.printed(y, 0, 0), "-9999 0");
        Check.rule(y, "kin>0");
        y.report(0, 0, 0);
        y.tell(0);
        Check.due("told of the dead", Check.printed(y, 0, 0), "-9999 9999");
        Check.sentence("II", "CHECKED on a DAY");
        LivesAhead z = desk();
        Check.until(z, 4, 1439);
        z.fact(0, 3, 1, false);
        Check.due("when it is told", z.known(0, 3, 3), 4);
        z.pass(1);
        z.check(0, 3);
        Check.due("when it is checked", z.known(0, 3, 3), 5);
    }

    private static void keepsAndStale() {
        Check.sentence("II", "KEEPS of a KIND: so many DAYS (1 .. 3,650;");
        Check.bounds(PeopleEdges::desk, 1, 3650, 2, (x, n) -> Check.asNumber(x.keeps(0, n)));
        Check.sentence("II", "365 until told");
        LivesAhead x = desk();
        for (int kind = 0; kind < 10; kind++) {
            x.fact(0, kind, 1, false);
        }
        Check.due("none at 365", x.ages(0, 365), 0);
        Check.due("all at 366", x.ages(0, 366), 1023);
        x.keeps(0, 366);
        x.keeps(9, 1);
        Check.due("of its kind alone", x.ages(0, 366), 1022);
        Check.due("of its kind alone", x.ages(0, 2), 512);
        Check.sentence("II", "STALE on a DAY: checked more than KEEPS ahead of it.");
        LivesAhead y = desk();
        y.keeps(1, 3);
        y.keeps(2, 3650);
        y.pass(1439);
        y.fact(0, 1, 1, false);
        y.fact(0, 2, 1, false);
        Check.until(y, 3, 1439);
        Check.due("just as many isn't more", y.known(0, 1, 4), 0);
        Check.due("none of them", y.about(0, 9), 0);
        Check.until(y, 4, 0);
        Check.due("one more is", y.known(0, 1, 4), 1);
        Check.due("one of them", y.about(0, 9), 1);
        y.keeps(1, 4);
        Check.due("by what it keeps now", y.known(0, 1, 4), 0);
        y.keeps(1, 1);
        Check.due("by what it keeps now", y.known(0, 1, 4), 1);
        Check.until(y, 3650, 1439);
        Check.due("3,650 days are kept to the end", y.known(0, 2, 4), 0);
    }

    private static void tellings() {
        LivesAhead x = desk();
        x.person(7, 1, 1, 0);
        Check.sentence("II", "A FACT told anew of a PERSON and KIND is a further TELLING of it, from that DAY on");
        Check.due("the first", x.fact(0, 2, 10, false), 1);
        x.pass(1439);
        x.pass(1);
        Check.due("the second", x.fact(0, 2, 20, true), 2);
        Check.due("of another kind", x.fact(0, 3, 20, true), 1);
        Check.due("of another person", x.fact(1, 2, 20, true), 1);
        Check.due("ahead of that day", x.knownOn(0, 2, 0), 10);
        Check.due("from that day on", x.knownOn(0, 2, 1), 20);
        Check.due("one kind more or less", x.about(0, 8), 2);
        Check.sentence("II", "CHECKED again: with the value as it is.");
        Check.until(x, 5, 0);
        x.check(0, 2);
        Check.due("value", x.known(0, 2, 0), 20);
        Check.due("sealed", x.known(0, 2, 1), 1);
        Check.due("told on", x.known(0, 2, 2), 1);
        Check.due("checked on", x.known(0, 2, 3), 5);
        Check.due("no telling more", x.known(0, 2, 5), 2);
        Check.due("no telling more in all", x.count(3), 4);
        Check.sentence("II", "AS KNOWN on a DAY: the latest TELLING up to then (of one DAY the latest told).");
        x.fact(0, 2, 30, false);
        x.fact(0, 2, 31, false);
        x.fact(0, 2, 32, false);
        Check.due("the day ahead", x.knownOn(0, 2, 4), 20);
        Check.due("of one day the latest", x.knownOn(0, 2, 5), 32);
        Check.due("up to the last day", x.knownOn(0, 2, 3650), 32);
        Check.due("now", x.known(0, 2, 0), 32);
        fullOfTellings();
    }

    private static void fullOfTellings() {
        LivesAhead x = desk();
        Check.sentence("I", "FACTS 240");
        for (int i = 0; i < 240; i++) {
            Check.granted(x, "telling", x.fact(0, i % 7, i, false), i / 7 + 1);
        }
        Check.refused(x, "a further one", x.fact(0, 0, 5, false), 3);
        Check.refused(x, "one of a new kind", x.fact(0, 9, 5, false), 3);
        Check.due("tellings", x.count(3), 240);
        Check.due("it is as it was", x.known(0, 0, 0), 238);
        Check.due("there is none of it", x.known(0, 9, 0), Check.UNKNOWN);
        Check.due("kinds", x.about(0, 8), 7);
        Check.granted(x, "what is there can be checked", x.check(0, 6));
    }

    private static void writers() {
        Check.sentence("2", "A WRITER with HOURS: its number. NONE: 2; 3.");
        Check.bounds(LivesAhead::new, 0, 60, 2, (x, n) -> x.writer(n));
        LivesAhead y = new LivesAhead();
        for (int i = 0; i < 6; i++) {
            Check.granted(y, "its number", y.writer(i * 12), i);
        }
        Check.refused(y, "a number ahead of no room", y.writer(61), 2);
        Check.refused(y, "a number ahead of no room", y.writer(-1), 2);
        Check.refused(y, "no room", y.writer(0), 3);
        Check.sentence("I", "WRITERS 6");
        Check.due("writers", y.count(2), 6);
        Check.granted(y, "the last lives", y.hours(5, 1));
        Check.refused(y, "there is no other", y.hours(6, 1), 1);
        y.bury(0);
        Check.refused(y, "one that died is one of them", y.writer(1), 3);
        Check.due("writers that live", y.count(2), 5);
    }

    private static void hours() {
        Check.sentence("3", "HOURS of a WRITER become these: true;");
        Check.bounds(PeopleEdges::desk, 0, 60, 2, (x, n) -> Check.asNumber(x.hours(1, n)));
        LivesAhead x = desk();
        x.keeps(0, 1);
        x.fact(0, 0, 1, false);
        x.pass(2880);
        x.hours(0, 1);
        Check.due("too few", x.week(0), 0);
        x.hours(0, 2);
        x.hours(1, 0);
        Check.due("just enough", x.week(0), 500);
        x.hours(0, 61);
        Check.due("refused ones change nothing", x.week(0), 500);
        Check.sentence("3", "false: 1 (one that died, too); 2.");
        for (int writer : new int[] {-1, 2, 6, Integer.MIN_VALUE, Integer.MAX_VALUE}) {
            Check.refused(x, "hours of " + writer, x.hours(writer, 5), 1);
        }
        Check.refused(x, "1 ahead of 2", x.hours(2, 61), 1);
        x.bury(1);
        Check.refused(x, "one that died", x.hours(1, 5), 1);
        Check.refused(x, "one that died, and a number", x.hours(1, -1), 1);
    }

    private static void buried() {
        Check.sentence("4", "A WRITER dies: how many stories go to another one.");
        LivesAhead x = new LivesAhead();
        for (int i = 0; i < 4; i++) {
            x.writer(5);
        }
        x.person(1, 1, 1, 0);
        x.person(1, 1, 1, 2);
        x.person(1, 1, 1, 2);
        Check.granted(x, "one without a story", x.bury(1), 0);
        Check.granted(x, "one with two", x.bury(2), 2);
        Check.due("writers that live", x.count(2), 2);
        Check.sentence("VII", "A WRITER that dies leaves its stories to the living one with the fewest"
            + " (of as few the least number).");
        Check.due("to the one with none", x.about(1, 3), 3);
        Check.due("all of them", x.about(2, 3), 3);
        Check.due("others stay", x.about(0, 3), 0);
        heirs();
        Check.sentence("4", "NONE: 1 (died already); 5 (no other one lives).");
        for (int writer : new int[] {-1, 4, Integer.MIN_VALUE, Integer.MAX_VALUE}) {
            Check.refused(x, "bury " + writer, x.bury(writer), 1);
        }
        Check.refused(x, "died already", x.bury(1), 1);
        x.bury(0);
        Check.refused(x, "no other one lives", x.bury(3), 5);
        Check.due("it lives", x.count(2), 1);
        Check.due("its stories stay", x.about(0, 3), 3);
        Check.refused(x, "died already, though no other lives", x.bury(0), 1);
        LivesAhead none = new LivesAhead();
        Check.refused(none, "ahead of any", none.bury(0), 1);
    }

    private static void heirs() {
        LivesAhead y = new LivesAhead();
        for (int i = 0; i < 4; i++) {
            y.writer(5);
            y.person(1, 1, 1, i);
        }
        y.person(1, 1, 1, 0);
        y.bury(3);
        Check.due("of as few the least number", y.about(3, 3), 1);
        y.bury(2);
        Check.due("of as few the least number", y.about(2, 3), 0);
        LivesAhead z = new LivesAhead();
        z.writer(5);
        z.writer(5);
        z.writer(5);
        z.person(1, 1, 1, 0);
        z.person(1, 1, 1, 0);
        z.person(1, 1, 1, 1);
        z.person(1, 1, 1, 2);
        z.person(1, 1, 1, 2);
        Check.granted(z, "the last writer's", z.bury(2), 2);
        Check.due("the fewest isn't the first", z.about(3, 3), 1);
        Check.due("all to one, though it has more then", z.about(4, 3), 1);
        LivesAhead v = new LivesAhead();
        v.writer(5);
        v.writer(5);
        v.writer(5);
        v.person(1, 1, 1, 0);
        v.person(1, 1, 1, 0);
        v.person(1, 1, 1, 1);
        v.person(1, 1, 1, 2);
        Check.rule(v, "kin>0");
        for (int i = 0; i < 4; i++) {
            v.report(i, 0, 0);
        }
        v.tell(0);
        v.tell(1);
        v.tell(3);
        Check.granted(v, "the story of one dead goes too", v.bury(2), 1);
        Check.due("stories of the dead are stories", v.about(3, 3), 1);
    }

    private static void persons() {
        LivesAhead x = deskOf(0);
        Check.sentence("5", "A PERSON: its number. NONE: 1 (WRITER, one that died); 2; 3.");
        for (int writer : new int[] {-1, 1, Integer.MIN_VALUE, Integer.MAX_VALUE}) {
            Check.refused(x, "writer " + writer, x.person(1, 1, 1, writer), 1);
        }
        x.writer(1);
        x.bury(1);
        Check.refused(x, "one that died", x.person(1, 1, 1, 1), 1);
        Check.refused(x, "1 ahead of 2", x.person(100, 0, 0, 1), 1);
        Check.due("nobody came", x.count(0), 0);
        for (int i = 0; i < 30; i++) {
            Check.granted(x, "its number", x.person(5, 10, 1, 0), i);
        }
        Check.refused(x, "1 ahead of 3", x.person(5, 10, 1, 1), 1);
        Check.refused(x, "2 ahead of 3", x.person(100, 10, 1, 0), 2);
        Check.refused(x, "2 ahead of 3", x.person(5, 36501, 1, 0), 2);
        Check.refused(x, "2 ahead of 3", x.person(5, 10, 0, 0), 2);
        Check.refused(x, "3", x.person(5, 10, 1, 0), 3);
    }

    private static void about() {
        LivesAhead x = desk();
        x.person(99, 1, 100, 1);
        x.fact(1, 0, 1, false);
        x.fact(1, 0, 2, false);
        x.fact(1, 9, 1, true);
        x.keeps(9, 1);
        x.peril(1, true);
        Check.paragraph(x, 1, 1, -1, "a");
        Check.paragraph(x, 1, 1, -1, "a");
        Check.until(x, 366, 0);
        Check.sentence("6", "Of a PERSON what 0 NAME, 1 AGE (today; as it died, if DEAD), 2 WORTH, 3 WRITER,"
            + " 4 whether DEAD (1), 5 the DAY of death (-2), 6 in PERIL (1), 7 PARAGRAPHS, 8 FACTS (KINDS),"
            + " 9 STALE ones now. NONE.");
        int[] living = {99, 1, 100, 1, 0, -2, 1, 2, 2, 2};
        for (int what = 0; what < 10; what++) {
            Check.due("of the living " + what, x.about(1, what), living[what]);
        }
        Check.rule(x, "kin>0");
        x.report(1, 363, 0);
        x.tell(1);
        int[] dead = {99, 0, 100, 1, 1, 363, 1, 2, 2, 2};
        for (int what = 0; what < 10; what++) {
            Check.due("of the dead " + what, x.about(1, what), dead[what]);
        }
        x.report(0, 0, 0);
        x.tell(0);
        Check.due("dead since day 0", x.about(0, 5), 0);
        Check.due("dead since day 0", x.about(0, 4), 1);
        for (int what : new int[] {-1, 10, Integer.MIN_VALUE, Integer.MAX_VALUE}) {
            Check.due("what " + what, x.about(1, what), -1);
        }
        for (int person : new int[] {-1, 2, Integer.MIN_VALUE, Integer.MAX_VALUE}) {
            Check.due("of " + person, x.about(person, 0), -1);
        }
    }

    private static void perilAndKeeps() {
        LivesAhead x = desk();
        Check.sentence("7", "A PERSON is in PERIL, or not: true; false (1).");
        Check.granted(x, "in peril", x.peril(0, true));
        Check.granted(x, "in peril again", x.peril(0, true));
        Check.due("it is", x.about(0, 6), 1);
        Check.granted(x, "not in peril", x.peril(0, false));
        Check.due("it isn't", x.about(0, 6), 0);
        for (int person : new int[] {-1, 1, Integer.MIN_VALUE, Integer.MAX_VALUE}) {
            Check.refused(x, "peril of " + person, x.peril(person, true), 1);
        }
        Check.sentence("8", "KEEPS of a KIND: true; false (2).");
        Check.bounds(PeopleEdges::desk, 0, 9, 2, (y, n) -> Check.asNumber(y.keeps(n, 5)));
        Check.bounds(PeopleEdges::desk, 1, 3650, 2, (y, n) -> Check.asNumber(y.keeps(9, n)));
        x.fact(0, 4, 1, false);
        x.keeps(4, 7);
        x.keeps(4, 0);
        x.keeps(4, 3651);
        Check.due("refused ones change nothing", x.ages(0, 7), 0);
        Check.due("refused ones change nothing", x.ages(0, 8), 16);
    }

    private static void factCall() {
        LivesAhead x = desk();
        Check.sentence("9", "A FACT is told (a TELLING more): how many TELLINGS of it there are.");
        Check.granted(x, "the first", x.fact(0, 0, 0, false), 1);
        Check.granted(x, "the same again", x.fact(0, 0, 0, false), 2);
        Check.granted(x, "of another kind", x.fact(0, 1, 0, false), 1);
        Check.due("in all", x.count(3), 3);
        Check.sentence("9", "NONE: 1; 2; 3 (TELLINGS 240 in all).");
        for (int person : new int[] {-1, 1, Integer.MIN_VALUE, Integer.MAX_VALUE}) {
            Check.refused(x, "fact of " + person, x.fact(person, 0, 0, false), 1);
        }
        Check.refused(x, "1 ahead of 2", x.fact(1, 10, 0, false), 1);
        Check.refused(x, "1 ahead of 2", x.fact(1, 0, 10000, false), 1);
        Check.due("none came", x.count(3), 3);
        x.person(1, 1, 1, 0);
        for (int i = 3; i < 240; i++) {
            x.fact(i % 2, i % 10, i, false);
        }
        Check.refused(x, "1 ahead of 3", x.fact(2, 0, 0, false), 1);
        Check.refused(x, "2 ahead of 3", x.fact(0, 10, 0, false), 2);
        Check.refused(x, "2 ahead of 3", x.fact(0, 0, -10000, false), 2);
        Check.refused(x, "3, of whomever", x.fact(0, 0, 0, false), 3);
        Check.refused(x, "3, of whomever", x.fact(1, 0, 0, false), 3);
        Check.due("in all", x.count(3), 240);
    }

    private static void checkCall() {
        LivesAhead x = desk();
        x.fact(0, 9, 5, false);
        x.fact(0, 0, 5, false);
        x.pass(2880);
        Check.sentence("10", "A FACT is CHECKED NOW: true;");
        Check.granted(x, "check", x.check(0, 9));
        Check.due("now", x.known(0, 9, 3), 2);
        Check.due("no other", x.known(0, 0, 3), 0);
        Check.granted(x, "check again", x.check(0, 9));
        Check.sentence("10", "false: 1 (none of the KIND); 2 (KIND).");
        Check.refused(x, "none of the kind", x.check(0, 5), 1);
        Check.bounds(() -> allKinds(), 0, 9, 2, (y, n) -> Check.asNumber(y.check(0, n)));
        for (int person : new int[] {-1, 1, Integer.MIN_VALUE, Integer.MAX_VALUE}) {
            Check.refused(x, "check of " + person, x.check(person, 0), 1);
            Check.refused(x, "1 ahead of 2", x.check(person, 10), 1);
        }
    }

    private static LivesAhead allKinds() {
        LivesAhead x = desk();
        for (int kind = 0; kind < 10; kind++) {
            x.fact(0, kind, 10 * kind, false);
        }
        return x;
    }

    private static void known() {
        LivesAhead x = allKinds();
        Check.until(x, 366, 5);
        x.fact(0, 9, -3, true);
        x.check(0, 8);
        Check.sentence("11", "Of a FACT what 0 value, 1 whether SEALED (1), 2 the DAY of the TELLING,"
            + " 3 the DAY when CHECKED last, 4 whether STALE now (1), 5 TELLINGS; NONE.");
        int[] stale = {0, 0, 0, 0, 1, 1};
        int[] checked = {80, 0, 0, 366, 0, 1};
        int[] told = {-3, 1, 366, 366, 0, 2};
        for (int what = 0; what < 6; what++) {
            Check.due("stale " + what, x.known(0, 0, what), stale[what]);
            Check.due("checked " + what, x.known(0, 8, what), checked[what]);
            Check.due("told anew " + what, x.known(0, 9, what), told[what]);
        }
        for (int what : new int[] {-1, 6, Integer.MIN_VALUE, Integer.MAX_VALUE}) {
            Check.due("what " + what, x.known(0, 0, what), -1);
        }
        Check.sentence("11", "-2^31 for no such one.");
        LivesAhead y = desk();
        y.fact(0, 4, 1, false);
        for (int kind : new int[] {Integer.MIN_VALUE, -1, 0, 3, 5, 9, 10, Integer.MAX_VALUE}) {
            Check.due("kind " + kind, y.known(0, kind, 0), Check.UNKNOWN);
        }
        for (int person : new int[] {Integer.MIN_VALUE, -1, 1, Integer.MAX_VALUE}) {
            Check.due("person " + person, y.known(person, 4, 0), Check.UNKNOWN);
        }
    }

    private static void knownOn() {
        LivesAhead x = desk();
        Check.until(x, 3, 0);
        x.fact(0, 4, 40, true);
        Check.until(x, 6, 0);
        x.fact(0, 4, 41, false);
        Check.sentence("12", "Its value AS KNOWN on a DAY (0 .. 3,650);");
        Check.due("on the first day", x.knownOn(0, 4, 3), 40);
        Check.due("in between", x.knownOn(0, 4, 5), 40);
        Check.due("on the second", x.knownOn(0, 4, 6), 41);
        Check.due("on a day to come", x.knownOn(0, 4, 7), 41);
        Check.due("on the last day", x.knownOn(0, 4, 3650), 41);
        Check.sentence("12", "-2^31 if there was none, for no such one.");
        Check.due("the day ahead", x.knownOn(0, 4, 2), Check.UNKNOWN);
        Check.due("on day 0", x.knownOn(0, 4, 0), Check.UNKNOWN);
        for (int day : new int[] {Integer.MIN_VALUE, -1, 3651, Integer.MAX_VALUE}) {
            Check.due("on day " + day, x.knownOn(0, 4, day), Check.UNKNOWN);
        }
        for (int kind : new int[] {Integer.MIN_VALUE, -1, 3, 5, 10, Integer.MAX_VALUE}) {
            Check.due("kind " + kind, x.knownOn(0, kind, 6), Check.UNKNOWN);
        }
        for (int person : new int[] {Integer.MIN_VALUE, -1, 1, Integer.MAX_VALUE}) {
            Check.due("person " + person, x.knownOn(person, 4, 6), Check.UNKNOWN);
        }
    }

    private static void agesCall() {
        LivesAhead x = desk();
        x.keeps(0, 10);
        x.keeps(9, 20);
        x.fact(0, 0, 1, false);
        x.fact(0, 9, 1, true);
        Check.until(x, 5, 0);
        x.check(0, 0);
        Check.sentence("13", "KINDS of a PERSON's FACTS that will be STALE on a DAY if none is told or CHECKED"
            + " till then, as bits;");
        Check.granted(x, "none yet", x.ages(0, 15), 0);
        Check.granted(x, "the first", x.ages(0, 16), 1);
        Check.granted(x, "the first alone", x.ages(0, 20), 1);
        Check.granted(x, "both", x.ages(0, 21), 513);
        Check.granted(x, "both on the last day", x.ages(0, 3650), 513);
        x.person(1, 1, 1, 0);
        Check.granted(x, "of one without any", x.ages(1, 3650), 0);
        Check.sentence("13", "NONE: 1; 2 (a DAY that is past, beyond 3,650).");
        Check.granted(x, "today isn't past", x.ages(0, 5), 0);
        for (int day : new int[] {Integer.MIN_VALUE, -1, 0, 4, 3651, Integer.MAX_VALUE}) {
            Check.refused(x, "on day " + day, x.ages(0, day), 2);
        }
        for (int person : new int[] {Integer.MIN_VALUE, -1, 2, Integer.MAX_VALUE}) {
            Check.refused(x, "of " + person, x.ages(person, 5), 1);
            Check.refused(x, "1 ahead of 2", x.ages(person, 4), 1);
        }
    }

    private static void alike() {
        LivesAhead x = desk();
        Check.sentence("14", "How many others are ALIKE (of a PERSON's NAME); NONE.");
        Check.due("alone", x.alike(0), 0);
        x.person(8, 1, 1, 0);
        Check.due("another name", x.alike(0), 0);
        x.person(7, 1, 1, 0);
        Check.due("one other", x.alike(0), 1);
        Check.due("one other", x.alike(2), 1);
        Check.due("none", x.alike(1), 0);
        for (int person : new int[] {Integer.MIN_VALUE, -1, 3, Integer.MAX_VALUE}) {
            Check.due("of " + person, x.alike(person), -1);
        }
        Check.due("all of a full desk", deskOf(30).alike(29), 29);
    }

    private static void apart() {
        LivesAhead x = deskOf(2);
        Check.sentence("15", "The least KIND whose values tell two PEOPLE apart (both are known and are others);");
        x.fact(0, 9, -1, true);
        x.fact(1, 9, 1, false);
        Check.due("the last kind", x.apart(0, 1), 9);
        x.fact(0, 0, 3, false);
        Check.due("one of them is known", x.apart(0, 1), 9);
        x.fact(1, 0, 3, false);
        Check.due("they are the same", x.apart(0, 1), 9);
        x.fact(1, 0, 4, false);
        Check.due("the least kind", x.apart(0, 1), 0);
        Check.due("either way", x.apart(1, 0), 0);
        Check.sentence("15", "-2 if there is none; NONE.");
        x.fact(1, 0, 3, false);
        x.fact(1, 9, -1, false);
        Check.due("all are the same", x.apart(0, 1), -2);
        Check.due("one and itself", x.apart(1, 1), -2);
        Check.due("nothing is known", deskOf(2).apart(0, 1), -2);
        for (int person : new int[] {Integer.MIN_VALUE, -1, 2, Integer.MAX_VALUE}) {
            Check.due("first " + person, x.apart(person, 0), -1);
            Check.due("second " + person, x.apart(0, person), -1);
            Check.due("both " + person, x.apart(person, person), -1);
        }
    }

    private static void pass() {
        Check.sentence("48", "So many MINUTES go by (1 .. 100,000): the DAY.");
        Check.bounds(LivesAhead::new, 1, 100000, 2, (x, n) -> x.pass(n));
        LivesAhead y = new LivesAhead();
        Check.granted(y, "the most at once", y.pass(100000), 69);
        Check.due("minute", y.count(11), 640);
        Check.granted(y, "the least", y.pass(1), 69);
        Check.due("minute", y.count(11), 641);
        Check.sentence("48", "NONE: 2 (also beyond DAY 3,650).");
        Check.until(y, 3650, 1430);
        for (int minutes : new int[] {Integer.MIN_VALUE, -1, 0, 10, 11, 100000, 100001, Integer.MAX_VALUE}) {
            Check.refused(y, minutes + " minutes", y.pass(minutes), 2);
            Check.due("the day stays", y.count(10), 3650);
            Check.due("the minute stays", y.count(11), 1430);
        }
        Check.granted(y, "nine are left", y.pass(9), 3650);
    }

    private static void count() {
        Check.sentence("49", "0 PEOPLE, 1 those DEAD, 2 WRITERS that live, 3 TELLINGS, 4 PARAGRAPHS, 5 REPORTS,"
            + " 6 RULES, 7 PICTURES, 8 QUOTES, 9 EDITIONS, 10 the DAY, 11 the MINUTE, 12 bytes of THE TAPE.");
        LivesAhead x = new LivesAhead();
        for (int i = 0; i < 6; i++) {
            x.writer(1);
        }
        for (int i = 0; i < 4; i++) {
            x.person(1, 1, 1, 0);
        }
        x.bury(5);
        Check.rule(x, "kin>0");
        Check.rule(x, "kin>0");
        for (int i = 0; i < 7; i++) {
            x.report(i % 3, 0, 0);
            x.picture(0, 1, 0, 0, 1);
        }
        for (int i = 0; i < 3; i++) {
            x.tell(i);
            Check.paragraph(x, i, 1, -1, "a");
        }
        x.rumour(9, 0, 0, -1, 0, -1, 0, -1, 0);
        x.withdraw(0);
        for (int i = 0; i < 9; i++) {
            x.ask(0, 1);
            x.fact(0, 0, i, false);
        }
        x.fact(1, 0, 1, false);
        x.picture(0, 1, 0, 0, 1);
        x.picture(0, 1, 0, 0, 1);
        for (int i = 0; i < 11; i++) {
            x.edition(0, 1, false);
        }
        x.pass(1440 * 12 + 13);
        x.feed(0, 0, 0, 0, 0);
        int[] want = {4, 3, 5, 10, 3, 8, 2, 9, 9, 11, 12, 13, 20};
        for (int what = 0; what < want.length; what++) {
            Check.due("count " + what, x.count(what), want[what]);
        }
        Check.sentence("49", "NONE for others.");
        for (int what : new int[] {Integer.MIN_VALUE, -1, 13, Integer.MAX_VALUE}) {
            Check.due("count " + what, x.count(what), -1);
        }
    }
}
