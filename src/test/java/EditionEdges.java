/** The sentences on pictures, quotes, embargoes and editions: term VI, promises 34 to 43. */
final class EditionEdges {
    private static final int[] NOT_ONE = {Integer.MIN_VALUE, -1, 2, Integer.MAX_VALUE};

    private EditionEdges() {
    }

    static void run() {
        pictureDays();
        pictureTimes();
        quoteTimes();
        embargoTimes();
        deadAlone();
        pictureChosen();
        pictureFits();
        quotesLaid();
        paragraphsLaid();
        kindsPrinted();
        wrongOnes();
        pictureCall();
        pictureRoom();
        used();
        askCall();
        answerCall();
        embargoCall();
        editionCall();
        editionRoom();
        editionOf();
        wrongCall();
        correctCall();
        said();
    }

    /** Two people; the first is dead since day 0. */
    private static LivesAhead desk() {
        LivesAhead x = new LivesAhead();
        x.writer(10);
        x.person(7, 21900, 50, 0);
        x.person(8, 21900, 20, 0);
        Check.rule(x, "kin > 0");
        x.report(0, 0, 0);
        x.tell(0);
        return x;
    }

    private static LivesAhead deskOn(int day) {
        LivesAhead x = desk();
        Check.until(x, day, 0);
        return x;
    }

    /** What the next edition of the first person has, or its refusal. */
    private static int laid(LivesAhead x, int length, int what) {
        int edition = x.edition(0, length, false);
        return edition < 0 ? edition : x.editionOf(edition, what);
    }

    // ---- term VI

    private static void pictureDays() {
        Check.sentence("VI", "DAYS from one up to another one when they may be printed");
        LivesAhead x = desk();
        x.picture(0, 5, 2, 4, 99);
        x.picture(0, 4, 6, 6, 99);
        int[] want = {-2, -2, 0, 0, 0, -2, 1, -2};
        for (int day = 0; day < want.length; day++) {
            Check.until(x, day, 0);
            Check.due("early on day " + day, laid(x, 200, 4), want[day]);
            Check.until(x, day, 1439);
            Check.due("late on day " + day, laid(x, 200, 4), want[day]);
        }
        LivesAhead y = desk();
        y.picture(0, 1, 0, 0, 1);
        Check.due("day 0", laid(y, 200, 4), 0);
        LivesAhead z = deskOn(3650);
        z.picture(0, 1, 3650, 3650, 1);
        Check.due("day 3,650", laid(z, 200, 4), 0);
    }

    private static void pictureTimes() {
        Check.sentence("VI", "how often at most.");
        LivesAhead x = desk();
        x.picture(0, 5, 0, 9, 1);
        x.picture(0, 4, 0, 9, 2);
        int[] want = {0, 1, 1, -2};
        for (int i = 0; i < want.length; i++) {
            Check.due("edition " + i, laid(x, 200, 4), want[i]);
        }
        Check.due("once", x.used(0), 1);
        Check.due("twice", x.used(1), 2);
        LivesAhead y = desk();
        y.picture(0, 5, 0, 9, 79);
        for (int i = 0; i < 79; i++) {
            laid(y, 200, 4);
        }
        Check.due("79 times", y.used(0), 79);
        Check.due("no more", laid(y, 200, 4), -2);
    }

    private static void quoteTimes() {
        Check.sentence("VI", "QUOTES: asked of somebody for a story NOW,");
        LivesAhead asked = desk();
        asked.ask(0, 10);
        asked.pass(5);
        asked.ask(0, 10);
        asked.ask(1, 10);
        asked.pass(6);
        Check.due("the first came too late", asked.answer(0, 1), 0);
        Check.due("the second was asked later", asked.answer(1, 2), 1);
        Check.due("for another story", asked.answer(2, 4), 1);
        Check.due("for its story alone", laid(asked, 100, 2), 2);
        Check.sentence("VI", "wanted in so many MINUTES (1 .. 1,440)");
        Check.bounds(EditionEdges::desk, 1, 1440, 2, (x, n) -> x.ask(0, n));
        Check.sentence("VI", "answered with so many bytes (1 .. 400) or not");
        Check.bounds(() -> {
            LivesAhead x = desk();
            x.ask(0, 1);
            return x;
        }, 1, 400, 2, (x, n) -> x.answer(0, n));
        Check.sentence("VI", "IN TIME if by then.");
        int[][] cases = {{1, 0, 1}, {1, 1, 1}, {1, 2, 0}, {1440, 1440, 1}, {1440, 1441, 0}, {60, 59, 1}, {60, 61, 0}};
        for (int[] one : cases) {
            LivesAhead x = desk();
            x.pass(1000);
            x.ask(0, one[0]);
            if (one[1] > 0) {
                x.pass(one[1]);
            }
            Check.granted(x, one[1] + " of " + one[0] + " minutes", x.answer(0, 7), one[2]);
            Check.due("in the edition", laid(x, 7, 5), one[2]);
        }
        LivesAhead y = deskOn(3650);
        Check.until(y, 3650, 1439);
        y.ask(0, 1440);
        Check.granted(y, "wanted beyond the last day", y.answer(0, 1), 1);
    }

    private static void embargoTimes() {
        Check.sentence("VI", "EMBARGO of a PERSON: nothing is printed ahead of a DAY and MINUTE.");
        LivesAhead x = desk();
        x.embargo(0, 2, 7);
        Check.refused(x, "far ahead", x.edition(0, 10, false), 5);
        Check.until(x, 1, 1439);
        Check.refused(x, "a later minute of an earlier day", x.edition(0, 10, false), 5);
        Check.until(x, 2, 6);
        Check.refused(x, "a minute ahead", x.edition(0, 10, false), 5);
        Check.until(x, 2, 7);
        Check.granted(x, "just then", x.edition(0, 10, false), 0);
        Check.until(x, 3, 0);
        Check.granted(x, "an earlier minute of a later day", x.edition(0, 10, false), 1);
        x.embargo(0, 3, 1);
        Check.refused(x, "told anew", x.edition(0, 10, false), 5);
        x.embargo(0, 3, 0);
        Check.granted(x, "told anew", x.edition(0, 10, false), 2);
        x.embargo(1, 3650, 1439);
        Check.granted(x, "of another person", x.edition(0, 10, false), 3);
    }

    private static void deadAlone() {
        Check.sentence("VI", "AN EDITION of a DAY: a story of one who is DEAD, CUT to what a length leaves");
        LivesAhead x = deskOn(6);
        x.pass(1439);
        Check.refused(x, "of one who isn't", x.edition(1, 10, false), 5);
        Check.granted(x, "of one who is", x.edition(0, 10, false), 0);
        Check.due("of its day", x.editionOf(0, 1), 6);
        x.pass(1);
        Check.due("of its day still", x.editionOf(0, 1), 6);
        x.report(1, 0, 0);
        x.tell(1);
        Check.granted(x, "of one who is now", x.edition(1, 10, false), 1);
        Check.due("of that day", x.editionOf(1, 1), 7);
    }

    private static void pictureChosen() {
        Check.sentence("VI", "PICTURES of a PERSON: WORTH,");
        LivesAhead two = desk();
        two.picture(1, 2, 0, 9, 9);
        two.picture(0, 1, 0, 9, 9);
        Check.due("of its own, though another's has more worth", laid(two, 200, 4), 1);
        two.picture(0, 2, 0, 9, 9);
        Check.due("of more worth", laid(two, 200, 4), 2);
        Check.sentence("VI", "the PICTURE (of those that may be, the most WORTH, of as good ones the least number;");
        LivesAhead x = desk();
        Check.due("none", laid(x, 200, 4), -2);
        x.picture(1, 100, 0, 9, 9);
        Check.due("none of its own", laid(x, 200, 4), -2);
        x.picture(0, 1, 0, 9, 9);
        Check.due("the only one", laid(x, 200, 4), 1);
        x.picture(0, 7, 0, 9, 9);
        x.picture(0, 7, 0, 9, 9);
        Check.due("of as good ones the least", laid(x, 200, 4), 2);
        x.picture(0, 8, 1, 9, 1);
        Check.due("not one that may not be", laid(x, 200, 4), 2);
        x.pass(1440);
        Check.due("the most worth", laid(x, 200, 4), 4);
        Check.due("one that may not be any more", laid(x, 200, 4), 2);
        Check.due("no other was used", x.used(0) + x.used(3), 0);
    }

    private static void pictureFits() {
        Check.sentence("VI", "200 bytes; if there is one and 200 are left)");
        LivesAhead x = desk();
        x.picture(0, 1, 0, 9, 9);
        Check.paragraph(x, 0, 1, -1, "ab");
        Check.due("199", laid(x, 199, 4), -2);
        Check.due("not printed", x.used(0), 0);
        Check.due("bytes of 199", x.editionOf(0, 2), 2);
        Check.due("200", laid(x, 200, 4), 0);
        Check.due("bytes of 200", x.editionOf(1, 2), 200);
        Check.due("nothing is left", x.editionOf(1, 3), 0);
        Check.due("201", laid(x, 201, 2), 200);
        Check.due("202", laid(x, 202, 2), 202);
        Check.due("no byte ahead of the paragraphs", x.editionOf(3, 3), 1);
        Check.due("printed thrice", x.used(0), 3);
    }

    private static void quotesLaid() {
        Check.sentence("VI", "QUOTES answered IN TIME (each its bytes, by number, up to the first that doesn't fit any"
            + " more)");
        LivesAhead x = desk();
        for (int i = 0; i < 6; i++) {
            x.ask(i == 2 ? 1 : 0, 10);
        }
        x.answer(5, 1);
        x.answer(4, 30);
        x.answer(2, 5);
        x.answer(0, 10);
        x.pass(11);
        x.answer(1, 1);
        int[][] cases = {{1, 0, 0}, {9, 0, 0}, {10, 1, 10}, {11, 1, 10}, {39, 1, 10}, {40, 2, 40}, {41, 3, 41},
            {4000, 3, 41}};
        for (int i = 0; i < cases.length; i++) {
            Check.due("quotes of " + cases[i][0], laid(x, cases[i][0], 5), cases[i][1]);
            Check.due("bytes of " + cases[i][0], x.editionOf(i, 2), cases[i][2]);
        }
        x.picture(0, 1, 0, 0, 99);
        Check.due("the picture first", laid(x, 209, 5), 0);
        Check.due("then the quotes", laid(x, 210, 5), 1);
        Check.due("in all", laid(x, 241, 2), 241);
        LivesAhead y = desk();
        y.ask(0, 1);
        y.answer(0, 400);
        Check.due("the longest of all", laid(y, 400, 2), 400);
        Check.due("a byte too few", laid(y, 399, 5), 0);
        LivesAhead z = desk();
        for (int i = 0; i < 60; i++) {
            z.ask(0, 1);
            z.answer(i, 1);
        }
        Check.due("all sixty", laid(z, 60, 5), 60);
    }

    private static void paragraphsLaid() {
        Check.sentence("VI", "then PARAGRAPHS.");
        LivesAhead x = desk();
        Check.due("of an empty story", laid(x, 4000, 3), 0);
        Check.due("no bytes", x.editionOf(0, 2), 0);
        Check.paragraph(x, 0, 1, -1, "abc");
        Check.paragraph(x, 0, 5, 0, "d{k9}");
        Check.paragraph(x, 0, 2, -1, "ef");
        x.ask(0, 5);
        x.answer(0, 10);
        int[][] cases = {{9, 7, 9}, {10, 0, 10}, {11, 0, 10}, {12, 4, 12}, {15, 4, 12}, {16, 3, 16}, {18, 3, 16},
            {19, 7, 19}};
        for (int i = 0; i < cases.length; i++) {
            Check.due("of " + cases[i][0], laid(x, cases[i][0], 3), cases[i][1]);
            Check.due("bytes of " + cases[i][0], x.editionOf(i + 1, 2), cases[i][2]);
        }
        int without = x.edition(0, 100, true);
        Check.due("without those marked", x.editionOf(without, 3), 5);
        Check.due("bytes without those marked", x.editionOf(without, 2), 16);
        LivesAhead y = desk();
        Check.paragraph(y, 0, 3, -1, "{if not dead:a}");
        y.picture(0, 1, 0, 0, 99);
        Check.due("of no length in what leaves nothing", laid(y, 200, 3), 1);
    }

    private static void kindsPrinted() {
        Check.sentence("VI", "of each KIND that stands in one of its PARAGRAPHS (anywhere in the TEXT) and has a FACT"
            + " that may be told, it PRINTED the value AS KNOWN then.");
        LivesAhead x = desk();
        x.fact(0, 0, 10, true);
        x.fact(0, 1, 11, false);
        x.fact(0, 2, 12, false);
        x.fact(0, 9, 19, false);
        Check.paragraph(x, 0, 5, -1, "{if not dead:{k0}|a}{if has k9:b}");
        Check.paragraph(x, 0, 1, -1, "{if stale k2:c|d}{k3}");
        x.edition(0, 2, false);
        Check.due("of its paragraphs", x.editionOf(0, 6), 513);
        x.edition(0, 100, false);
        Check.due("of both", x.editionOf(1, 6), 517);
        LivesAhead y = desk();
        y.fact(0, 0, 10, false);
        Check.paragraph(y, 0, 5, -1, "a{age}");
        y.edition(0, 100, false);
        Check.due("one that doesn't stand in it", y.editionOf(0, 6), 0);
        Check.due("one that doesn't stand in it", y.said(0, 0), Check.UNKNOWN);
        x.fact(0, 2, 22, false);
        x.fact(0, 3, 23, false);
        Check.due("as known then", x.said(1, 2), 12);
        Check.due("there was none then", x.said(1, 3), Check.UNKNOWN);
        x.edition(0, 100, false);
        Check.due("as known now", x.said(2, 2), 22);
        Check.due("there is one now", x.said(2, 3), 23);
        Check.sentence("VI", "It stands");
        Check.feed(x, "z");
        x.rewrite(0, 0, 1);
        x.keeps(0, 1);
        x.pass(4000);
        int[] stands = {0, 0, 2, 1, -2, 0, 513, 0};
        for (int what = 0; what < 8; what++) {
            Check.due("what " + what, x.editionOf(0, what), stands[what]);
        }
        Check.due("its value", x.said(0, 0), 10);
    }

    private static void wrongOnes() {
        LivesAhead x = desk();
        x.fact(0, 0, 10, false);
        x.fact(0, 9, 19, false);
        Check.paragraph(x, 0, 5, -1, "{k0}{k9}");
        x.edition(0, 100, false);
        Check.sentence("VI", "WRONG: the value is another one NOW than what it PRINTED,");
        Check.due("none", x.wrong(0), 0);
        x.fact(0, 0, 10, true);
        Check.due("told anew with the same value", x.wrong(0), 0);
        x.fact(0, 9, 20, false);
        Check.due("another one", x.wrong(0), 512);
        x.fact(0, 0, -10, false);
        Check.due("both", x.wrong(0), 513);
        x.fact(0, 9, 19, false);
        Check.due("the old one again", x.wrong(0), 1);
        Check.sentence("VI", "or than what its latest correction beside says, if there is one;");
        x.correct(0, 0);
        Check.due("put right", x.wrong(0), 0);
        x.fact(0, 0, 10, false);
        Check.due("what it printed is wrong by the correction", x.wrong(0), 1);
        x.correct(0, 0);
        Check.due("put right", x.wrong(0), 0);
        x.fact(0, 0, -10, false);
        Check.due("what an earlier correction said", x.wrong(0), 1);
        Check.sentence("VI", "a correction says the value as it is NOW.");
        x.fact(0, 0, 77, false);
        x.correct(0, 0);
        Check.due("77 it says", x.wrong(0), 0);
        x.fact(0, 0, 77, false);
        Check.due("77 it is", x.wrong(0), 0);
        x.fact(0, 0, 78, false);
        Check.due("78 it isn't", x.wrong(0), 1);
        Check.due("what was printed stands", x.said(0, 0), 10);
    }

    // ---- promises 34 to 43

    private static void pictureCall() {
        Check.sentence("34", "A PICTURE (WORTH 1 .. 100, DAYS 0 .. 3,650, 1 .. 99 times): its number.");
        Check.bounds(EditionEdges::desk, 1, 100, 2, (x, n) -> x.picture(0, n, 0, 1, 1));
        Check.bounds(EditionEdges::desk, 0, 3650, 2, (x, n) -> x.picture(0, 1, n, 3650, 1));
        Check.bounds(EditionEdges::desk, 0, 3650, 2, (x, n) -> x.picture(0, 1, 0, n, 1));
        Check.bounds(EditionEdges::desk, 5, 3650, 2, (x, n) -> x.picture(0, 1, 5, n, 1));
        Check.bounds(EditionEdges::desk, 0, 5, 2, (x, n) -> x.picture(0, 1, n, 5, 1));
        Check.bounds(EditionEdges::desk, 1, 99, 2, (x, n) -> x.picture(0, 1, 0, 1, n));
        Check.sentence("34", "NONE: 1; 2; 3.");
        LivesAhead x = desk();
        for (int person : NOT_ONE) {
            Check.refused(x, "of " + person, x.picture(person, 1, 0, 1, 1), 1);
            Check.refused(x, "1 ahead of 2", x.picture(person, 0, 0, 1, 1), 1);
        }
        Check.due("none came", x.count(7), 0);
        Check.granted(x, "of the living", x.picture(1, 1, 0, 0, 1), 0);
    }

    private static void pictureRoom() {
        LivesAhead x = desk();
        Check.sentence("I", "PICTURES 40");
        for (int i = 0; i < 40; i++) {
            Check.granted(x, "picture", x.picture(i % 2, 1, 0, 0, 1), i);
        }
        Check.refused(x, "1 ahead of 3", x.picture(2, 1, 0, 0, 1), 1);
        Check.refused(x, "2 ahead of 3", x.picture(0, 1, 1, 0, 1), 2);
        Check.refused(x, "a 41st", x.picture(0, 100, 0, 0, 1), 3);
        Check.due("pictures", x.count(7), 40);
        Check.due("the last", x.used(39), 0);
        Check.due("there is no other", x.used(40), -1);
        Check.due("the 41st isn't printed", laid(x, 200, 4), 0);
    }

    private static void used() {
        LivesAhead x = desk();
        Check.sentence("35", "How often a PICTURE was printed; NONE.");
        Check.due("of none at all", x.used(0), -1);
        x.picture(0, 1, 0, 0, 99);
        x.picture(0, 1, 0, 0, 99);
        Check.due("not yet", x.used(0), 0);
        laid(x, 200, 0);
        laid(x, 200, 0);
        laid(x, 100, 0);
        Check.due("twice", x.used(0), 2);
        Check.due("not the other", x.used(1), 0);
        x.edition(1, 200, false);
        x.edition(0, 0, false);
        Check.due("not by what is refused", x.used(0), 2);
        for (int picture : NOT_ONE) {
            Check.due("of " + picture, x.used(picture), -1);
        }
    }

    private static void askCall() {
        LivesAhead x = desk();
        Check.sentence("36", "A QUOTE is asked for a PERSON's story, wanted in so many MINUTES: its number."
            + " NONE: 1; 2; 3.");
        for (int person : NOT_ONE) {
            Check.refused(x, "of " + person, x.ask(person, 1), 1);
            Check.refused(x, "1 ahead of 2", x.ask(person, 0), 1);
        }
        for (int minutes : new int[] {Integer.MIN_VALUE, -1, 0, 1441, Integer.MAX_VALUE}) {
            Check.refused(x, minutes + " minutes", x.ask(0, minutes), 2);
        }
        Check.due("none came", x.count(8), 0);
        Check.sentence("I", "QUOTES 60");
        for (int i = 0; i < 60; i++) {
            Check.granted(x, "quote", x.ask(i % 2, i + 1), i);
        }
        Check.refused(x, "1 ahead of 3", x.ask(2, 1), 1);
        Check.refused(x, "2 ahead of 3", x.ask(0, 0), 2);
        Check.refused(x, "a 61st", x.ask(0, 1), 3);
        Check.due("quotes", x.count(8), 60);
        Check.granted(x, "the last", x.answer(59, 1), 1);
        Check.refused(x, "there is no other", x.answer(60, 1), 1);
    }

    private static void answerCall() {
        LivesAhead x = desk();
        Check.sentence("37", "A QUOTE is answered NOW: whether IN TIME (1, 0). NONE: 1; 2; 5.");
        Check.refused(x, "of none at all", x.answer(0, 1), 1);
        x.ask(0, 5);
        x.ask(1, 5);
        for (int quote : NOT_ONE) {
            Check.refused(x, "quote " + quote, x.answer(quote, 1), 1);
            Check.refused(x, "1 ahead of 2", x.answer(quote, 0), 1);
        }
        for (int bytes : new int[] {Integer.MIN_VALUE, -1, 0, 401, Integer.MAX_VALUE}) {
            Check.refused(x, bytes + " bytes", x.answer(0, bytes), 2);
        }
        Check.granted(x, "in time", x.answer(0, 400), 1);
        Check.refused(x, "answered already", x.answer(0, 1), 5);
        Check.refused(x, "2 ahead of 5", x.answer(0, 401), 2);
        x.pass(6);
        Check.granted(x, "too late", x.answer(1, 1), 0);
        Check.refused(x, "answered already, though too late", x.answer(1, 1), 5);
        Check.due("as answered first", laid(x, 400, 2), 400);
    }

    private static void embargoCall() {
        Check.sentence("38", "EMBARGO of a PERSON: true; false: 1; 2.");
        Check.bounds(EditionEdges::desk, 0, 3650, 2, (x, n) -> Check.asNumber(x.embargo(0, n, 0)));
        Check.bounds(EditionEdges::desk, 0, 1439, 2, (x, n) -> Check.asNumber(x.embargo(0, 0, n)));
        LivesAhead x = deskOn(3);
        for (int person : NOT_ONE) {
            Check.refused(x, "of " + person, x.embargo(person, 0, 0), 1);
            Check.refused(x, "1 ahead of 2", x.embargo(person, 3651, 1440), 1);
        }
        Check.granted(x, "of a time that is past", x.embargo(0, 0, 0));
        Check.refused(x, "a number", x.embargo(0, 3651, 0), 2);
        Check.refused(x, "a number", x.embargo(0, 3650, 1440), 2);
        Check.granted(x, "refused ones change nothing", x.edition(0, 1, false), 0);
        Check.granted(x, "of the living", x.embargo(1, 3650, 1439));
        x.report(1, 0, 0);
        x.tell(1);
        Check.refused(x, "who is dead now", x.edition(1, 1, false), 5);
        Check.until(x, 3650, 1438);
        Check.refused(x, "the last minute but one", x.edition(1, 1, false), 5);
        x.pass(1);
        Check.granted(x, "the last minute of all", x.edition(1, 1, false), 1);
    }

    private static void editionCall() {
        Check.sentence("39", "AN EDITION today with a length for a PERSON's story (1 .. 4,000; with MARKED PARAGRAPHS,"
            + " or without): its number.");
        Check.bounds(EditionEdges::desk, 1, 4000, 2, (x, n) -> x.edition(0, n, false));
        Check.bounds(EditionEdges::desk, 1, 4000, 2, (x, n) -> x.edition(0, n, true));
        LivesAhead x = desk();
        Check.paragraph(x, 0, 1, -1, "{k0}");
        x.edition(0, 1, false);
        Check.due("with marked ones", x.editionOf(0, 3), 1);
        x.edition(0, 1, true);
        Check.due("without them", x.editionOf(1, 3), 0);
        Check.sentence("39", "NONE: 1; 2; 5 (not DEAD, EMBARGO); 3.");
        for (int person : NOT_ONE) {
            Check.refused(x, "of " + person, x.edition(person, 1, false), 1);
            Check.refused(x, "1 ahead of 2", x.edition(person, 0, false), 1);
        }
        Check.refused(x, "not dead", x.edition(1, 1, false), 5);
        Check.refused(x, "2 ahead of 5", x.edition(1, 0, false), 2);
        Check.refused(x, "2 ahead of 5", x.edition(1, 4001, false), 2);
        x.embargo(0, 0, 1);
        Check.refused(x, "embargo", x.edition(0, 1, false), 5);
        Check.refused(x, "2 ahead of 5", x.edition(0, 4001, false), 2);
        Check.due("editions", x.count(9), 2);
    }

    private static void editionRoom() {
        LivesAhead x = desk();
        x.picture(0, 1, 0, 0, 99);
        Check.sentence("I", "EDITIONS 80");
        for (int i = 0; i < 80; i++) {
            Check.granted(x, "edition", x.edition(0, i + 1, false), i);
        }
        Check.refused(x, "1 ahead of 3", x.edition(2, 1, false), 1);
        Check.refused(x, "2 ahead of 3", x.edition(0, 0, false), 2);
        Check.refused(x, "5 ahead of 3", x.edition(1, 1, false), 5);
        Check.refused(x, "an 81st", x.edition(0, 400, false), 3);
        Check.due("its picture isn't printed", x.used(0), 0);
        Check.due("editions", x.count(9), 80);
        Check.due("the last", x.editionOf(79, 0), 0);
        Check.due("there is no other", x.editionOf(80, 0), -1);
        x.embargo(0, 1, 0);
        Check.refused(x, "5 ahead of 3", x.edition(0, 1, false), 5);
    }

    private static void editionOf() {
        LivesAhead x = deskOn(3);
        x.report(1, 1, 0);
        x.tell(1);
        x.fact(1, 0, 5, false);
        x.picture(0, 1, 0, 9, 9);
        x.picture(1, 1, 0, 9, 9);
        x.ask(1, 1);
        x.ask(1, 1);
        x.answer(0, 10);
        x.answer(1, 10);
        Check.paragraph(x, 1, 9, -1, "{k0}");
        Check.paragraph(x, 1, 9, -1, "ab");
        x.edition(0, 1, false);
        x.edition(1, 4000, false);
        x.fact(1, 0, 6, false);
        x.correct(1, 0);
        x.fact(1, 0, 5, false);
        x.correct(1, 0);
        Check.sentence("40", "Of an EDITION what 0 PERSON, 1 DAY, 2 bytes in all, 3 PARAGRAPHS as bits,"
            + " 4 the PICTURE (-2), 5 QUOTES in it, 6 KINDS that it PRINTED as bits, 7 corrections beside. NONE.");
        int[] none = {0, 3, 0, 0, -2, 0, 0, 0};
        int[] full = {1, 3, 224, 3, 1, 2, 1, 2};
        for (int what = 0; what < 8; what++) {
            Check.due("of nothing, what " + what, x.editionOf(0, what), none[what]);
            Check.due("of all, what " + what, x.editionOf(1, what), full[what]);
        }
        for (int what : new int[] {Integer.MIN_VALUE, -1, 8, Integer.MAX_VALUE}) {
            Check.due("what " + what, x.editionOf(0, what), -1);
        }
        for (int edition : NOT_ONE) {
            Check.due("edition " + edition, x.editionOf(edition, 0), -1);
        }
    }

    /** A desk with an edition that printed kinds 0 and 9. */
    private static LivesAhead printed() {
        LivesAhead x = desk();
        x.fact(0, 0, 10, false);
        x.fact(0, 9, -9999, false);
        x.fact(0, 5, 5, false);
        Check.paragraph(x, 0, 5, -1, "{k0}{k9}{k1}");
        x.edition(0, 100, false);
        return x;
    }

    private static void wrongCall() {
        LivesAhead x = printed();
        Check.sentence("41", "KINDS that are WRONG in an EDITION now, as bits; NONE.");
        Check.due("none", x.wrong(0), 0);
        x.fact(0, 5, 6, false);
        x.fact(0, 1, 6, false);
        Check.due("what it didn't print", x.wrong(0), 0);
        x.fact(0, 9, 9999, false);
        Check.due("one", x.wrong(0), 512);
        x.fact(1, 0, 11, false);
        Check.due("of its person alone", x.wrong(0), 512);
        x.fact(0, 0, 11, false);
        Check.due("both", x.wrong(0), 513);
        for (int edition : new int[] {Integer.MIN_VALUE, -1, 1, Integer.MAX_VALUE}) {
            Check.due("edition " + edition, x.wrong(edition), -1);
        }
    }

    private static void correctCall() {
        LivesAhead x = printed();
        x.edition(0, 100, false);
        x.fact(0, 9, 9999, false);
        x.fact(0, 5, 6, false);
        Check.sentence("42", "A correction of a KIND is printed beside an EDITION: true;");
        Check.granted(x, "correct", x.correct(0, 9));
        Check.due("beside it", x.editionOf(0, 7), 1);
        Check.due("beside no other", x.editionOf(1, 7), 0);
        Check.due("the other is wrong on", x.wrong(1), 512);
        Check.sentence("42", "false: 1 (EDITION; a KIND that it didn't PRINT); 5 (not WRONG).");
        Check.refused(x, "not wrong any more", x.correct(0, 9), 5);
        Check.refused(x, "never wrong", x.correct(0, 0), 5);
        for (int edition : NOT_ONE) {
            Check.refused(x, "edition " + edition, x.correct(edition, 9), 1);
        }
        for (int kind : new int[] {Integer.MIN_VALUE, -1, 1, 5, 10, 32, 41, Integer.MAX_VALUE}) {
            Check.refused(x, "kind " + kind, x.correct(1, kind), 1);
        }
        Check.due("none more beside it", x.editionOf(0, 7), 1);
        Check.due("none beside the other", x.editionOf(1, 7), 0);
    }

    private static void said() {
        LivesAhead x = printed();
        x.fact(0, 0, 11, false);
        x.correct(0, 0);
        Check.sentence("43", "What an EDITION PRINTED as the value of a KIND;");
        Check.due("whatever was put right", x.said(0, 0), 10);
        Check.due("the least", x.said(0, 9), -9999);
        Check.sentence("43", "-2^31 if it did none.");
        for (int kind : new int[] {Integer.MIN_VALUE, -1, 1, 5, 10, 32, 41, Integer.MAX_VALUE}) {
            Check.due("kind " + kind, x.said(0, kind), Check.UNKNOWN);
        }
        for (int edition : new int[] {Integer.MIN_VALUE, -1, 1, Integer.MAX_VALUE}) {
            Check.due("edition " + edition, x.said(edition, 0), Check.UNKNOWN);
        }
    }
}
