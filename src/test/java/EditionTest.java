/** Promises 34 to 43: pictures, quotes, embargoes, editions and what is put right beside them. */
public final class EditionTest {
    public static void main(String[] args) {
        pictures();
        quotes();
        embargoes();
        refusals();
        layout();
        pictureChoice();
        quotesThatFit();
        paragraphsThatFit();
        kindsPrinted();
        corrections();
        room();
        Check.end("EditionTest");
    }

    private static LivesAhead desk() {
        LivesAhead x = new LivesAhead();
        x.writer(10);
        x.person(7, 21900, 50, 0);
        x.person(8, 21900, 20, 0);
        Check.rule(x, "kin > 0");
        return x;
    }

    private static LivesAhead deadDesk() {
        LivesAhead x = desk();
        x.report(0, 0, 0);
        x.tell(0);
        return x;
    }

    private static void pictures() {
        LivesAhead x = desk();
        Check.refused(x, "nobody", x.picture(2, 0, 0, 0, 0), 1);
        int[][] bad = {{0, 0, 1, 1}, {101, 0, 1, 1}, {1, -1, 1, 1}, {1, 0, 3651, 1}, {1, 3651, 3651, 1},
            {1, 5, 4, 1}, {1, 0, 1, 0}, {1, 0, 1, 100}};
        for (int[] b : bad) {
            Check.refused(x, "picture", x.picture(0, b[0], b[1], b[2], b[3]), 2);
        }
        Check.granted(x, "the least", x.picture(0, 1, 0, 0, 1), 0);
        Check.granted(x, "the most", x.picture(0, 100, 3650, 3650, 99), 1);
        Check.due("not used", x.used(0), 0);
        Check.due("none", x.used(2), -1);
        Check.due("none", x.used(-1), -1);
        for (int i = 2; i < 40; i++) {
            Check.granted(x, "picture", x.picture(1, 1, 0, 0, 1), i);
        }
        Check.refused(x, "a bad number ahead of no room", x.picture(0, 0, 0, 0, 1), 2);
        Check.refused(x, "a 41st", x.picture(0, 1, 0, 0, 1), 3);
        Check.due("pictures", x.count(7), 40);
    }

    private static void quotes() {
        LivesAhead x = desk();
        Check.refused(x, "nobody", x.ask(2, 0), 1);
        Check.refused(x, "minutes", x.ask(0, 0), 2);
        Check.refused(x, "minutes", x.ask(0, 1441), 2);
        Check.granted(x, "ask", x.ask(0, 1), 0);
        Check.granted(x, "ask", x.ask(0, 1), 1);
        Check.granted(x, "ask", x.ask(0, 1440), 2);
        Check.refused(x, "none", x.answer(3, 0), 1);
        Check.refused(x, "none", x.answer(-1, 1), 1);
        Check.refused(x, "bytes", x.answer(0, 0), 2);
        Check.refused(x, "bytes", x.answer(0, 401), 2);
        x.pass(1);
        Check.granted(x, "by then", x.answer(0, 400), 1);
        x.pass(1);
        Check.granted(x, "behind it", x.answer(1, 1), 0);
        Check.refused(x, "answered", x.answer(1, 1), 5);
        Check.refused(x, "a bad number first", x.answer(1, 0), 2);
        for (int i = 3; i < 60; i++) {
            Check.granted(x, "ask", x.ask(1, 5), i);
        }
        Check.refused(x, "a bad number ahead of no room", x.ask(0, 0), 2);
        Check.refused(x, "a 61st", x.ask(0, 5), 3);
        Check.due("quotes", x.count(8), 60);
    }

    private static void embargoes() {
        LivesAhead x = deadDesk();
        Check.refused(x, "nobody", x.embargo(2, -1, 0), 1);
        int[][] bad = {{-1, 0}, {3651, 0}, {0, -1}, {0, 1440}};
        for (int[] b : bad) {
            Check.refused(x, "embargo", x.embargo(0, b[0], b[1]), 2);
        }
        Check.granted(x, "embargo", x.embargo(0, 3650, 1439));
        Check.refused(x, "ahead of it", x.edition(0, 10, false), 5);
        Check.granted(x, "embargo", x.embargo(0, 1, 10));
        x.pass(1449);
        Check.refused(x, "a minute ahead", x.edition(0, 10, false), 5);
        x.pass(1);
        Check.granted(x, "at it", x.edition(0, 10, false), 0);
        Check.granted(x, "of a time gone by", x.embargo(0, 0, 0));
        Check.granted(x, "behind it", x.edition(0, 10, false), 1);
    }

    private static void refusals() {
        LivesAhead x = desk();
        Check.refused(x, "nobody", x.edition(2, 0, false), 1);
        Check.refused(x, "length", x.edition(0, 0, false), 2);
        Check.refused(x, "length", x.edition(0, 4001, false), 2);
        Check.refused(x, "not dead", x.edition(0, 10, false), 5);
        Check.due("none", x.editionOf(0, 0), -1);
        Check.due("none", x.wrong(0), -1);
        Check.due("none", x.said(0, 0), Check.UNKNOWN);
        Check.refused(x, "none", x.correct(0, 0), 1);
        Check.due("editions", x.count(9), 0);
    }

    private static void editionIs(LivesAhead x, int edition, int... want) {
        for (int what = 0; what < want.length; what++) {
            Check.due("edition " + edition + " what " + what, x.editionOf(edition, what), want[what]);
        }
    }

    private static void layout() {
        LivesAhead x = deadDesk();
        x.pass(3000);
        x.cut(0, 4, false);
        Check.granted(x, "of nothing", x.edition(0, 1, false), 0);
        editionIs(x, 0, 0, 2, 0, 0, -2, 0, 0, 0, -1);
        Check.due("below", x.editionOf(0, -1), -1);
        x.fact(0, 4, 11, true);
        Check.paragraph(x, 0, 5, -1, "ab{k4}");
        Check.paragraph(x, 0, 5, 0, "cd{k5}");
        x.picture(0, 5, 2, 2, 1);
        x.ask(0, 10);
        x.answer(0, 30);
        Check.granted(x, "whole", x.edition(0, 4000, false), 1);
        editionIs(x, 1, 0, 2, 238, 3, 0, 1, 16, 0, -1);
        Check.due("used", x.used(0), 1);
        Check.due("cut() alone tells cutOf", x.cutOf(), 0);
        Check.granted(x, "without marked", x.edition(0, 4000, true), 2);
        editionIs(x, 2, 0, 2, 34, 1, -2, 1, 16, 0, -1);
        Check.due("the first stands", x.editionOf(1, 2), 238);
        Check.feed(x, "z");
        x.rewrite(0, 0, 1);
        editionIs(x, 1, 0, 2, 238, 3, 0, 1, 16, 0, -1);
        Check.due("it said", x.said(1, 4), 11);
        Check.due("it did not", x.said(1, 5), Check.UNKNOWN);
        Check.due("no kind", x.said(1, 10), Check.UNKNOWN);
        Check.due("no kind", x.said(1, -1), Check.UNKNOWN);
    }

    private static void pictureChoice() {
        LivesAhead x = deadDesk();
        x.picture(1, 100, 0, 3650, 99);
        x.picture(0, 5, 0, 3650, 99);
        x.picture(0, 9, 1, 2, 2);
        x.picture(0, 9, 1, 2, 99);
        x.edition(0, 199, false);
        Check.due("200 are not left", x.editionOf(0, 4), -2);
        x.edition(0, 200, false);
        Check.due("of those that may be", x.editionOf(1, 4), 1);
        Check.due("bytes", x.editionOf(1, 2), 200);
        x.pass(1440);
        x.edition(0, 200, false);
        x.edition(0, 200, false);
        x.edition(0, 200, false);
        Check.due("the most worth, the least number", x.editionOf(2, 4), 2);
        Check.due("twice", x.editionOf(3, 4), 2);
        Check.due("used up", x.editionOf(4, 4), 3);
        Check.due("used", x.used(2), 2);
        x.pass(1440);
        x.edition(0, 200, false);
        Check.due("the last day counts", x.editionOf(5, 4), 3);
        x.pass(1440);
        x.edition(0, 200, false);
        Check.due("behind the last day", x.editionOf(6, 4), 1);
        Check.due("none of another person", x.used(0), 0);
    }

    private static void quotesThatFit() {
        LivesAhead x = deadDesk();
        x.ask(0, 5);
        x.ask(1, 5);
        x.ask(0, 5);
        x.ask(0, 5);
        x.ask(0, 5);
        x.ask(0, 5);
        x.answer(1, 7);
        x.answer(4, 20);
        x.answer(5, 1);
        x.answer(0, 10);
        x.pass(6);
        x.answer(2, 1);
        x.edition(0, 31, false);
        Check.due("those in time", x.editionOf(0, 5), 3);
        Check.due("bytes", x.editionOf(0, 2), 31);
        x.edition(0, 29, false);
        Check.due("up to the first that doesn't fit", x.editionOf(1, 5), 1);
        Check.due("bytes", x.editionOf(1, 2), 10);
        x.edition(0, 9, false);
        Check.due("none fits", x.editionOf(2, 5), 0);
    }

    private static void paragraphsThatFit() {
        LivesAhead x = deadDesk();
        Check.paragraph(x, 0, 5, -1, "abcd");
        Check.paragraph(x, 0, 6, -1, "ef");
        x.ask(0, 5);
        x.answer(0, 10);
        x.edition(0, 17, false);
        Check.due("all fit", x.editionOf(0, 3), 3);
        Check.due("no byte behind the quotes", x.editionOf(0, 2), 17);
        x.edition(0, 16, false);
        Check.due("one fits", x.editionOf(1, 3), 2);
        Check.due("bytes", x.editionOf(1, 2), 12);
        x.edition(0, 10, false);
        Check.due("nothing is left", x.editionOf(2, 3), 0);
        x.edition(0, 9, false);
        Check.due("the quote doesn't fit", x.editionOf(3, 3), 3);
    }

    private static void kindsPrinted() {
        LivesAhead x = deadDesk();
        x.fact(0, 0, 1, false);
        x.fact(0, 1, 2, true);
        x.fact(0, 2, 3, false);
        x.fact(0, 3, 4, false);
        Check.paragraph(x, 0, 1, -1, "{if dead:x|{k0}}{if has k1:y}{if stale k9:z}");
        Check.paragraph(x, 0, 9, -1, "{k2}");
        x.edition(0, 4000, false);
        Check.due("anywhere in the text", x.editionOf(0, 6), 7);
        x.edition(0, 1, false);
        Check.due("of its paragraphs", x.editionOf(1, 6), 4);
        Check.due("said", x.said(0, 1), 2);
        Check.due("not said", x.said(1, 1), Check.UNKNOWN);
        x.fact(0, 9, 3, false);
        Check.due("not known then", x.editionOf(0, 6), 7);
        Check.due("not wrong", x.wrong(0), 0);
    }

    private static void corrections() {
        LivesAhead x = deadDesk();
        x.fact(0, 1, 5, false);
        x.fact(0, 2, 5, false);
        Check.paragraph(x, 0, 1, -1, "{k1}{k2}");
        x.edition(0, 100, false);
        x.edition(0, 100, false);
        Check.refused(x, "not wrong", x.correct(0, 1), 5);
        Check.refused(x, "a kind that it didn't print", x.correct(0, 3), 1);
        Check.refused(x, "no kind", x.correct(0, 10), 1);
        Check.refused(x, "no kind", x.correct(0, -1), 1);
        Check.refused(x, "no edition", x.correct(2, 1), 1);
        x.fact(0, 1, 6, false);
        x.fact(0, 2, 7, false);
        Check.due("wrong", x.wrong(0), 6);
        Check.granted(x, "correct", x.correct(0, 1));
        Check.due("one is left", x.wrong(0), 4);
        Check.due("the other edition is", x.wrong(1), 6);
        Check.due("it said", x.said(0, 1), 5);
        Check.due("beside", x.editionOf(0, 7), 1);
        Check.due("beside the other", x.editionOf(1, 7), 0);
        x.fact(0, 1, 5, false);
        Check.due("wrong by the correction", x.wrong(0), 6);
        Check.due("right again", x.wrong(1), 4);
        Check.granted(x, "correct", x.correct(0, 1));
        Check.granted(x, "correct", x.correct(0, 2));
        Check.due("all right", x.wrong(0), 0);
        Check.due("beside", x.editionOf(0, 7), 3);
        Check.refused(x, "not wrong", x.correct(0, 1), 5);
        x.fact(0, 1, 5, true);
        Check.due("the same value", x.wrong(0), 0);
        x.fact(0, 0, 5, false);
        x.fact(0, 9, 5, false);
        Check.paragraph(x, 0, 1, -1, "{k0}{k9}");
        x.edition(0, 100, false);
        x.fact(0, 0, 6, false);
        x.fact(0, 9, 6, false);
        Check.due("of every kind", x.wrong(2), 513);
    }

    private static void room() {
        LivesAhead x = deadDesk();
        for (int i = 0; i < 80; i++) {
            Check.granted(x, "edition", x.edition(0, 1, false), i);
        }
        Check.refused(x, "a bad number ahead of no room", x.edition(0, 0, false), 2);
        Check.refused(x, "not dead ahead of no room", x.edition(1, 1, false), 5);
        Check.refused(x, "an 81st", x.edition(0, 1, false), 3);
        Check.due("editions", x.count(9), 80);
    }
}
