/** Promises 1 to 15, 48 to 50: writers, people, facts, the clock. */
public final class PeopleTest {
    public static void main(String[] args) {
        newObject();
        writersAndHours();
        buriedWriters();
        peopleAndAbout();
        tellings();
        staleFacts();
        alikeAndApart();
        time();
        troubleStays();
        Check.end("PeopleTest");
    }

    private static void newObject() {
        LivesAhead x = new LivesAhead();
        for (int what = 0; what <= 12; what++) {
            Check.due("new: count " + what, x.count(what), 0);
        }
        Check.due("count 13", x.count(13), -1);
        Check.due("count -1", x.count(-1), -1);
        Check.due("new: trouble", x.trouble(), 0);
        Check.due("new: fault", x.fault(), 0);
        Check.due("new: where", x.where(), -1);
        Check.due("new: cutOf", x.cutOf(), -1);
        Check.due("new: cutLong", x.cutLong(), -1);
        Check.due("new: takes", x.takes(), -1);
        Check.due("new: fresh", x.fresh(0), -1);
        Check.due("new: freshen", x.freshen(), 0);
        Check.due("new: out", Check.outThrows(x, 0), true);
        Check.due("new: about", x.about(0, 0), -1);
    }

    private static void writersAndHours() {
        LivesAhead x = new LivesAhead();
        Check.refused(x, "hours below", x.writer(-1), 2);
        Check.refused(x, "hours above", x.writer(61), 2);
        Check.granted(x, "no hours", x.writer(0), 0);
        for (int i = 1; i < 6; i++) {
            Check.granted(x, "writer", x.writer(60), i);
        }
        Check.refused(x, "a bad number ahead of no room", x.writer(61), 2);
        Check.refused(x, "a seventh", x.writer(1), 3);
        Check.refused(x, "hours of none", x.hours(6, 99), 1);
        Check.refused(x, "hours of none", x.hours(-1, 5), 1);
        Check.refused(x, "bad hours", x.hours(0, 61), 2);
        Check.granted(x, "hours", x.hours(0, 60));
        x.bury(3);
        Check.refused(x, "hours of one that died", x.hours(3, 1), 1);
        Check.due("writers that live", x.count(2), 5);
        Check.refused(x, "one that died keeps its number", x.writer(1), 3);
    }

    private static void buriedWriters() {
        LivesAhead x = new LivesAhead();
        Check.refused(x, "bury none", x.bury(0), 1);
        x.writer(5);
        Check.refused(x, "bury the only one", x.bury(0), 5);
        x.writer(5);
        x.writer(5);
        x.writer(5);
        int[] of = {0, 0, 1, 2, 3, 3};
        for (int i = 0; i < of.length; i++) {
            x.person(i, 10, 1, of[i]);
        }
        Check.granted(x, "of as few the least number", x.bury(0), 2);
        Check.due("heir", x.about(0, 3), 1);
        Check.due("heir", x.about(1, 3), 1);
        Check.granted(x, "the fewest", x.bury(3), 2);
        Check.due("heir of 3", x.about(4, 3), 2);
        Check.granted(x, "all of them go to one", x.bury(1), 3);
        Check.due("heir of 1", x.about(0, 3), 2);
        Check.refused(x, "buried already", x.bury(1), 1);
        Check.refused(x, "the last", x.bury(2), 5);
        x.writer(1);
        Check.granted(x, "with another one", x.bury(2), 6);
        Check.due("all go on", x.about(5, 3), 4);
        LivesAhead y = new LivesAhead();
        y.writer(1);
        y.writer(1);
        y.writer(1);
        y.person(1, 1, 1, 0);
        y.person(1, 1, 1, 2);
        Check.granted(y, "to one without any", y.bury(2), 1);
        Check.due("the first person's writer has one", y.about(1, 3), 1);
    }

    private static void peopleAndAbout() {
        LivesAhead x = new LivesAhead();
        Check.refused(x, "no writer is told first", x.person(100, 0, 0, 0), 1);
        x.writer(1);
        x.writer(1);
        int[][] bad = {{-1, 1, 1}, {100, 1, 1}, {0, 0, 1}, {0, 36501, 1}, {0, 1, 0}, {0, 1, 101}};
        for (int[] b : bad) {
            Check.refused(x, "person", x.person(b[0], b[1], b[2], 0), 2);
        }
        Check.granted(x, "the least", x.person(0, 1, 1, 0), 0);
        Check.granted(x, "the most", x.person(99, 36500, 100, 1), 1);
        int[] least = {0, 0, 1, 0, 0, -2, 0, 0, 0, 0, -1};
        int[] most = {99, 100, 100, 1, 0, -2, 0, 0, 0, 0, -1};
        for (int what = 0; what < least.length; what++) {
            Check.due("about least " + what, x.about(0, what), least[what]);
            Check.due("about most " + what, x.about(1, what), most[what]);
        }
        Check.due("about none", x.about(2, 0), -1);
        Check.due("about below", x.about(0, -1), -1);
        Check.granted(x, "peril", x.peril(1, true));
        Check.due("in peril", x.about(1, 6), 1);
        Check.granted(x, "no peril", x.peril(1, false));
        Check.due("not in peril", x.about(1, 6), 0);
        Check.refused(x, "peril of none", x.peril(2, true), 1);
        for (int i = 2; i < 30; i++) {
            Check.granted(x, "person", x.person(3, 10, 1, 0), i);
        }
        Check.refused(x, "a bad number ahead of no room", x.person(3, 0, 1, 0), 2);
        Check.refused(x, "a 31st", x.person(3, 10, 1, 0), 3);
        Check.due("people", x.count(0), 30);
        x.pass(1440 * 60);
        x.pass(1440 * 60);
        x.pass(1440 * 60);
        x.pass(1440 * 60);
        x.pass(1440 * 60);
        x.pass(1440 * 60);
        x.pass(1440 * 4);
        Check.due("a year old on day 364", x.about(0, 1), 1);
        Check.due("on day 364", x.about(1, 1), 100);
        x.pass(1440);
        Check.due("on day 365", x.about(1, 1), 101);
    }

    private static void tellings() {
        LivesAhead x = new LivesAhead();
        Check.refused(x, "fact of nobody", x.fact(0, 10, 0, false), 1);
        x.writer(1);
        x.person(1, 1, 1, 0);
        int[][] bad = {{-1, 0}, {10, 0}, {0, -10000}, {0, 10000}};
        for (int[] b : bad) {
            Check.refused(x, "fact", x.fact(0, b[0], b[1], false), 2);
        }
        Check.granted(x, "first telling", x.fact(0, 4, -9999, true), 1);
        Check.granted(x, "second of one day", x.fact(0, 4, 9999, false), 2);
        Check.granted(x, "of another kind", x.fact(0, 9, 1, false), 1);
        int[] want = {9999, 0, 0, 0, 0, 2, -1};
        for (int what = 0; what < want.length; what++) {
            Check.due("known " + what, x.known(0, 4, what), want[what]);
        }
        Check.due("known below", x.known(0, 4, -1), -1);
        Check.due("known of no fact", x.known(0, 5, 0), Check.UNKNOWN);
        Check.due("known of no kind", x.known(0, 10, 0), Check.UNKNOWN);
        Check.due("known of nobody", x.known(1, 4, 0), Check.UNKNOWN);
        x.pass(1440 * 5);
        Check.granted(x, "third", x.fact(0, 4, 7, true), 3);
        Check.due("sealed", x.known(0, 4, 1), 1);
        Check.due("day told", x.known(0, 4, 2), 5);
        Check.due("day checked", x.known(0, 4, 3), 5);
        Check.due("known on 0: the latest told", x.knownOn(0, 4, 0), 9999);
        Check.due("known on 4", x.knownOn(0, 4, 4), 9999);
        Check.due("known on 5", x.knownOn(0, 4, 5), 7);
        Check.due("known on the last day", x.knownOn(0, 4, 3650), 7);
        Check.due("known beyond", x.knownOn(0, 4, 3651), Check.UNKNOWN);
        Check.due("known below", x.knownOn(0, 4, -1), Check.UNKNOWN);
        x.fact(0, 5, 3, false);
        Check.due("not known yet", x.knownOn(0, 5, 4), Check.UNKNOWN);
        Check.due("facts", x.about(0, 8), 3);
        for (int i = x.count(3); i < 240; i++) {
            x.fact(0, 4, i, false);
        }
        Check.due("tellings", x.count(3), 240);
        Check.refused(x, "a bad number ahead of no room", x.fact(0, 10, 1, false), 2);
        Check.refused(x, "a 241st", x.fact(0, 1, 1, false), 3);
        Check.due("still none", x.known(0, 1, 0), Check.UNKNOWN);
    }

    private static void staleFacts() {
        LivesAhead x = new LivesAhead();
        x.writer(1);
        x.person(1, 1, 1, 0);
        int[][] bad = {{-1, 1}, {10, 1}, {0, 0}, {0, 3651}};
        for (int[] b : bad) {
            Check.refused(x, "keeps", x.keeps(b[0], b[1]), 2);
        }
        Check.granted(x, "keeps", x.keeps(9, 3650));
        x.keeps(1, 2);
        x.fact(0, 0, 1, false);
        x.fact(0, 1, 1, true);
        x.fact(0, 9, 1, true);
        Check.granted(x, "ages", x.ages(0, 2), 0);
        Check.granted(x, "ages", x.ages(0, 3), 2);
        Check.granted(x, "ages", x.ages(0, 365), 2);
        Check.granted(x, "ages", x.ages(0, 366), 3);
        Check.granted(x, "ages", x.ages(0, 3650), 3);
        Check.refused(x, "ages beyond", x.ages(0, 3651), 2);
        Check.refused(x, "ages of nobody", x.ages(1, 3651), 1);
        x.pass(1440 * 3);
        Check.refused(x, "ages of a past day", x.ages(0, 2), 2);
        Check.granted(x, "ages today", x.ages(0, 3), 2);
        Check.due("stale", x.known(0, 1, 4), 1);
        Check.due("stale ones", x.about(0, 9), 1);
        Check.refused(x, "check of nobody", x.check(1, 10), 1);
        Check.refused(x, "check of no kind", x.check(0, 10), 2);
        Check.refused(x, "check of no kind", x.check(0, -1), 2);
        Check.refused(x, "check of no fact", x.check(0, 2), 1);
        Check.granted(x, "check", x.check(0, 1));
        Check.due("fresh again", x.known(0, 1, 4), 0);
        Check.due("checked", x.known(0, 1, 3), 3);
        Check.due("told", x.known(0, 1, 2), 0);
        Check.due("no telling more", x.known(0, 1, 5), 1);
        x.pass(1440 * 3);
        Check.due("stale again", x.known(0, 1, 4), 1);
        x.fact(0, 1, 2, false);
        Check.due("told anew", x.known(0, 1, 4), 0);
    }

    private static void alikeAndApart() {
        LivesAhead x = new LivesAhead();
        x.writer(1);
        x.person(5, 1, 1, 0);
        x.person(6, 1, 1, 0);
        x.person(5, 1, 1, 0);
        x.person(5, 1, 1, 0);
        Check.due("alike", x.alike(0), 2);
        Check.due("alike of the others", x.alike(3), 2);
        Check.due("alone", x.alike(1), 0);
        Check.due("alike of nobody", x.alike(4), -1);
        Check.due("alike of nobody", x.alike(-1), -1);
        Check.due("nothing known", x.apart(0, 2), -2);
        x.fact(0, 1, 4, false);
        Check.due("known of one", x.apart(0, 2), -2);
        x.fact(2, 1, 4, false);
        Check.due("the same", x.apart(0, 2), -2);
        x.fact(0, 8, 4, true);
        x.fact(2, 8, 5, false);
        Check.due("told apart", x.apart(0, 2), 8);
        x.fact(0, 3, 0, false);
        x.fact(2, 3, 1, false);
        Check.due("by the least", x.apart(2, 0), 3);
        x.fact(2, 3, 0, false);
        Check.due("as known now", x.apart(2, 0), 8);
        x.fact(0, 0, 1, false);
        x.fact(2, 0, 2, false);
        Check.due("kind 0 too", x.apart(2, 0), 0);
        Check.due("one and itself", x.apart(0, 0), -2);
        Check.due("nobody", x.apart(0, 4), -1);
        Check.due("nobody", x.apart(-1, 0), -1);
    }

    private static void time() {
        LivesAhead x = new LivesAhead();
        Check.refused(x, "pass nothing", x.pass(0), 2);
        Check.refused(x, "pass too much", x.pass(100001), 2);
        Check.granted(x, "a minute short", x.pass(1439), 0);
        Check.due("minute", x.count(11), 1439);
        Check.granted(x, "a day", x.pass(1), 1);
        Check.due("day", x.count(10), 1);
        Check.due("minute", x.count(11), 0);
        int left = 3651 * 1440 - 1441;
        while (left > 100000) {
            x.pass(100000);
            left -= 100000;
        }
        Check.refused(x, "beyond the last day", x.pass(left + 1), 2);
        Check.granted(x, "the last minute", x.pass(left), 3650);
        Check.due("the last minute", x.count(11), 1439);
        Check.refused(x, "no more", x.pass(1), 2);
        Check.due("it stays", x.count(10), 3650);
    }

    /** Questions that tell no trouble by number leave it alone. */
    private static void troubleStays() {
        LivesAhead x = new LivesAhead();
        x.writer(61);
        x.about(9, 9);
        x.known(9, 9, 9);
        x.knownOn(9, 9, 9);
        x.alike(9);
        x.apart(9, 9);
        x.feed(0, 0, 0, 0, 0);
        x.paragraphOf(9, 9, 9);
        x.cutOf();
        x.cutLong();
        x.fits(9);
        x.used(9);
        x.editionOf(9, 9);
        x.wrong(9);
        x.said(9, 9);
        x.fresh(9);
        x.takes();
        x.freshen();
        x.count(99);
        x.fault();
        x.where();
        Check.due("trouble stays", x.trouble(), 2);
    }
}
