/** Promises 27 to 33: rules of truth, reports, rumours, deaths. */
public final class DeathTest {
    public static void main(String[] args) {
        ruleFaults();
        ruleRoom();
        ruleNames();
        reports();
        rumours();
        rumoursAskedAnew();
        mayAndTell();
        dayOfDeath();
        whatDeathChanges();
        Check.end("DeathTest");
    }

    private static LivesAhead desk() {
        LivesAhead x = new LivesAhead();
        x.writer(10);
        x.person(7, 21900, 50, 0);
        x.person(7, 21900, 20, 0);
        x.person(8, 100, 5, 0);
        return x;
    }

    private static void ruleFaults() {
        Check.faultyRule("", 1, 0);
        Check.faultyRule("   ", 1, 3);
        Check.faultyRule("kin", 1, 3);
        Check.faultyRule("kin  ", 1, 5);
        Check.faultyRule("kin >", 1, 5);
        Check.faultyRule("kin > 1 and", 1, 11);
        Check.faultyRule("kin > 1 and kin > 2 or kin > 3", 1, 20);
        Check.faultyRule("kin > 1 or kin > 2 and kin > 3", 1, 19);
        Check.faultyRule("kin > 1 :", 1, 8);
        Check.faultyRule("kin > 1 {", 1, 8);
        Check.faultyRule("kin > 1 |", 1, 8);
        Check.faultyRule("{kin > 1}", 1, 0);
        Check.faultyRule("(kin > 1)", 1, 0);
        Check.faultyRule("if kin > 1", 1, 0);
        Check.faultyRule("dead", 1, 0);
        Check.faultyRule("stale k1", 1, 0);
        Check.faultyRule("not has k1", 1, 4);
        Check.faultyRule("kin > dead", 1, 6);
        Check.faultyRule("kin > 1 and stale k1", 1, 12);
        Check.faultyRule("kin > 12345", 1, 6);
        Check.faultyRule("doctors > 1", 2, 0);
        Check.faultyRule("k1 > 1", 2, 0);
        Check.faultyRule("born > 1", 2, 0);
        Check.faultyRule("year > 1", 2, 0);
        Check.faultyRule("kin > year", 2, 6);
        Check.faultyRule("kin1 > 1", 2, 0);
        Check.faultyRule("1" + "+1".repeat(30) + " > 1", 3, 60);
        Check.faultyRule("1" + "+1".repeat(29) + " > kin", 3, 62);
        Check.faultyRule("kin > 1\u0003", 1, 7);
    }

    private static void ruleRoom() {
        LivesAhead x = desk();
        Check.feed(x, "kin > 0");
        Check.refused(x, "more than the tape has", x.rule(21), 2);
        Check.refused(x, "below", x.rule(-1), 2);
        Check.due("the tape stays", x.count(12), 20);
        Check.granted(x, "blanks behind it", x.rule(20), 1);
        Check.due("the tape is empty", x.count(12), 0);
        for (int i = 2; i <= 12; i++) {
            Check.granted(x, "rule", Check.rule(x, "not not kin>0or rival=2"), i);
        }
        Check.refused(x, "a fault ahead of no room", Check.rule(x, "kin"), 4);
        Check.refused(x, "a 13th", Check.rule(x, "kin > 0"), 3);
        Check.due("no fault", x.fault(), 0);
        Check.due("rules", x.count(6), 12);
    }

    private static void holds(String rule, boolean want) {
        LivesAhead x = desk();
        x.withdraw(x.report(0, 0, 0));
        x.pass(100);
        x.report(0, 0, 0);
        x.report(0, 0, 0);
        x.pass(30);
        x.report(0, 0, 1);
        x.report(0, 0, 3);
        x.report(0, 0, 3);
        x.report(0, 0, 3);
        x.report(0, 0, 3);
        x.report(1, 0, 4);
        x.withdraw(x.report(0, 0, 2));
        x.pass(210);
        Check.rule(x, "kin > 99");
        Check.granted(x, "rule '" + rule + "'", Check.rule(x, rule), 2);
        x.may(0);
        Check.granted(x, "may by '" + rule + "'", x.may(0), want ? 1 : 0);
    }

    private static void ruleNames() {
        holds("kin = 2", true);
        holds("doctor = 1", true);
        holds("office = 0", true);
        holds("agency = 4", true);
        holds("rival = 0", true);
        holds("sources = 3", true);
        holds("hours = 4", true);
        holds("age = 60", true);
        holds("worth = 50", true);
        holds("not kin = 2", false);
        holds("kin > 2 or doctor > 0", true);
        holds("kin > 1 and doctor > 1", false);
        holds("kin + doctor + agency - 7 = office", true);
        holds("kin < 2 or doctor < 1 or rival > 0", false);
        holds("1 = 1", true);
    }

    private static void reports() {
        LivesAhead x = desk();
        Check.refused(x, "nobody", x.report(3, 9, 9), 1);
        Check.refused(x, "a day behind now", x.report(0, 1, 0), 2);
        Check.refused(x, "a day below", x.report(0, -1, 0), 2);
        Check.refused(x, "source", x.report(0, 0, -1), 2);
        Check.refused(x, "source", x.report(0, 0, 5), 2);
        Check.granted(x, "report", x.report(2, 0, 4), 0);
        Check.due("of that person", x.fits(0), 2);
        Check.due("none", x.fits(1), -1);
        Check.due("none", x.fits(-1), -1);
        Check.refused(x, "withdraw none", x.withdraw(1), 1);
        Check.refused(x, "withdraw none", x.withdraw(-1), 1);
        Check.granted(x, "withdraw", x.withdraw(0));
        Check.refused(x, "withdraw again", x.withdraw(0), 5);
        Check.due("still of that person", x.fits(0), 2);
        for (int i = 1; i < 120; i++) {
            Check.granted(x, "report", x.report(0, 0, 0), i);
        }
        Check.refused(x, "a bad number ahead of no room", x.report(0, 0, 5), 2);
        Check.refused(x, "a 121st", x.report(0, 0, 0), 3);
        Check.refused(x, "a bad number ahead of no room", x.rumour(100, 0, 0, -1, 0, -1, 0, -1, 0), 2);
        Check.refused(x, "a 121st", x.rumour(7, 0, 0, -1, 0, -1, 0, -1, 0), 3);
        Check.due("reports", x.count(5), 120);
    }

    private static void rumours() {
        LivesAhead x = desk();
        Check.refused(x, "name", x.rumour(-1, 0, 0, -1, 0, -1, 0, -1, 0), 2);
        Check.refused(x, "name", x.rumour(100, 0, 0, -1, 0, -1, 0, -1, 0), 2);
        Check.refused(x, "day", x.rumour(7, 1, 0, -1, 0, -1, 0, -1, 0), 2);
        Check.refused(x, "day", x.rumour(7, -1, 0, -1, 0, -1, 0, -1, 0), 2);
        Check.refused(x, "source", x.rumour(7, 0, 5, -1, 0, -1, 0, -1, 0), 2);
        Check.refused(x, "kind", x.rumour(7, 0, 0, 10, 0, -1, 0, -1, 0), 2);
        Check.refused(x, "kind", x.rumour(7, 0, 0, -2, 0, -1, 0, -1, 0), 2);
        Check.refused(x, "second kind", x.rumour(7, 0, 0, 1, 0, 10, 0, -1, 0), 2);
        Check.refused(x, "third kind", x.rumour(7, 0, 0, 1, 0, 1, 0, 10, 0), 2);
        Check.refused(x, "value", x.rumour(7, 0, 0, 1, 10000, -1, 0, -1, 0), 2);
        Check.refused(x, "value", x.rumour(7, 0, 0, 1, -10000, -1, 0, -1, 0), 2);
        Check.refused(x, "third value", x.rumour(7, 0, 0, 1, 0, 2, 0, 3, 10000), 2);
        Check.granted(x, "no more", x.rumour(7, 0, 0, -1, 99999, 77, 99999, 77, 99999), 0);
        Check.granted(x, "no more", x.rumour(7, 0, 0, 1, 5, -1, 99999, 77, 99999), 1);
        Check.granted(x, "no more", x.rumour(7, 0, 0, 1, 5, 2, 6, -1, 99999), 2);
        Check.granted(x, "three", x.rumour(7, 0, 0, 1, 5, 2, 6, 3, -7), 3);
        Check.granted(x, "of nobody", x.rumour(99, 0, 0, 1, 5, 2, 6, 3, -7), 4);
        for (int i = 0; i < 4; i++) {
            Check.due("fits two", x.fits(i), -3);
        }
        Check.due("fits nobody", x.fits(4), -2);
        Check.granted(x, "name 0", x.rumour(0, 0, 0, -1, 0, -1, 0, -1, 0), 5);
        x.fact(0, 3, 7, true);
        Check.due("another value is known", x.fits(3), 1);
        Check.due("not told", x.fits(2), -3);
        x.fact(1, 2, 7, false);
        Check.due("one and the other", x.fits(3), -2);
        Check.due("the other", x.fits(2), 0);
        x.fact(1, 2, 6, false);
        Check.due("as known now", x.fits(3), 1);
        Check.due("as known now", x.fits(2), -3);
    }

    private static void rumoursAskedAnew() {
        LivesAhead x = desk();
        Check.rule(x, "kin > 0");
        x.rumour(8, 0, 0, 1, 5, -1, 0, -1, 0);
        Check.granted(x, "of one", x.may(2), 1);
        x.person(8, 10, 1, 0);
        Check.granted(x, "of two", x.may(2), 0);
        x.fact(3, 1, 6, false);
        Check.granted(x, "of one again", x.may(2), 1);
        x.fact(2, 1, 7, false);
        Check.granted(x, "of none", x.may(2), 0);
        x.fact(2, 1, 5, false);
        Check.granted(x, "told", x.tell(2), 0);
        Check.due("fits one that is dead", x.fits(0), 2);
    }

    private static void mayAndTell() {
        LivesAhead x = desk();
        Check.refused(x, "may of nobody", x.may(3), 1);
        Check.refused(x, "tell of nobody", x.tell(-1), 1);
        Check.granted(x, "no rule, no report", x.may(0), 0);
        x.report(0, 0, 0);
        Check.granted(x, "no rule", x.may(0), 0);
        Check.refused(x, "no rule", x.tell(0), 5);
        Check.rule(x, "rival > 0");
        Check.granted(x, "no rule holds", x.may(0), 0);
        Check.rule(x, "1 < 2");
        Check.granted(x, "one holds", x.may(0), 1);
        Check.granted(x, "no report", x.may(1), 0);
        Check.refused(x, "no report", x.tell(1), 5);
        x.withdraw(0);
        Check.granted(x, "withdrawn", x.may(0), 0);
        x.report(0, 0, 0);
        Check.granted(x, "tell", x.tell(0), 0);
        Check.refused(x, "already", x.tell(0), 5);
        Check.refused(x, "may of one that is dead", x.may(0), 1);
        Check.due("those dead", x.count(1), 1);
        x.withdraw(1);
        Check.due("dead it is", x.about(0, 4), 1);
        Check.due("since then", x.about(0, 5), 0);
        Check.granted(x, "a report more of one that is dead", x.report(0, 0, 1), 2);
    }

    private static void dayOfDeath() {
        LivesAhead x = desk();
        Check.rule(x, "kin + rival > 0");
        x.pass(1440 * 9);
        int[] days = {7, 3, 5, 3, 7, 9, 2, 2};
        for (int day : days) {
            x.report(0, day, 0);
        }
        x.withdraw(6);
        Check.granted(x, "of as many the least", x.tell(0), 3);
        x.report(1, 8, 4);
        x.rumour(7, 6, 4, 1, 4, -1, 0, -1, 0);
        x.fact(0, 1, 5, false);
        x.rumour(7, 6, 3, 1, 4, -1, 0, -1, 0);
        Check.granted(x, "rumours count", x.tell(1), 6);
    }

    private static void whatDeathChanges() {
        LivesAhead x = desk();
        Check.rule(x, "kin > 0");
        x.fact(0, 1, 5, true);
        x.person(1, 10 * 365 - 2, 1, 0);
        Check.paragraph(x, 0, 1, -1, "{if dead:{age} {k1}{if has k1:!}|{k1}?}");
        Check.paragraph(x, 3, 1, -1, "{age} {year}");
        Check.due("sealed", Check.printed(x, 0, 0), "0?");
        x.pass(1440 * 5);
        x.report(0, 3, 0);
        x.report(3, 1, 0);
        x.tell(0);
        x.tell(3);
        Check.due("told", Check.printed(x, 0, 0), "60 5!");
        Check.due("age as it died", x.about(3, 1), 9);
        Check.due("age as it died", Check.printed(x, 3, 0), "9 100");
        x.report(1, 0, 0);
        x.fact(1, 0, 1, false);
        x.keeps(0, 1);
        x.pass(2880);
        Check.due("stale of one alive", x.week(0) > 0, true);
        x.tell(1);
        Check.granted(x, "none of one dead", x.week(0), 0);
    }
}
