import java.util.function.Consumer;

/** The sentences on reports, rules and deaths: term V, promises 27 to 33. */
final class DeathEdges {
    private static final int[] NOT_ONE = {Integer.MIN_VALUE, -1, 3, Integer.MAX_VALUE};
    private static final String[] SOURCES = {"kin", "doctor", "office", "agency", "rival"};
    private static final String[] NAMES = {"kin", "doctor", "office", "agency", "rival", "sources", "hours", "age",
        "worth"};

    private DeathEdges() {
    }

    static void run() {
        reportDays();
        withdrawn();
        namesAlone();
        fitting();
        sourceNames();
        sourcesAndHours();
        ageAndWorth();
        noOtherNames();
        ruleFaults();
        maybeTold();
        dayOfDeath();
        ruleCall();
        ruleRoom();
        reportCall();
        reportRoom();
        rumourCall();
        rumourKinds();
        fits();
        withdraw();
        may();
        tell();
    }

    /** Three people, two of them alike. */
    private static LivesAhead desk() {
        LivesAhead x = new LivesAhead();
        x.writer(10);
        x.person(7, 21900, 50, 0);
        x.person(7, 21900, 20, 0);
        x.person(8, 100, 5, 0);
        return x;
    }

    private static LivesAhead deskOn(int day) {
        LivesAhead x = desk();
        Check.until(x, day, 0);
        return x;
    }

    private static int rumour(LivesAhead x, int name, int day, int source) {
        return x.rumour(name, day, source, -1, 0, -1, 0, -1, 0);
    }

    private static int rumourOf(LivesAhead x, int name, int kind, int value) {
        return x.rumour(name, 0, 0, kind, value, -1, 0, -1, 0);
    }

    // ---- term V: reports

    private static void reportDays() {
        Check.sentence("V", "that a PERSON is dead since a DAY (not behind NOW)");
        Check.bounds(() -> deskOn(5), 0, 5, 2, (x, n) -> x.report(0, n, 0));
        Check.bounds(() -> deskOn(5), 0, 5, 2, (x, n) -> rumour(x, 7, n, 0));
        Check.bounds(DeathEdges::desk, 0, 0, 2, (x, n) -> x.report(0, n, 0));
        Check.bounds(() -> deskOn(3650), 0, 3650, 2, (x, n) -> x.report(0, n, 0));
        LivesAhead y = desk();
        y.pass(1439);
        Check.refused(y, "a minute ahead of that day", y.report(0, 1, 0), 2);
        y.pass(1);
        Check.granted(y, "as that day begins", y.report(0, 1, 0), 0);
        Check.sentence("V", "by a SOURCE (0 kin, 1 doctor, 2 office, 3 agency, 4 rival)");
        Check.bounds(DeathEdges::desk, 0, 4, 2, (x, n) -> x.report(0, 0, n));
        Check.bounds(DeathEdges::desk, 0, 4, 2, (x, n) -> rumour(x, 7, 0, n));
    }

    private static void withdrawn() {
        Check.sentence("V", "as of NOW;");
        LivesAhead then = deskOn(2);
        then.report(0, 0, 0);
        then.pass(60);
        Check.rule(then, "hours = 1");
        Check.due("told now, whatever day it tells", then.may(0), 1);
        Check.sentence("V", "one may be withdrawn.");
        LivesAhead x = desk();
        Check.rule(x, "kin>0");
        x.report(0, 0, 0);
        x.report(0, 0, 0);
        Check.due("two", x.may(0), 1);
        x.withdraw(0);
        Check.due("one is left", x.may(0), 1);
        x.withdraw(1);
        Check.due("none is left", x.may(0), 0);
        Check.due("both are counted on", x.count(5), 2);
    }

    private static void namesAlone() {
        Check.sentence("V", "A REPORT may be of a NAME alone, with facts told (up to 3 KINDS and values)");
        LivesAhead x = desk();
        rumour(x, 8, 0, 0);
        Check.due("of a name alone", x.fits(0), 2);
        for (int kind = 0; kind < 3; kind++) {
            LivesAhead y = desk();
            y.rumour(8, 0, 0, 1, 10, 4, 40, 9, 90);
            y.fact(2, new int[] {1, 4, 9}[kind], 11, false);
            Check.due("each of the three counts", y.fits(0), -2);
        }
        LivesAhead z = desk();
        z.rumour(8, 0, 0, 1, 10, 4, 40, 9, 90);
        z.fact(2, 1, 10, false);
        z.fact(2, 4, 40, false);
        z.fact(2, 9, 90, true);
        Check.due("all are known so", z.fits(0), 2);
        LivesAhead v = desk();
        v.rumour(8, 0, 0, 1, 10, 1, 11, -1, 0);
        Check.due("one kind, two values, none known", v.fits(0), 2);
        v.fact(2, 1, 11, false);
        Check.due("one of them is another one", v.fits(0), -2);
        Check.sentence("V", "it FITS those of the NAME of whom none of these is known to be another one"
            + " AS KNOWN now;");
        LivesAhead w = desk();
        rumourOf(w, 7, 0, 5);
        Check.due("nothing is known", w.fits(0), -3);
        w.fact(0, 1, 6, false);
        Check.due("of another kind", w.fits(0), -3);
        w.fact(0, 0, 5, false);
        Check.due("known to be so", w.fits(0), -3);
        w.fact(1, 0, 6, false);
        Check.due("known to be another", w.fits(0), 0);
        w.pass(1440);
        w.fact(1, 0, 5, false);
        Check.due("as known now", w.fits(0), -3);
        w.fact(2, 0, 5, false);
        Check.due("not of another name", w.fits(0), -3);
    }

    private static void fitting() {
        Check.sentence("V", "it is of the one PERSON that it FITS, or of none yet (asked anew whenever it is asked).");
        LivesAhead x = desk();
        Check.rule(x, "kin>0");
        rumourOf(x, 7, 0, 5);
        Check.due("of none yet", x.may(0), 0);
        Check.due("of none yet", x.may(1), 0);
        x.fact(0, 0, 6, false);
        Check.due("not of that one", x.may(0), 0);
        Check.due("of the other one", x.may(1), 1);
        x.fact(0, 0, 5, false);
        Check.due("of none again", x.may(1), 0);
        x.fact(1, 0, 6, false);
        Check.due("of the first now", x.may(0), 1);
        x.person(7, 1, 1, 0);
        Check.due("another one has come", x.may(0), 0);
        LivesAhead y = desk();
        rumour(y, 9, 0, 0);
        Check.due("of nobody yet", y.fits(0), -2);
        y.person(9, 1, 1, 0);
        Check.due("of one that came later", y.fits(0), 3);
    }

    // ---- term V: rules

    /** Whether a rule holds of the first person of a desk on which this has happened. */
    private static void holds(Consumer<LivesAhead> scene, String rule, boolean want) {
        LivesAhead x = desk();
        scene.accept(x);
        Check.granted(x, "rule '" + rule + "'", Check.rule(x, rule), 1);
        Check.granted(x, "may by '" + rule + "'", x.may(0), want ? 1 : 0);
    }

    /** As many reports of the first person by each source as told. */
    private static Consumer<LivesAhead> heard(int... many) {
        return x -> {
            for (int source = 0; source < many.length; source++) {
                for (int i = 0; i < many[source]; i++) {
                    x.report(0, 0, source);
                }
            }
        };
    }

    private static void sourceNames() {
        Check.sentence("V", "kin, doctor, office, agency, rival (REPORTS of that SOURCE of the PERSON that aren't"
            + " withdrawn)");
        for (int source = 0; source < 5; source++) {
            int by = source;
            for (int other = 0; other < 5; other++) {
                int[] many = {1, 1, 1, 1, 1};
                many[source] = 2;
                holds(heard(many), SOURCES[other] + " = 2", other == source);
            }
            holds(x -> {
                x.withdraw(x.report(0, 0, by));
                x.report(1, 0, by);
                rumour(x, 7, 0, by);
                rumour(x, 8, 0, by);
                x.fact(0, 0, 1, false);
                x.fact(1, 0, 3, false);
                x.rumour(7, 0, by, 0, 2, -1, 0, -1, 0);
                x.rumour(7, 0, by, 0, 1, -1, 0, -1, 0);
                x.report(0, 0, by);
            }, SOURCES[source] + " = 2", true);
        }
        holds(heard(120), "kin = 120", true);
        holds(heard(1), "doctor + office + agency + rival = 0", true);
    }

    private static void sourcesAndHours() {
        Check.sentence("V", "sources (how many kinds of them)");
        holds(heard(0, 0, 0, 0, 1), "sources = 1", true);
        holds(heard(3), "sources = 1", true);
        holds(heard(2, 0, 2), "sources = 2", true);
        holds(heard(1, 1, 1, 1, 1), "sources = 5", true);
        holds(heard(1, 1).andThen(x -> x.withdraw(0)), "sources = 1", true);
        Check.sentence("V", "hours (whole ones since the first of them was told)");
        Consumer<LivesAhead> first = x -> {
            x.pass(30);
            x.report(0, 0, 0);
        };
        holds(first, "hours = 0", true);
        holds(first.andThen(x -> x.pass(59)), "hours = 0", true);
        holds(first.andThen(x -> x.pass(60)), "hours = 1", true);
        Consumer<LivesAhead> second = first.andThen(x -> x.pass(60)).andThen(x -> x.report(0, 0, 1));
        holds(second.andThen(x -> x.pass(59)), "hours = 1", true);
        holds(second.andThen(x -> x.pass(60)), "hours = 2", true);
        holds(second.andThen(x -> x.pass(60)).andThen(x -> x.withdraw(0)), "hours = 1", true);
        holds(second.andThen(x -> x.pass(60)).andThen(x -> x.withdraw(1)), "hours = 2", true);
        Consumer<LivesAhead> told = x -> {
            x.rumour(7, 0, 0, 0, 1, -1, 0, -1, 0);
            x.pass(120);
            x.report(0, 0, 0);
        };
        holds(told, "hours = 0", true);
        holds(told.andThen(x -> x.fact(1, 0, 2, false)), "hours = 2", true);
        holds(heard(1).andThen(x -> Check.until(x, 3650, 1439)), "hours = 9999" + "+9999".repeat(7) + "+7631", true);
    }

    private static void ageAndWorth() {
        Check.sentence("V", "age, worth;");
        Consumer<LivesAhead> one = heard(1);
        holds(one, "age = 60", true);
        holds(one.andThen(x -> Check.until(x, 364, 1439)), "age = 60", true);
        holds(one.andThen(x -> Check.until(x, 365, 0)), "age = 61", true);
        holds(one, "worth = 50", true);
    }

    private static void noOtherNames() {
        Check.sentence("V", "kin, doctor, office, agency, rival");
        for (String name : NAMES) {
            for (int i = 0; i < name.length(); i++) {
                char letter = name.charAt(i) == 'q' ? 'x' : 'q';
                Check.faultyRule(name.substring(0, i) + letter + name.substring(i + 1) + " > 0", 2, 0);
            }
        }
        Check.sentence("V", "no has, stale, dead;");
        for (String word : new String[] {"has k1", "stale k1", "dead"}) {
            Check.faultyRule(word, 1, 0);
            Check.faultyRule("not " + word, 1, 4);
            Check.faultyRule("kin > 0 and " + word, 1, 12);
            Check.faultyRule("kin > " + word, 1, 6);
        }
        Check.sentence("V", "TEST with other NAMES");
        for (String word : new String[] {"k0", "k9", "born", "year", "kins", "ki", "name", "kin1", "source", "hour"}) {
            Check.faultyRule(word + " > 0", 2, 0);
            Check.faultyRule("kin > " + word, 2, 6);
            Check.faultyRule("kin > 0 or " + word, 2, 11);
        }
        for (String word : SOURCES) {
            Check.faulty("{" + word + "}", 2, 1);
        }
        Check.faulty("{sources}", 2, 1);
        Check.faulty("{hours}", 2, 1);
    }

    private static void ruleFaults() {
        Check.sentence("V", "RULES of truth (texts as within { if }");
        Check.faultyRule("", 1, 0);
        Check.faultyRule(" ".repeat(400), 1, 400);
        Check.faultyRule("kin", 1, 3);
        Check.faultyRule("kin > 0:", 1, 7);
        Check.faultyRule("kin > 0}", 1, 7);
        Check.faultyRule("kin > 0|", 1, 7);
        Check.faultyRule("{kin > 0}", 1, 0);
        Check.faultyRule("if kin > 0", 1, 0);
        Check.faultyRule("(kin > 0)", 1, 0);
        holds(heard(1), "  not  not  kin  >  0  ", true);
        holds(heard(1), "kin>0and not kin>1", true);
        Check.sentence("V", "FAULTS likewise, MANY 3 from the 31st WHOLE or NAME)");
        Check.faultyRule("kin > 0 and kin > 0 or kin > 0", 1, 20);
        Check.faultyRule("kin > 0 or kin > 0 and kin > 0", 1, 19);
        Check.faultyRule("kin > 12345", 1, 6);
        Check.faultyRule("abcdefghi > 0", 1, 0);
        Check.faultyRule("abcdefgh > 0", 2, 0);
        Check.faultyRule("kin > 0\u0001", 1, 7);
        Check.faultyRule("kin > \u0080", 1, 6);
        String thirty = "0" + "+0".repeat(28);
        holds(heard(1), thirty + "<kin", true);
        Check.faultyRule(thirty + "+0<kin", 3, 60);
        Check.faultyRule(thirty + "<kin and kin", 3, 66);
        Check.faultyRule(thirty + "<kin and heat", 2, 66);
        Check.faultyRule(thirty + "<kin and dead", 1, 66);
    }

    private static void maybeTold() {
        Check.sentence("V", "if one of all RULES holds, and some REPORT that isn't withdrawn is of the PERSON,"
            + " DEAD may be TOLD.");
        LivesAhead x = desk();
        Check.due("no rule, no report", x.may(0), 0);
        Check.rule(x, "kin=0");
        Check.due("a rule that holds, no report", x.may(0), 0);
        Check.refused(x, "a rule that holds, no report", x.tell(0), 5);
        x.report(1, 0, 1);
        Check.due("a report of another one", x.may(0), 0);
        x.withdraw(x.report(0, 0, 1));
        Check.due("a report withdrawn", x.may(0), 0);
        x.report(0, 0, 0);
        Check.due("the rule doesn't hold", x.may(0), 0);
        for (int i = 1; i < 11; i++) {
            Check.rule(x, "kin > " + i);
        }
        Check.due("none of them holds", x.may(0), 0);
        Check.rule(x, "kin = 1");
        Check.due("the last of twelve holds", x.may(0), 1);
        LivesAhead y = desk();
        y.report(0, 0, 0);
        Check.due("a report, no rule", y.may(0), 0);
        Check.rule(y, "kin = 1");
        Check.rule(y, "kin = 2");
        Check.due("the first of two holds", y.may(0), 1);
        LivesAhead z = desk();
        z.report(0, 0, 0);
        Check.rule(z, "not kin = 1 and kin = 1");
        Check.rule(z, "kin = 1");
        Check.due("each by itself", z.may(0), 1);
        LivesAhead v = desk();
        v.report(0, 0, 0);
        Check.rule(v, "kin = 2 or not kin = 1");
        Check.rule(v, "kin = 2");
        Check.due("each by itself", v.may(0), 0);
        Check.sentence("V", "A PERSON is DEAD from then on when told so;");
        Check.due("not yet", y.about(0, 4), 0);
        y.tell(0);
        Check.due("from then on", y.about(0, 4), 1);
        y.withdraw(0);
        Check.due("whatever is withdrawn", y.about(0, 4), 1);
        Check.due("no other", y.count(1), 1);
    }

    private static void diesOn(int want, int withdrawn, int... days) {
        LivesAhead x = deskOn(9);
        Check.rule(x, "kin>0");
        for (int day : days) {
            x.report(0, day, 0);
        }
        x.withdraw(withdrawn);
        Check.granted(x, "tell", x.tell(0), want);
        Check.due("the day of death", x.about(0, 5), want);
    }

    private static void dayOfDeath() {
        Check.sentence("V", "the DAY of death: of its REPORTS that aren't withdrawn the DAY that most of them say,"
            + " of as many the least.");
        diesOn(9, -1, 9);
        diesOn(0, -1, 0);
        diesOn(4, -1, 9, 4);
        diesOn(4, -1, 4, 9);
        diesOn(9, -1, 9, 4, 9);
        diesOn(5, -1, 7, 5, 7, 5, 1, 2);
        diesOn(7, 1, 7, 5, 7, 5, 1, 2);
        diesOn(0, -1, 9, 0, 9, 0);
        LivesAhead x = deskOn(9);
        Check.rule(x, "kin>0");
        x.report(0, 8, 0);
        x.report(1, 2, 0);
        x.report(1, 2, 0);
        rumour(x, 7, 3, 4);
        rumour(x, 7, 3, 4);
        x.rumour(7, 6, 4, 0, 1, -1, 0, -1, 0);
        x.rumour(7, 6, 4, 0, 1, -1, 0, -1, 0);
        x.fact(1, 0, 2, false);
        Check.granted(x, "rumours that are of it say it, too", x.tell(0), 6);
    }

    // ---- promises 27 to 33

    private static void ruleCall() {
        LivesAhead x = desk();
        Check.sentence("27", "They are a RULE more: how many there are.");
        Check.feed(x, "kin>0 and}");
        Check.granted(x, "the first five bytes", x.rule(5), 1);
        Check.due("the tape is empty", x.count(12), 0);
        Check.granted(x, "the same again", Check.rule(x, "kin>0"), 2);
        LivesAhead y = desk();
        Check.feed(y, "kin>12345");
        Check.granted(y, "the bytes behind say nothing", y.rule(5), 1);
        y.report(0, 0, 0);
        y.report(0, 0, 0);
        Check.due("more than one", y.may(0), 1);
        LivesAhead z = desk();
        Check.rule(z, "kin > 1 and kin > 2 or");
        Check.granted(z, "one anew", Check.rule(z, "kin > 1 or kin > 2"), 1);
        Check.rule(z, "kin > 1 or kin >");
        Check.granted(z, "one anew", Check.rule(z, "kin > 1 and kin > 2"), 2);
        Check.sentence("27", "NONE: 2 (THE TAPE stays);");
        Check.feed(x, "rival>0");
        for (int n : new int[] {Integer.MIN_VALUE, -1, 21, 400, 401, Integer.MAX_VALUE}) {
            Check.refused(x, n + " bytes", x.rule(n), 2);
        }
        Check.due("the tape stays", x.count(12), 20);
        Check.due("rules", x.count(6), 2);
        Check.granted(x, "its bytes, too", x.rule(20), 3);
        x.report(0, 0, 4);
        Check.due("its bytes, too", x.may(0), 1);
    }

    private static void ruleRoom() {
        LivesAhead x = desk();
        Check.sentence("27", "4; 3.");
        Check.feed(x, "kin");
        Check.refused(x, "a fault", x.rule(3), 4);
        Check.due("the tape is empty", x.count(12), 0);
        Check.refused(x, "none of them is no rule", x.rule(0), 4);
        for (int i = 1; i <= 12; i++) {
            Check.granted(x, "rule", Check.rule(x, "kin > " + i), i);
        }
        Check.refused(x, "2 ahead of 3", x.rule(1), 2);
        Check.refused(x, "4 ahead of 3", Check.rule(x, "kin"), 4);
        Check.refused(x, "a 13th", Check.rule(x, "kin > 0"), 3);
        Check.due("the tape is empty", x.count(12), 0);
        Check.sentence("I", "RULES 12");
        Check.due("rules", x.count(6), 12);
        x.report(0, 0, 0);
        Check.due("the 13th didn't come", x.may(0), 0);
    }

    private static void reportCall() {
        LivesAhead x = desk();
        Check.sentence("28", "A REPORT of a PERSON: its number. NONE: 1; 2 (SOURCE, DAY); 3.");
        Check.granted(x, "the first", x.report(0, 0, 0), 0);
        Check.granted(x, "the same again", x.report(0, 0, 0), 1);
        for (int person : NOT_ONE) {
            Check.refused(x, "of " + person, x.report(person, 0, 0), 1);
            Check.refused(x, "1 ahead of 2", x.report(person, 1, 5), 1);
        }
        for (int number : new int[] {Integer.MIN_VALUE, -1, 5, Integer.MAX_VALUE}) {
            Check.refused(x, "source " + number, x.report(0, 0, number), 2);
            Check.refused(x, "day " + number, x.report(0, number, 0), 2);
        }
        Check.due("none came", x.count(5), 2);
        Check.rule(x, "kin > 0");
        x.tell(0);
        Check.granted(x, "of one that is dead", x.report(0, 0, 0), 2);
    }

    private static void reportRoom() {
        LivesAhead x = desk();
        Check.sentence("I", "REPORTS 120");
        for (int i = 0; i < 120; i++) {
            Check.granted(x, "report", i % 2 == 0 ? x.report(2, 0, 0) : rumour(x, 9, 0, 0), i);
        }
        Check.refused(x, "1 ahead of 3", x.report(3, 0, 0), 1);
        Check.refused(x, "2 ahead of 3", x.report(0, 0, 5), 2);
        Check.refused(x, "2 ahead of 3", rumour(x, 7, 0, 5), 2);
        Check.refused(x, "2 ahead of 3", rumourOf(x, 7, 10, 0), 2);
        Check.refused(x, "a 121st", x.report(0, 0, 0), 3);
        Check.refused(x, "a 121st", rumour(x, 7, 0, 0), 3);
        x.withdraw(0);
        Check.refused(x, "those withdrawn are some of them", x.report(0, 0, 0), 3);
        Check.due("reports", x.count(5), 120);
        Check.due("the last", x.fits(119), -2);
        Check.due("there is no other", x.fits(120), -1);
    }

    private static void rumourCall() {
        Check.sentence("29", "A REPORT of a NAME with up to 3 KINDS and values");
        LivesAhead many = desk();
        Check.granted(many, "without any", rumour(many, 8, 0, 0), 0);
        Check.granted(many, "with one", many.rumour(8, 0, 0, 0, 9999, -1, 0, -1, 0), 1);
        Check.granted(many, "with two", many.rumour(8, 0, 0, 0, 9999, 9, -9999, -1, 0), 2);
        Check.granted(many, "with three", many.rumour(8, 0, 0, 0, 9999, 9, -9999, 5, 0), 3);
        many.fact(2, 5, 1, false);
        Check.due("with two", many.fits(2), 2);
        Check.due("with three", many.fits(3), -2);
        many.fact(2, 9, 9999, false);
        Check.due("with one", many.fits(1), 2);
        Check.due("with two", many.fits(2), -2);
        many.fact(2, 0, -9999, false);
        Check.due("without any", many.fits(0), 2);
        Check.due("with one", many.fits(1), -2);
        Check.sentence("29", "its number.");
        many.report(0, 0, 0);
        Check.granted(many, "behind other reports", rumour(many, 8, 0, 0), 5);
        Check.refused(many, "refused, it takes none", rumour(many, 100, 0, 0), 2);
        Check.granted(many, "the next", rumour(many, 99, 0, 0), 6);
        Check.sentence("29", "NONE: 2; 3.");
        Check.bounds(DeathEdges::desk, 0, 99, 2, (x, n) -> rumour(x, n, 0, 0));
        Check.bounds(DeathEdges::desk, 0, 0, 2, (x, n) -> rumour(x, 7, n, 0));
        Check.bounds(DeathEdges::desk, 0, 4, 2, (x, n) -> rumour(x, 7, 0, n));
        Check.bounds(DeathEdges::desk, -1, 9, 2, (x, n) -> x.rumour(7, 0, 0, n, 0, -1, 0, -1, 0));
        Check.bounds(DeathEdges::desk, -1, 9, 2, (x, n) -> x.rumour(7, 0, 0, 1, 0, n, 0, -1, 0));
        Check.bounds(DeathEdges::desk, -1, 9, 2, (x, n) -> x.rumour(7, 0, 0, 1, 0, 1, 0, n, 0));
        Check.bounds(DeathEdges::desk, -9999, 9999, 2, (x, n) -> x.rumour(7, 0, 0, 1, n, -1, 0, -1, 0));
        Check.bounds(DeathEdges::desk, -9999, 9999, 2, (x, n) -> x.rumour(7, 0, 0, 1, 0, 2, n, -1, 0));
        Check.bounds(DeathEdges::desk, -9999, 9999, 2, (x, n) -> x.rumour(7, 0, 0, 1, 0, 2, 0, 3, n));
        LivesAhead y = new LivesAhead();
        Check.granted(y, "of a name that nobody has", rumour(y, 0, 0, 0), 0);
    }

    private static void rumourKinds() {
        Check.sentence("29", "(NONE as a KIND: no more, whatever stands behind it)");
        LivesAhead x = desk();
        int far = Integer.MAX_VALUE;
        int low = Integer.MIN_VALUE;
        Check.granted(x, "none", x.rumour(8, 0, 0, -1, far, far, far, low, low), 0);
        Check.granted(x, "one", x.rumour(8, 0, 0, 9, 5, -1, low, low, far), 1);
        Check.granted(x, "two", x.rumour(8, 0, 0, 9, 5, 0, 6, -1, low), 2);
        Check.granted(x, "none, though kinds stand behind", x.rumour(8, 0, 0, -1, 1, 1, 1, 2, 2), 3);
        Check.granted(x, "one, though one stands behind", x.rumour(8, 0, 0, 9, 5, -1, 1, 1, 1), 4);
        x.fact(2, 1, 9, false);
        x.fact(2, 2, 9, false);
        for (int i = 0; i < 5; i++) {
            Check.due("what stands behind says nothing", x.fits(i), 2);
        }
        x.fact(2, 0, 7, false);
        Check.due("the second is told", x.fits(2), -2);
        x.fact(2, 9, 6, false);
        int[] fits = {2, -2, -2, 2, -2};
        for (int i = 0; i < 5; i++) {
            Check.due("the first is told", x.fits(i), fits[i]);
        }
    }

    private static void fits() {
        LivesAhead x = desk();
        x.report(1, 0, 0);
        rumour(x, 8, 0, 0);
        rumour(x, 9, 0, 0);
        rumour(x, 7, 0, 0);
        Check.sentence("30", "The PERSON of a REPORT: -2 if it FITS none, -3 if more than one; NONE.");
        int[] want = {1, 2, -2, -3};
        for (int i = 0; i < 4; i++) {
            Check.due("report " + i, x.fits(i), want[i]);
        }
        for (int report : new int[] {Integer.MIN_VALUE, -1, 4, Integer.MAX_VALUE}) {
            Check.due("report " + report, x.fits(report), -1);
        }
        Check.due("of none at all", new LivesAhead().fits(0), -1);
        x.withdraw(0);
        x.withdraw(1);
        Check.due("one withdrawn", x.fits(0), 1);
        Check.due("one withdrawn", x.fits(1), 2);
    }

    private static void withdraw() {
        LivesAhead x = desk();
        x.report(0, 0, 0);
        x.report(0, 0, 0);
        rumour(x, 9, 0, 0);
        Check.sentence("31", "A REPORT is withdrawn: true; false: 1; 5 (already).");
        Check.granted(x, "withdraw", x.withdraw(0));
        Check.refused(x, "already", x.withdraw(0), 5);
        Check.granted(x, "another", x.withdraw(1));
        Check.granted(x, "one of nobody", x.withdraw(2));
        Check.refused(x, "already", x.withdraw(2), 5);
        for (int report : NOT_ONE) {
            Check.refused(x, "report " + report, x.withdraw(report), 1);
        }
    }

    private static void may() {
        LivesAhead x = desk();
        Check.rule(x, "kin > 0");
        x.report(0, 0, 0);
        Check.sentence("32", "Whether DEAD may be TOLD of a PERSON: 1, 0;");
        Check.granted(x, "it may", x.may(0), 1);
        Check.granted(x, "it may not", x.may(1), 0);
        Check.due("nobody has died by that", x.count(1), 0);
        Check.sentence("32", "NONE (1: also one that is DEAD).");
        for (int person : NOT_ONE) {
            Check.refused(x, "of " + person, x.may(person), 1);
        }
        x.tell(0);
        Check.refused(x, "one that is dead", x.may(0), 1);
    }

    private static void tell() {
        LivesAhead x = deskOn(3);
        x.report(0, 2, 0);
        Check.sentence("33", "DEAD is TOLD of a PERSON: the DAY of death.");
        Check.rule(x, "kin > 0");
        Check.granted(x, "tell", x.tell(0), 2);
        Check.due("the day", x.about(0, 5), 2);
        x.report(0, 1, 0);
        x.report(0, 1, 0);
        Check.due("as it was told", x.about(0, 5), 2);
        Check.sentence("33", "NONE: 1; 5 (already; no RULE holds).");
        for (int person : NOT_ONE) {
            Check.refused(x, "of " + person, x.tell(person), 1);
        }
        Check.refused(x, "already", x.tell(0), 5);
        Check.refused(x, "no rule holds", x.tell(1), 5);
        x.report(1, 0, 1);
        Check.refused(x, "no rule holds", x.tell(1), 5);
        Check.due("it lives", x.about(1, 4), 0);
        Check.due("it has no day of death", x.about(1, 5), -2);
        LivesAhead y = desk();
        Check.rule(y, "kin > 0");
        y.report(2, 0, 0);
        Check.granted(y, "on day 0", y.tell(2), 0);
        Check.due("is dead", y.about(2, 4), 1);
    }
}
