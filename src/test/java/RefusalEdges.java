import java.lang.reflect.InvocationTargetException;
import java.lang.reflect.Method;
import java.lang.reflect.Modifier;
import java.util.Arrays;
import java.util.function.Consumer;
import java.util.function.Predicate;
import java.util.function.ToIntFunction;

/** The sentences on trouble: term VIII, promise 50; a call that is refused changes nothing else. */
final class RefusalEdges {
    private static final int MIN = Integer.MIN_VALUE;
    private static final int MAX = Integer.MAX_VALUE;
    private static final int[] EDGES = {MIN, MIN + 1, -2, -1, 0, 1, 2, MAX - 1, MAX};

    private RefusalEdges() {
    }

    static void run() {
        numbers();
        latest();
        nothingElse();
        constant();
        anyNumber();
        fullDesk();
    }

    /**
     * A desk at work: three writers of whom one has died, three people of whom the last is dead, a story, rules, reports,
     * pictures, quotes, an edition put right; the first has been printed and cut, the first writer's week was asked.
     */
    private static LivesAhead desk() {
        LivesAhead x = new LivesAhead();
        x.writer(10);
        x.writer(20);
        x.writer(30);
        x.person(7, 21900, 50, 0);
        x.person(7, 9000, 20, 2);
        x.person(8, 100, 5, 1);
        x.bury(2);
        x.keeps(1, 3);
        x.keeps(4, 2);
        x.fact(0, 1, 5, false);
        x.fact(0, 1, 6, true);
        x.fact(1, 4, 7, false);
        x.fact(2, 4, 8, true);
        Check.paragraph(x, 0, 10, -1, "{if has k1:a|b}{age}");
        Check.paragraph(x, 0, 3, 0, "{k4}cd");
        Check.paragraph(x, 2, 3, -1, "{k4}");
        Check.rule(x, "kin>1 or rival>0");
        x.report(0, 0, 0);
        x.report(2, 0, 4);
        x.rumour(7, 0, 0, 1, 9, -1, 0, -1, 0);
        x.withdraw(x.report(0, 0, 4));
        x.tell(2);
        x.picture(2, 5, 0, 9, 2);
        x.picture(0, 5, 0, 9, 2);
        x.ask(2, 60);
        x.ask(2, 600);
        x.ask(0, 10);
        x.answer(0, 20);
        x.edition(2, 300, false);
        x.fact(2, 4, 9, false);
        x.correct(0, 4);
        x.fact(2, 4, 10, false);
        x.pass(4 * 1440 + 7);
        x.peril(1, true);
        x.print(0, 0);
        x.cut(0, 6, false);
        x.week(0);
        x.embargo(0, 9, 0);
        Check.feed(x, "kin > 0 and");
        return x;
    }

    /** All that can be asked of such a desk, what can only be asked by changing it last. */
    private static String told(LivesAhead x) {
        StringBuilder b = new StringBuilder();
        for (int what = 0; what <= 12; what++) {
            say(b, x.count(what));
        }
        say(b, x.fault(), x.cutOf(), x.cutLong(), x.takes(), x.fresh(0), x.fresh(1), x.out(0), x.out(2));
        for (int person = 0; person < 3; person++) {
            for (int what = 0; what < 10; what++) {
                say(b, x.about(person, what));
            }
            for (int kind = 0; kind < 10; kind++) {
                say(b, x.known(person, kind, 0), x.known(person, kind, 3), x.known(person, kind, 5));
            }
            for (int day : new int[] {4, 5, 6, 7, 8, 365, 366, 369, 370}) {
                say(b, x.ages(person, day));
            }
            for (int what = 0; what < 6; what++) {
                say(b, x.paragraphOf(person, 0, what), x.paragraphOf(person, 1, what));
            }
            say(b, x.used(person), x.fits(person), x.fits(3), x.may(person));
        }
        for (int what = 0; what < 8; what++) {
            say(b, x.editionOf(0, what));
        }
        say(b, x.wrong(0), x.said(0, 4), x.feed(1, 2, 3, 4, 5), x.rule(7));
        say(b, x.week(0), x.takes(), x.week(1), x.takes(), x.freshen());
        say(b, x.answer(0, 1), x.answer(1, 1), x.answer(2, 1), x.may(0), x.may(1));
        say(b, x.tell(0), x.edition(0, 9, false), x.edition(2, 400, true), x.editionOf(1, 2), x.editionOf(1, 3));
        return b.toString();
    }

    private static void say(StringBuilder b, int... answers) {
        for (int answer : answers) {
            b.append(answer).append(' ');
        }
    }

    /** A call is refused by a trouble, and a desk on which it was tried tells the same as one on which it wasn't. */
    private static void refused(String what, int trouble, ToIntFunction<LivesAhead> call) {
        LivesAhead x = desk();
        Check.refused(x, what, call.applyAsInt(x), trouble);
        Check.due(what + " changes nothing", told(x), told(desk()));
    }

    private static void no(String what, int trouble, Predicate<LivesAhead> call) {
        refused(what, trouble, x -> Check.asNumber(call.test(x)));
    }

    private static void numbers() {
        LivesAhead x = desk();
        Check.sentence("VIII", "0 it wasn't;");
        Check.granted(x, "a call that wasn't", x.pass(1), 4);
        Check.sentence("VIII", "1 there is none such;");
        Check.refused(x, "none such", x.peril(3, true), 1);
        Check.sentence("VIII", "2 a number;");
        Check.refused(x, "a number", x.pass(0), 2);
        Check.sentence("VIII", "3 no room;");
        x.writer(1);
        x.writer(1);
        x.writer(1);
        Check.refused(x, "no room", x.writer(1), 3);
        Check.sentence("VIII", "4 a FAULT;");
        Check.refused(x, "a fault", x.rule(0), 4);
        Check.sentence("VIII", "5 not so (DEAD or not, no RULE holds, EMBARGO, withdrawn, answered already,"
            + " not WRONG).");
        Check.refused(x, "dead", x.tell(2), 5);
        Check.refused(x, "not dead", x.edition(1, 9, false), 5);
        Check.refused(x, "no rule holds", x.tell(0), 5);
        x.embargo(2, 9, 0);
        Check.refused(x, "embargo", x.edition(2, 9, false), 5);
        Check.refused(x, "withdrawn", x.withdraw(3), 5);
        Check.refused(x, "answered already", x.answer(0, 1), 5);
        x.correct(0, 4);
        Check.refused(x, "not wrong", x.correct(0, 4), 5);
    }

    private static void latest() {
        Check.sentence("50", "TROUBLE.");
        Check.due("of a new desk", new LivesAhead().trouble(), 0);
        LivesAhead x = desk();
        x.pass(0);
        Check.due("asked twice", x.trouble() + x.trouble(), 4);
        Check.sentence("VIII", "TROUBLE of the latest call that may be refused");
        Consumer<Runnable> stays = call -> {
            x.pass(0);
            call.run();
            Check.due("a call that tells no trouble leaves it", x.trouble(), 2);
        };
        stays.accept(() -> x.about(9, 9));
        stays.accept(() -> x.about(0, 0));
        stays.accept(() -> x.known(9, 9, 9));
        stays.accept(() -> x.knownOn(0, 1, 0));
        stays.accept(() -> x.alike(9));
        stays.accept(() -> x.apart(0, 9));
        stays.accept(() -> x.fault());
        stays.accept(() -> x.where());
        stays.accept(() -> x.paragraphOf(0, 0, 0));
        stays.accept(() -> Check.outThrows(x, 99));
        stays.accept(() -> x.cutOf());
        stays.accept(() -> x.cutLong());
        stays.accept(() -> x.fits(99));
        stays.accept(() -> x.used(0));
        stays.accept(() -> x.editionOf(0, 0));
        stays.accept(() -> x.wrong(9));
        stays.accept(() -> x.said(0, 0));
        stays.accept(() -> x.fresh(0));
        stays.accept(() -> x.takes());
        stays.accept(() -> x.freshen());
        stays.accept(() -> x.count(99));
        granted(x);
    }

    /** Each call that may be refused sets 0 if it wasn't. */
    private static void granted(LivesAhead x) {
        Consumer<Runnable> sets = call -> {
            x.pass(0);
            call.run();
            Check.due("a call that wasn't refused sets 0", x.trouble(), 0);
        };
        sets.accept(() -> x.writer(1));
        sets.accept(() -> x.hours(0, 9));
        sets.accept(() -> x.bury(3));
        sets.accept(() -> x.person(1, 1, 1, 0));
        sets.accept(() -> x.peril(0, true));
        sets.accept(() -> x.keeps(0, 1));
        sets.accept(() -> x.fact(0, 0, 0, false));
        sets.accept(() -> x.check(0, 0));
        sets.accept(() -> x.ages(0, 99));
        sets.accept(() -> Check.paragraph(x, 1, 1, -1, "a"));
        sets.accept(() -> {
            Check.feed(x, "b");
            x.rewrite(1, 0, 1);
        });
        sets.accept(() -> x.print(1, 0));
        sets.accept(() -> x.cut(1, 9, false));
        sets.accept(() -> Check.rule(x, "kin>0"));
        sets.accept(() -> x.report(0, 0, 0));
        sets.accept(() -> x.rumour(7, 0, 0, -1, 0, -1, 0, -1, 0));
        sets.accept(() -> x.withdraw(5));
        sets.accept(() -> x.may(1));
        sets.accept(() -> x.tell(0));
        sets.accept(() -> x.picture(0, 1, 0, 0, 1));
        sets.accept(() -> x.ask(0, 1));
        sets.accept(() -> x.answer(3, 1));
        sets.accept(() -> x.embargo(0, 0, 0));
        sets.accept(() -> x.edition(0, 9, false));
        sets.accept(() -> x.correct(0, 4));
        sets.accept(() -> x.week(0));
        sets.accept(() -> x.pass(1));
    }

    private static void nothingElse() {
        Check.sentence("The constants", "There is none; refused.");
        refused("writer", 2, x -> x.writer(61));
        no("hours of one that died", 1, x -> x.hours(2, 5));
        no("hours", 2, x -> x.hours(0, 61));
        refused("bury one that died", 1, x -> x.bury(2));
        refused("person of one that died", 1, x -> x.person(7, 1, 1, 2));
        refused("person", 2, x -> x.person(7, 1, 101, 0));
        no("peril", 1, x -> x.peril(3, true));
        no("keeps of a kind", 2, x -> x.keeps(10, 5));
        no("keeps of days", 2, x -> x.keeps(1, 0));
        refused("fact of nobody", 1, x -> x.fact(3, 1, 5, false));
        refused("fact of a value", 2, x -> x.fact(0, 1, 10000, false));
        no("check of none", 1, x -> x.check(0, 4));
        no("check of a kind", 2, x -> x.check(0, 10));
        refused("ages", 2, x -> x.ages(0, 3));
        refused("paragraph of nobody", 1, x -> x.paragraph(3, 1, -1, 1));
        refused("paragraph of a worth", 2, x -> x.paragraph(0, 1000, -1, 1));
        refused("paragraph that leans", 2, x -> x.paragraph(0, 1, 2, 1));
        refused("paragraph of too much", 2, x -> x.paragraph(0, 1, -1, 21));
        no("rewrite", 1, x -> x.rewrite(0, 2, 1));
        no("rewrite by too much", 2, x -> x.rewrite(0, 1, 21));
        refused("print", 1, x -> x.print(0, 2));
        refused("cut of nobody", 1, x -> x.cut(3, 5, false));
        refused("cut to a length", 2, x -> x.cut(0, 4001, false));
        refused("rule", 2, x -> x.rule(21));
        refused("report of nobody", 1, x -> x.report(3, 0, 0));
        refused("report of a day", 2, x -> x.report(0, 5, 0));
        refused("rumour", 2, x -> x.rumour(7, 0, 0, 1, 1, 1, 1, 1, 10000));
        no("withdraw none", 1, x -> x.withdraw(4));
        no("withdraw again", 5, x -> x.withdraw(3));
        refused("may of the dead", 1, x -> x.may(2));
        refused("tell of nobody", 1, x -> x.tell(3));
        refused("tell again", 5, x -> x.tell(2));
        refused("tell what isn't so", 5, x -> x.tell(0));
        refused("picture of nobody", 1, x -> x.picture(3, 9, 0, 9, 9));
        refused("picture", 2, x -> x.picture(2, 9, 9, 8, 9));
        refused("ask of nobody", 1, x -> x.ask(3, 9));
        refused("ask", 2, x -> x.ask(2, 1441));
        refused("answer none", 1, x -> x.answer(3, 9));
        refused("answer with too much", 2, x -> x.answer(1, 401));
        refused("answer again", 5, x -> x.answer(0, 9));
        no("embargo of nobody", 1, x -> x.embargo(3, 0, 0));
        no("embargo of a minute", 2, x -> x.embargo(2, 9, 1440));
        refused("edition of nobody", 1, x -> x.edition(3, 300, false));
        refused("edition of a length", 2, x -> x.edition(2, 4001, false));
        refused("edition of the living", 5, x -> x.edition(1, 300, false));
        no("correct none", 1, x -> x.correct(1, 4));
        no("correct what it didn't print", 1, x -> x.correct(0, 1));
        refused("week of one that died", 1, x -> x.week(2));
        refused("pass", 2, x -> x.pass(100001));
    }

    private static void constant() {
        Check.sentence("The constants", "`NONE = -1`");
        Check.due("NONE", LivesAhead.NONE, -1);
    }

    /** No call throws by itself, whatever the numbers; out() alone throws, and only what the document says. */
    private static void anyNumber() {
        Check.sentence("23", "Byte i of OUT. NoSuchElementException if there is none such.");
        for (Method m : LivesAhead.class.getDeclaredMethods()) {
            if (Modifier.isPublic(m.getModifiers())) {
                LivesAhead x = desk();
                int places = m.getParameterCount();
                for (int i = 0; i < 400 && (places > 0 || i == 0); i++) {
                    tried(x, m, edges(m.getParameterTypes(), i));
                }
            }
        }
    }

    /** Arguments out of the edges: all of them in turn for up to two, a good many for more. */
    private static Object[] edges(Class<?>[] types, int turn) {
        Object[] all = new Object[types.length];
        int left = types.length > 2 ? turn * 7919 + 1 : turn;
        for (int i = 0; i < types.length; i++) {
            all[i] = types[i] == boolean.class ? (Object) (left % 2 == 0) : (Object) EDGES[left % EDGES.length];
            left = types.length > 2 ? left * 31 % 10007 + i : left / EDGES.length;
        }
        return all;
    }

    private static void tried(LivesAhead x, Method m, Object[] arguments) {
        String thrown = "";
        try {
            m.invoke(x, arguments);
        } catch (InvocationTargetException e) {
            thrown = e.getCause().getClass().getSimpleName();
        } catch (IllegalAccessException e) {
            thrown = "no access";
        }
        String call = m.getName() + Arrays.toString(arguments);
        if (m.getName().equals("out")) {
            int i = (Integer) arguments[0];
            Check.due(call, thrown, i >= 0 && i < 3 ? "" : "NoSuchElementException");
        } else {
            Check.due(call, thrown, "");
        }
    }

    /** What fills one bound leaves room in all others. */
    private static void fullDesk() {
        Check.sentence("I", "PEOPLE 30, WRITERS 6, FACTS 240, PARAGRAPHS 150 (14 a story), REPORTS 120, RULES 12,"
            + " PICTURES 40, QUOTES 60, EDITIONS 80.");
        LivesAhead x = desk();
        for (int i = 0; i < 80; i++) {
            if (i < 6) {
                x.writer(1);
            }
            if (i < 30) {
                x.person(1, 1, 1, 0);
            }
            if (i < 40) {
                x.picture(0, 1, 0, 0, 1);
            }
            if (i < 60) {
                x.ask(0, 1);
            }
            x.edition(2, 1, false);
        }
        Check.due("of each its bound", x.trouble(), 3);
        int[] want = {30, 1, 5, 6, 3, 4, 1, 40, 60, 80};
        for (int what = 0; what < want.length; what++) {
            Check.due("count " + what, x.count(what), want[what]);
        }
        Check.granted(x, "a fact", x.fact(29, 9, 1, false), 1);
        Check.granted(x, "a paragraph", Check.paragraph(x, 29, 1, -1, "a"), 0);
        Check.granted(x, "a rule", Check.rule(x, "kin>0"), 2);
        Check.granted(x, "a report", x.report(29, 0, 0), 4);
        Check.granted(x, "a death", x.tell(29), 0);
    }
}
