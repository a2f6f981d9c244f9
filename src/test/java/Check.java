import java.util.ArrayList;
import java.util.List;
import java.util.NoSuchElementException;
import java.util.function.Supplier;
import java.util.function.ToIntBiFunction;

/** What the tests share: a call whose answer is not the one that is due is printed, and the test ends with 1. */
final class Check {
    static final int UNKNOWN = Integer.MIN_VALUE;

    /** A sentence of the document, by its promise or term, and how many answers were asked ahead of its test. */
    record Sentence(String from, String words, int askedAhead) { }

    private static final List<Sentence> SENTENCES = new ArrayList<>();
    private static int asked = 0;
    private static int wrong = 0;
    private static String within = "";

    private Check() {
    }

    /** What is asked from here on holds this sentence: "II" is from a term, "2" from a promise. */
    static void sentence(String from, String words) {
        SENTENCES.add(new Sentence(from, words, asked));
        within = from + " '" + words + "': ";
    }

    static List<Sentence> sentences() {
        return SENTENCES;
    }

    static int asked() {
        return asked;
    }

    private static void wrong(String told) {
        wrong++;
        System.out.println(within + told);
    }

    static void due(String what, long got, long want) {
        asked++;
        if (got != want) {
            wrong(what + " answered " + got + ", due is " + want);
        }
    }

    static void due(String what, boolean got, boolean want) {
        due(what, got ? 1 : 0, want ? 1 : 0);
    }

    static void due(String what, String got, String want) {
        asked++;
        if (!got.equals(want)) {
            wrong(what + " answered '" + got + "', due is '" + want + "'");
        }
    }

    /** A call that was refused, and by which trouble. */
    static void refused(LivesAhead x, String what, int got, int trouble) {
        due(what, got, LivesAhead.NONE);
        due(what + ": trouble", x.trouble(), trouble);
    }

    static void refused(LivesAhead x, String what, boolean got, int trouble) {
        due(what, got, false);
        due(what + ": trouble", x.trouble(), trouble);
    }

    static void granted(LivesAhead x, String what, int got, int want) {
        due(what, got, want);
        due(what + ": trouble", x.trouble(), 0);
    }

    static void granted(LivesAhead x, String what, boolean got) {
        due(what, got, true);
        due(what + ": trouble", x.trouble(), 0);
    }

    /** A number is granted from the least to the most and refused by a trouble outside; each on a desk of its own. */
    static void bounds(Supplier<LivesAhead> desk, int least, int most, int trouble,
            ToIntBiFunction<LivesAhead, Integer> call) {
        for (int number : new int[] {least, most}) {
            LivesAhead x = desk.get();
            due(number + " isn't refused", call.applyAsInt(x, number) != LivesAhead.NONE, true);
            due(number + ": trouble", x.trouble(), 0);
        }
        for (int number : new int[] {Integer.MIN_VALUE, least - 1, most + 1, Integer.MAX_VALUE}) {
            LivesAhead x = desk.get();
            refused(x, String.valueOf(number), call.applyAsInt(x, number), trouble);
        }
    }

    static int asNumber(boolean granted) {
        return granted ? 1 : LivesAhead.NONE;
    }

    /** Lets the time go by up to a minute of a day that is not past. */
    static void until(LivesAhead x, int day, int minute) {
        int left = (day - x.count(10)) * 1440 + minute - x.count(11);
        for (; left > 100000; left -= 100000) {
            x.pass(100000);
        }
        if (left > 0) {
            x.pass(left);
        }
    }

    static void feed(LivesAhead x, String text) {
        for (int at = 0; at < text.length(); at += 20) {
            x.feed(four(text, at), four(text, at + 4), four(text, at + 8), four(text, at + 12), four(text, at + 16));
        }
    }

    private static int four(String text, int at) {
        int number = 0;
        for (int i = at; i < at + 4; i++) {
            number = number << 8 | (i < text.length() ? text.charAt(i) & 255 : ' ');
        }
        return number;
    }

    static int paragraph(LivesAhead x, int person, int worth, int lean, String text) {
        feed(x, text);
        return x.paragraph(person, worth, lean, text.length());
    }

    static int rule(LivesAhead x, String text) {
        feed(x, text);
        return x.rule(text.length());
    }

    static String printed(LivesAhead x, int person, int place) {
        int length = x.print(person, place);
        StringBuilder text = new StringBuilder();
        for (int i = 0; i < length; i++) {
            text.append((char) x.out(i));
        }
        return text.toString();
    }

    static boolean outThrows(LivesAhead x, int i) {
        try {
            x.out(i);
            return false;
        } catch (NoSuchElementException e) {
            return true;
        }
    }

    static void faulty(String text, int fault, int where) {
        LivesAhead x = new LivesAhead();
        x.writer(1);
        x.person(1, 1, 1, 0);
        refused(x, "paragraph '" + text + "'", paragraph(x, 0, 1, -1, text), 4);
        due("fault of '" + text + "'", x.fault(), fault);
        due("where of '" + text + "'", x.where(), where);
        due("tape behind '" + text + "'", x.count(12), 0);
        due("paragraphs behind '" + text + "'", x.count(4), 0);
    }

    static void faultyRule(String text, int fault, int where) {
        LivesAhead x = new LivesAhead();
        refused(x, "rule '" + text + "'", rule(x, text), 4);
        due("fault of rule '" + text + "'", x.fault(), fault);
        due("where of rule '" + text + "'", x.where(), where);
        due("tape behind rule '" + text + "'", x.count(12), 0);
        due("rules behind '" + text + "'", x.count(6), 0);
    }

    /** What a paragraph of this text prints of a person born 21,900 days ahead, worth 50, with k1 5, k2 -7, k3 sealed. */
    static void prints(String text, String want) {
        LivesAhead x = new LivesAhead();
        x.writer(1);
        x.person(1, 21900, 50, 0);
        x.fact(0, 1, 5, false);
        x.fact(0, 2, -7, false);
        x.fact(0, 3, 33, true);
        granted(x, "paragraph '" + text + "'", paragraph(x, 0, 1, -1, text), 0);
        due("fault of '" + text + "'", x.fault(), 0);
        due("length of '" + text + "'", x.paragraphOf(0, 0, 2), want.length());
        due("print of '" + text + "'", printed(x, 0, 0), want);
    }

    static void end(String test) {
        System.out.println(test + ": " + asked + " answers, " + wrong + " not as due");
        if (wrong != 0) {
            System.exit(1);
        }
    }
}
