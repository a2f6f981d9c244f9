/** Promises 16 to 26: the tape, paragraphs and their faults, what is printed, cuts. */
public final class ParagraphTest {
    public static void main(String[] args) {
        tape();
        printedTexts();
        formFaults();
        nameFaults();
        manyFaults();
        readAnew();
        refusals();
        rewrites();
        faultAndWhere();
        paragraphAnswers();
        printedByDay();
        outStays();
        cuts();
        tiedCuts();
        cutsWithoutMarked();
        Check.end("ParagraphTest");
    }

    private static LivesAhead desk() {
        LivesAhead x = new LivesAhead();
        x.writer(10);
        x.person(1, 21900, 50, 0);
        x.person(2, 366, 7, 0);
        return x;
    }

    private static void tape() {
        LivesAhead x = desk();
        for (int i = 1; i <= 20; i++) {
            Check.due("feed", x.feed(0x61626364, 0x65666768, 0x7b7d7c20, -1, 0), 20 * i);
        }
        Check.due("feed beyond", x.feed(1, 2, 3, 4, 5), -1);
        Check.due("nothing came", x.count(12), 400);
        Check.granted(x, "the highest first", x.paragraph(0, 1, -1, 8), 0);
        Check.due("empty then", x.count(12), 0);
        Check.due("bytes", Check.printed(x, 0, 0), "abcdefgh");
        x.feed(0x61626364, 0x65666768, 0x69, -1, 0);
        x.paragraph(0, 1, -1, 9);
        Check.due("a byte that can't be", x.fault(), 1);
        Check.due("at it", x.where(), 8);
        x.feed(0x617f6364, 0, 0, 0, 0);
        x.paragraph(0, 1, -1, 3);
        Check.due("127 can't be", x.where(), 1);
        x.feed(0x617e2064, 0, 0, 0, 0);
        Check.granted(x, "126 and 32 can be", x.paragraph(0, 1, -1, 4), 1);
        x.feed(0x6180a0ff, 0, 0, 0, 0);
        x.paragraph(0, 1, -1, 4);
        Check.due("128 can't be", x.where(), 1);
    }

    private static void printedTexts() {
        Check.prints("x", "x");
        Check.prints(" a: b + (c) = 1 ", " a: b + (c) = 1 ");
        Check.prints("{ age }", "60");
        Check.prints("{born}", "40");
        Check.prints("{year}{worth}", "10050");
        Check.prints("{k1}{k2}{k3}{k4}", "5-700");
        Check.prints("{0}{0000}{0009}{9999}", "0099999");
        Check.prints("{1-2-3+1}", "-3");
        Check.prints("{  k1  -  k2  }", "12");
        Check.prints("{9999+9999+9999+9999+9999+9999+9999+9999+9999+9999+9999}", "109989");
        Check.prints("{0-9999-9999-9999-9999-9999-9999-9999-9999-9999-9999-9999}", "-109989");
        Check.prints("{if dead:a|b}", "b");
        Check.prints("{if dead:a}", "");
        Check.prints("{ if dead :a| b }", " b ");
        Check.prints("{if not dead:a|b}", "a");
        Check.prints("{if not not dead:a|b}", "b");
        Check.prints("{if has k1:y|n}{if has k3:y|n}{if has k4:y|n}", "ynn");
        Check.prints("{if stale k1:y|n}{if stale k4:y|n}", "nn");
        Check.prints("{if 1<2:y|n}{if 2<2:y|n}{if 2>1:y|n}{if 2>2:y|n}{if 2=2:y|n}{if 2=1:y|n}", "ynynyn");
        Check.prints("{if k1 + 1 > worth - 45 :y|n}", "y");
        Check.prints("{if 1=1 and 1=2:y|n}{if 1=2 and 1=1:y|n}{if 1=1 and 2=2 and 3=3:y|n}", "nny");
        Check.prints("{if 1=2 or 1=1:y|n}{if 1=2 or 1=3 or dead:y|n}", "yn");
        Check.prints("{if not 1=1 or not dead:y|n}", "y");
        Check.prints("{if not 1=2 and not dead:y|n}", "y");
        Check.prints("{if 3>2and 1<2:y|n}", "y");
        Check.prints("{if dead:a|b{if 1=1:c{k1}|d}e}f", "bc5ef");
        Check.prints("{if 1=1:{if dead:a}|b}", "");
        Check.prints("{if dead:{if dead:a|b}|{if dead:c|d}}", "d");
        Check.prints("{if 1=1:{if 1=1:{if 1=1:{if 1=1:{if 1=1:x}}}}}y", "xy");
        Check.prints("{if dead:a}{if 1=1:b}{if dead:c|d}", "bd");
        Check.prints("():,;<>=+-", "():,;<>=+-");
        Check.prints("{if 1=1 and 1=2:y|n}{if 1=1 or 1=2:y|n}{if not 1=1 and 1=1:y|n}", "nyn");
    }

    private static void formFaults() {
        Check.faulty("", 1, 0);
        Check.faulty("|", 1, 0);
        Check.faulty("}", 1, 0);
        Check.faulty("a{age}}", 1, 6);
        Check.faulty("a{age}|b", 1, 6);
        Check.faulty("{", 1, 1);
        Check.faulty("{   ", 1, 4);
        Check.faulty("{age ", 1, 5);
        Check.faulty("{age + }", 1, 7);
        Check.faulty("{+age}", 1, 1);
        Check.faulty("{-1}", 1, 1);
        Check.faulty("{age 1}", 1, 5);
        Check.faulty("{1 age}", 1, 3);
        Check.faulty("{1 heat}", 1, 3);
        Check.faulty("{1x}", 1, 2);
        Check.faulty("{(1)}", 1, 1);
        Check.faulty("{1)}", 1, 2);
        Check.faulty("{1:x}", 1, 2);
        Check.faulty("{1<2}", 1, 2);
        Check.faulty("{{1}}", 1, 1);
        Check.faulty("{1{", 1, 2);
        Check.faulty("{1|", 1, 2);
        Check.faulty("{1 and 2}", 1, 3);
        Check.faulty("{and}", 1, 1);
        Check.faulty("{or}", 1, 1);
        Check.faulty("{not dead}", 1, 1);
        Check.faulty("{has k1}", 1, 1);
        Check.faulty("{stale k1}", 1, 1);
        Check.faulty("{dead}", 1, 1);
        Check.faulty("{1+if}", 1, 3);
        Check.faulty("{1+dead}", 1, 3);
        Check.faulty("{A}", 1, 1);
        Check.faulty("{age\u0001}", 1, 4);
        Check.faulty("{12345}", 1, 1);
        Check.faulty("{1+00001}", 1, 3);
        Check.faulty("{abcdefghi}", 1, 1);
        Check.faulty("{k11}", 1, 3);
        Check.faulty("{k1 1}", 1, 4);
        Check.faulty("{if if dead:x}", 1, 4);
        Check.faulty("{if and dead:x}", 1, 4);
        Check.faulty("{if :x}", 1, 4);
        Check.faulty("{if not:x}", 1, 7);
        Check.faulty("{if dead dead:x}", 1, 9);
        Check.faulty("{if dead = 1:x}", 1, 9);
        Check.faulty("{if has:x}", 1, 7);
        Check.faulty("{if has heat:x}", 1, 8);
        Check.faulty("{if has k:x}", 1, 8);
        Check.faulty("{if stale worth:x}", 1, 10);
        Check.faulty("{if has 1:x}", 1, 8);
        Check.faulty("{if has and:x}", 1, 8);
        Check.faulty("{if 1:x}", 1, 5);
        Check.faulty("{if 1<2<3:x}", 1, 7);
        Check.faulty("{if 1<:x}", 1, 6);
        Check.faulty("{if 1<dead:x}", 1, 6);
        Check.faulty("{if 1<not 1:x}", 1, 6);
        Check.faulty("{if 1<2 and:x}", 1, 11);
        Check.faulty("{if 1<2 and4>3:x}", 1, 8);
        Check.faulty("{if dead or dead and dead:x}", 1, 17);
        Check.faulty("{if 1<2}", 1, 7);
        Check.faulty("{if dead|x}", 1, 8);
        Check.faulty("{if dead:|x}", 1, 9);
        Check.faulty("{if dead:x|", 1, 11);
        Check.faulty("{if dead:x|}", 1, 11);
        Check.faulty("{if dead:x", 1, 10);
        Check.faulty("{if dead:", 1, 9);
        Check.faulty("{if dead:x}}", 1, 11);
        Check.faulty("{if dead:{if dead:}}", 1, 18);
        Check.faulty("{if dead:x|{if dead:y|z|w}}", 1, 23);
        Check.faulty("{if dead:a|b|c}", 1, 12);
    }

    private static void nameFaults() {
        Check.faulty("{heat}", 2, 1);
        Check.faulty("{zeta}", 2, 1);
        Check.faulty("{azaz}", 2, 1);
        Check.faulty("{xge}", 2, 1);
        Check.faulty("{agx}", 2, 1);
        Check.faulty("{xorth}", 2, 1);
        Check.faulty("{  heat}", 2, 3);
        Check.faulty("{k}", 2, 1);
        Check.faulty("{k 1}", 2, 1);
        Check.faulty("{kk1}", 2, 1);
        Check.faulty("{if1 dead:x}", 2, 1);
        Check.faulty("{ifdead:x}", 2, 1);
        Check.faulty("{abcdefgh}", 2, 1);
        Check.faulty("{abcdefgh9}", 2, 1);
        Check.faulty("{age1}", 2, 1);
        Check.faulty("{1+kin}", 2, 3);
        Check.faulty("{doctor}", 2, 1);
        Check.faulty("{hours}", 2, 1);
        Check.faulty("{sources}", 2, 1);
        Check.faulty("{if heat:x}", 2, 4);
        Check.faulty("{if not heat:x}", 2, 8);
        Check.faulty("{if not1 dead:x}", 2, 4);
        Check.faulty("{if dead and rival:x}", 2, 13);
        Check.faulty("{if dead5:x}", 2, 4);
        Check.faulty("{if 1 < heat:x}", 2, 8);
    }

    private static void manyFaults() {
        String five = "{if dead:{if dead:{if dead:{if dead:{if dead:";
        Check.faulty(five + "a{ if", 3, 46);
        Check.faulty(five + "a|b{if dead:x}}}}}}", 3, 48);
        Check.faulty(five + "a}{if dead:{if dead:x", 3, 56);
        Check.faulty(five + "{ifx", 2, 46);
        Check.faulty(five + "\u0001", 1, 45);
        String sixty = "a{if dead:b}".repeat(20);
        Check.faulty(sixty + "\u0007", 1, 240);
        Check.faulty(sixty + "}", 1, 240);
        Check.faulty(sixty + "{heat}", 3, 240);
        Check.faulty(sixty + "a\u0007", 3, 240);
        String thirty = "{1" + "+1".repeat(29);
        Check.faulty(thirty + "}{age}", 3, 62);
        Check.faulty(thirty + "+age", 3, 61);
        Check.faulty(thirty + "+heat}", 2, 61);
        Check.faulty(thirty + "+11111}", 1, 61);
        Check.faulty(thirty + "}{if 1<2:x}", 3, 65);
        LivesAhead x = desk();
        Check.granted(x, "sixty pieces", Check.paragraph(x, 0, 1, -1, sixty), 0);
        Check.due("sixty", x.paragraphOf(0, 0, 5), 60);
        Check.granted(x, "thirty terms", Check.paragraph(x, 0, 1, -1, thirty + "}{if has k1 or stale k2:x}"), 1);
        Check.due("kinds of questions count too", x.paragraphOf(0, 1, 4), 6);
        Check.granted(x, "five again", Check.paragraph(x, 0, 1, -1, five + "a}}}}}" + five + "a}}}}}"), 2);
    }

    /** Nothing of a text that had a fault is left for the next one. */
    private static void readAnew() {
        LivesAhead x = desk();
        Check.paragraph(x, 0, 1, -1, "{if k1 > 1 or dead:a|{if dead:b|c" + "{1+1}".repeat(4));
        Check.refused(x, "nothing is open", Check.paragraph(x, 0, 1, -1, "a}"), 4);
        Check.due("nothing is open", x.where(), 1);
        Check.granted(x, "one if", Check.paragraph(x, 0, 1, -1, "{if dead:x|y}{if 1=1 and 2=2:z}"), 0);
        Check.due("its kinds", x.paragraphOf(0, 0, 4), 0);
        Check.due("its pieces", x.paragraphOf(0, 0, 5), 5);
        Check.due("it prints", Check.printed(x, 0, 0), "yz");
        Check.rule(x, "kin > 1 or kin >");
        Check.granted(x, "a rule anew", Check.rule(x, "kin > 1 and kin > 2"), 1);
    }

    private static void refusals() {
        LivesAhead x = desk();
        Check.feed(x, "{");
        int tape = x.count(12);
        Check.refused(x, "nobody", x.paragraph(2, 1000, 5, 401), 1);
        Check.refused(x, "worth", x.paragraph(0, 1000, -1, 1), 2);
        Check.refused(x, "worth", x.paragraph(0, -1, -1, 1), 2);
        Check.refused(x, "lean below none", x.paragraph(0, 1, -2, 1), 2);
        Check.refused(x, "lean on itself", x.paragraph(0, 1, 0, 1), 2);
        Check.refused(x, "more than the tape has", x.paragraph(0, 1, -1, 21), 2);
        Check.refused(x, "below", x.paragraph(0, 1, -1, -1), 2);
        Check.due("the tape stays", x.count(12), tape);
        Check.refused(x, "a fault", x.paragraph(0, 1, -1, 1), 4);
        Check.due("the tape is empty", x.count(12), 0);
        for (int i = 0; i < 14; i++) {
            Check.granted(x, "paragraph", Check.paragraph(x, 0, i == 0 ? 0 : 999, i - 1, "x"), i);
        }
        Check.refused(x, "a fault ahead of no room", Check.paragraph(x, 0, 1, 13, "}"), 4);
        Check.refused(x, "a 15th", Check.paragraph(x, 0, 1, 13, "x"), 3);
        Check.due("no fault", x.fault(), 0);
        Check.due("nowhere", x.where(), -1);
        Check.due("the tape is empty", x.count(12), 0);
        Check.due("paragraphs", x.about(0, 7), 14);
        for (int person = 1; person < 12; person++) {
            x.person(person, 1, 1, 0);
            for (int i = 0; i < 14 && x.count(4) < 150; i++) {
                Check.paragraph(x, person, 1, -1, "y");
            }
        }
        Check.due("in all", x.count(4), 150);
        Check.due("of the last", x.about(10, 7), 10);
        Check.refused(x, "a 151st", Check.paragraph(x, 11, 1, -1, "x"), 3);
    }

    private static void rewrites() {
        LivesAhead x = desk();
        Check.paragraph(x, 0, 5, -1, "{k1}");
        Check.paragraph(x, 0, 6, 0, "b");
        Check.feed(x, "new {k2}");
        Check.refused(x, "nobody", x.rewrite(2, 0, 99), 1);
        Check.refused(x, "no such place", x.rewrite(0, 2, 99), 1);
        Check.refused(x, "no such place", x.rewrite(0, -1, 8), 1);
        Check.refused(x, "too many", x.rewrite(0, 1, 21), 2);
        Check.refused(x, "below", x.rewrite(0, 1, -1), 2);
        Check.due("the tape stays", x.count(12), 20);
        Check.granted(x, "rewrite", x.rewrite(0, 1, 8));
        Check.due("the tape is empty", x.count(12), 0);
        Check.due("print", Check.printed(x, 0, 1), "new 0");
        Check.due("worth stays", x.paragraphOf(0, 1, 0), 6);
        Check.due("lean stays", x.paragraphOf(0, 1, 1), 0);
        Check.due("kinds", x.paragraphOf(0, 1, 4), 4);
        Check.due("pieces", x.paragraphOf(0, 1, 5), 2);
        Check.due("no more", x.count(4), 2);
        Check.refused(x, "of nothing", x.rewrite(0, 1, 0), 4);
        Check.feed(x, "{heat}");
        Check.refused(x, "a fault", x.rewrite(0, 1, 6), 4);
        Check.due("fault", x.fault(), 2);
        Check.due("where", x.where(), 1);
        Check.due("the tape is empty", x.count(12), 0);
        Check.due("it stays", Check.printed(x, 0, 1), "new 0");
    }

    private static void faultAndWhere() {
        LivesAhead x = desk();
        Check.paragraph(x, 0, 1, -1, "ab{heat}");
        Check.due("where", x.where(), 3);
        Check.feed(x, "x");
        Check.due("feed leaves it", x.where(), 3);
        Check.refused(x, "refused by 2", x.paragraph(0, -1, -1, 1), 2);
        Check.due("fault stays", x.fault(), 2);
        Check.due("where is none", x.where(), -1);
        x.paragraph(9, 1, -1, 1);
        Check.due("fault stays", x.fault(), 2);
        x.rule(99);
        Check.due("fault stays", x.fault(), 2);
        x.rewrite(0, 9, 1);
        Check.due("fault stays", x.fault(), 2);
        x.pass(1);
        Check.due("fault stays", x.fault(), 2);
        x.paragraph(0, 1, -1, 1);
        Check.due("no fault", x.fault(), 0);
        Check.rule(x, "kin");
        Check.due("of a rule", x.fault(), 1);
        Check.due("of a rule", x.where(), 3);
        x.peril(0, true);
        Check.due("another call wasn't refused by 4", x.where(), -1);
        Check.due("fault stays", x.fault(), 1);
    }

    private static void paragraphAnswers() {
        LivesAhead x = desk();
        x.fact(0, 1, 12, false);
        x.fact(0, 2, 1, true);
        x.keeps(2, 3);
        Check.paragraph(x, 0, 999, -1, "a{k1}b");
        Check.paragraph(x, 0, 0, 0, "{if has k9:{k2}|z}");
        Check.paragraph(x, 0, 1, 1, "{if stale k2:old|new}");
        int[] first = {999, -1, 4, 0, 2, 3, -1};
        int[] second = {0, 0, 1, 1, 516, 3, -1};
        for (int what = 0; what < first.length; what++) {
            Check.due("first " + what, x.paragraphOf(0, 0, what), first[what]);
            Check.due("second " + what, x.paragraphOf(0, 1, what), second[what]);
        }
        Check.due("below", x.paragraphOf(0, 0, -1), -1);
        Check.due("no such place", x.paragraphOf(0, 3, 0), -1);
        Check.due("no such place", x.paragraphOf(0, -1, 0), -1);
        Check.due("nobody", x.paragraphOf(2, 0, 0), -1);
        Check.due("not marked", x.paragraphOf(0, 2, 3), 0);
        Check.due("new", Check.printed(x, 0, 2), "new");
        x.pass(1440 * 4);
        Check.due("marked", x.paragraphOf(0, 2, 3), 1);
        Check.due("old, though sealed", Check.printed(x, 0, 2), "old");
        x.check(0, 2);
        Check.due("not marked", x.paragraphOf(0, 2, 3), 0);
        Check.due("new", Check.printed(x, 0, 2), "new");
    }

    private static void printedByDay() {
        LivesAhead x = desk();
        x.person(3, 1, 1, 0);
        x.person(3, 365, 1, 0);
        x.fact(0, 0, 4, false);
        Check.paragraph(x, 0, 1, -1, "{if has k0:{k0}|no}");
        Check.paragraph(x, 1, 1, -1, "{born} {age} {year} {worth}");
        Check.paragraph(x, 1, 1, -1, "{if has k0:{k0}|no}");
        Check.due("has", Check.printed(x, 0, 0), "4");
        Check.due("another has not", Check.printed(x, 1, 1), "no");
        Check.paragraph(x, 2, 1, -1, "{born}");
        Check.paragraph(x, 3, 1, -1, "{born}");
        Check.due("born 366 days ahead", Check.printed(x, 1, 0), "98 1 100 7");
        Check.due("born a day ahead", Check.printed(x, 2, 0), "99");
        Check.due("born a year ahead", Check.printed(x, 3, 0), "99");
        for (int i = 0; i < 364; i++) {
            x.pass(1440);
        }
        Check.due("on day 364", Check.printed(x, 1, 0), "98 2 100 7");
        x.pass(1440);
        Check.due("on day 365", Check.printed(x, 1, 0), "98 2 101 7");
    }

    private static void outStays() {
        LivesAhead x = desk();
        Check.paragraph(x, 0, 1, -1, "first");
        Check.paragraph(x, 0, 1, -1, "{if dead:x}");
        Check.granted(x, "print", x.print(0, 0), 5);
        x.paragraphOf(0, 1, 2);
        x.cut(0, 100, false);
        Check.due("it stays", x.out(4), 't');
        Check.due("behind it", Check.outThrows(x, 5), true);
        Check.due("ahead of it", Check.outThrows(x, -1), true);
        Check.refused(x, "no such place", x.print(0, 2), 1);
        Check.refused(x, "nobody", x.print(5, 0), 1);
        Check.due("it stays", x.out(0), 'f');
        Check.granted(x, "print nothing", x.print(0, 1), 0);
        Check.due("nothing", Check.outThrows(x, 0), true);
        LivesAhead y = desk();
        y.fact(0, 0, -9999, false);
        String text = "{k0}".repeat(30) + "x".repeat(280);
        Check.paragraph(y, 0, 1, -1, text);
        Check.due("a long one", Check.printed(y, 0, 0), "-9999".repeat(30) + "x".repeat(280));
    }

    private static void cutIs(LivesAhead x, int length, boolean without, int worth, int bits, int longs) {
        String what = "cut to " + length;
        Check.granted(x, what, x.cut(0, length, without), worth);
        Check.due(what + ": bits", x.cutOf(), bits);
        Check.due(what + ": length", x.cutLong(), longs);
    }

    private static void cuts() {
        LivesAhead x = desk();
        cutIs(x, 10, false, 0, 0, 0);
        Check.paragraph(x, 0, 1, -1, "aaaaaaaa");
        Check.paragraph(x, 0, 10, 0, "bb");
        Check.paragraph(x, 0, 4, -1, "cccc");
        Check.paragraph(x, 0, 20, 1, "d");
        cutIs(x, 4000, false, 35, 15, 18);
        cutIs(x, 18, false, 35, 15, 18);
        cutIs(x, 17, false, 31, 11, 13);
        cutIs(x, 12, false, 11, 3, 11);
        cutIs(x, 10, false, 4, 4, 4);
        cutIs(x, 3, false, 0, 0, 0);
        cutIs(x, 0, false, 0, 0, 0);
        Check.refused(x, "nobody", x.cut(9, 5000, false), 1);
        Check.refused(x, "length", x.cut(0, -1, false), 2);
        Check.refused(x, "length", x.cut(0, 4001, false), 2);
        x.cut(0, 12, false);
        x.cut(0, 4001, false);
        Check.due("of the latest that told a number", x.cutOf(), 3);
        Check.due("of the latest that told a number", x.cutLong(), 11);
    }

    private static void tiedCuts() {
        LivesAhead x = desk();
        Check.paragraph(x, 0, 5, -1, "aaa");
        Check.paragraph(x, 0, 5, -1, "bb");
        Check.paragraph(x, 0, 5, -1, "cc");
        Check.paragraph(x, 0, 10, -1, "ddddd");
        cutIs(x, 3, false, 5, 2, 2);
        cutIs(x, 5, false, 10, 6, 5);
        cutIs(x, 6, false, 10, 6, 5);
        LivesAhead y = desk();
        Check.paragraph(y, 0, 0, -1, "{if dead:x}");
        Check.paragraph(y, 0, 0, -1, "{if dead:y}");
        cutIs(y, 0, false, 0, 1, 0);
        Check.paragraph(y, 0, 5, -1, "abc");
        cutIs(y, 9, false, 5, 4, 3);
        Check.paragraph(y, 0, 5, 1, "z");
        cutIs(y, 9, false, 10, 14, 6);
        cutIs(y, 2, false, 5, 10, 2);
        LivesAhead z = desk();
        for (int i = 0; i < 14; i++) {
            Check.paragraph(z, 0, 10, -1, "0123456789");
        }
        cutIs(z, 76, false, 70, 127, 76);
        cutIs(z, 75, false, 60, 63, 65);
        cutIs(z, 4000, false, 140, 16383, 153);
    }

    private static void cutsWithoutMarked() {
        LivesAhead x = desk();
        x.fact(0, 1, 1, false);
        x.fact(0, 2, 1, false);
        x.keeps(1, 1);
        Check.paragraph(x, 0, 9, -1, "{k1}");
        Check.paragraph(x, 0, 9, 0, "b");
        Check.paragraph(x, 0, 9, -1, "{k2}");
        Check.paragraph(x, 0, 9, -1, "{if has k3:c|d}");
        cutIs(x, 100, true, 27, 7, 5);
        x.pass(2880);
        cutIs(x, 100, true, 9, 4, 1);
        cutIs(x, 100, false, 36, 15, 7);
    }
}
