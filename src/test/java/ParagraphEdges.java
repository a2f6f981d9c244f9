/** The sentences on paragraphs, what is printed, and cuts: terms III and IV, promises 16 to 26. */
final class ParagraphEdges {
    private static final String FIVE = "{if dead:{if dead:{if dead:{if dead:{if dead:";
    private static final String SIXTY = "a{if dead:b}".repeat(20);
    private static final String THIRTY = "{1" + "+1".repeat(29);
    private static final int[] NOT_ONE = {Integer.MIN_VALUE, -1, 2, Integer.MAX_VALUE};

    private ParagraphEdges() {
    }

    static void run() {
        bytes();
        pieces();
        tokens();
        tests();
        plainAgain();
        order();
        formFaults();
        nameFaults();
        manyFaults();
        sums();
        ageAndBorn();
        factsPrinted();
        worthAndLean();
        marked();
        cutLengths();
        cutLeans();
        cutTies();
        cutWithoutMarked();
        feed();
        paragraphTape();
        paragraphRefused();
        paragraphRoom();
        rewrite();
        fault();
        where();
        paragraphOf();
        printAndOut();
        cutCall();
    }

    /** Two people, a story of neither. */
    private static LivesAhead desk() {
        LivesAhead x = new LivesAhead();
        x.writer(10);
        x.person(1, 21900, 50, 0);
        x.person(2, 366, 7, 0);
        return x;
    }

    /** A desk with a byte on its tape. */
    private static LivesAhead taped() {
        LivesAhead x = desk();
        Check.feed(x, "a");
        return x;
    }

    private static void dies(LivesAhead x, int person, int day) {
        Check.rule(x, "kin>0");
        x.report(person, day, 0);
        x.tell(person);
    }

    // ---- term III: texts

    private static void bytes() {
        Check.sentence("III", "THE TAPE has 400 bytes, each from 32 to 126, else FAULT 1");
        for (int b = 0; b < 256; b++) {
            LivesAhead x = desk();
            x.feed(0x61000000 | b << 16 | 0x6161, 0, 0, 0, 0);
            boolean plain = b >= 32 && b <= 126 && b != '{' && b != '|' && b != '}';
            Check.due("byte " + b, x.paragraph(0, 1, -1, 4), plain ? 0 : -1);
            Check.due("byte " + b + ": fault", x.fault(), plain ? 0 : b == '{' ? 2 : 1);
            Check.due("byte " + b + ": where", x.where(), plain ? -1 : b == '{' ? 2 : 1);
        }
        LivesAhead y = desk();
        Check.granted(y, "all 400", Check.paragraph(y, 0, 1, -1, "~".repeat(399) + " "), 0);
        Check.due("all are printed", y.print(0, 0), 400);
        Check.due("the last", y.out(399), 32);
        Check.due("the last but one", y.out(398), 126);
    }

    private static void pieces() {
        Check.sentence("III", "TEXT: PIECE {PIECE}.");
        Check.faulty("", 1, 0);
        LivesAhead x = desk();
        Check.paragraph(x, 0, 1, -1, "a");
        Check.paragraph(x, 0, 1, -1, "a{age}b{age}{age}");
        Check.paragraph(x, 0, 1, -1, "{if dead:a}");
        Check.paragraph(x, 0, 1, -1, "{if dead:a|b{1}}c");
        Check.sentence("III", "PIECE: as many bytes as stand together that are none of {, }, |;");
        Check.paragraph(x, 0, 1, -1, " : <>=+-()if dead and ~".repeat(16));
        int[] many = {1, 5, 2, 5, 1};
        for (int place = 0; place < many.length; place++) {
            Check.due("pieces", x.paragraphOf(0, place, 5), many[place]);
        }
        Check.sentence("III", "or { SUM }; or { if TEST : TEXT }, or { if TEST : TEXT | TEXT }");
        Check.prints("{1}{if 1=1:a}{if 1=2:b}{if 1=1:c|d}{if 1=2:e|f}", "1acf");
        Check.faulty("{if dead:a|b|c}", 1, 12);
        Check.faulty("{if dead:a|{if dead:b|c}|d}", 1, 24);
        Check.faulty("{if dead:{if dead:a|b}|c|d}", 1, 24);
        Check.faulty("{if dead a}", 1, 9);
        Check.faulty("{1|2}", 1, 2);
        Check.faulty("{}", 1, 1);
        Check.faulty("{if}", 1, 3);
    }

    private static void tokens() {
        Check.sentence("III", "within { } ahead of the : blanks part TOKENS and mean nothing else");
        Check.prints("{   1   +   2   }{   if   not   1   <   1   :a}", "3a");
        Check.prints("{1+2}{if not 1<1:a}", "3a");
        Check.faulty("{ }", 1, 2);
        Check.faulty("{1 2}", 1, 3);
        Check.faulty("{a ge}", 2, 1);
        Check.faulty("{k 1}", 2, 1);
        Check.faulty("{i f dead:a}", 2, 1);
        Check.faulty("{\t1}", 1, 1);
        Check.faulty("{1\n}", 1, 2);
        Check.sentence("III", "WORDS of 1 to 8 small letters that stand together and the digit right behind them,"
            + " if there is one");
        Check.faulty("{a}", 2, 1);
        Check.faulty("{abcdefgh}", 2, 1);
        Check.faulty("{abcdefgh7}", 2, 1);
        Check.faulty("{abcdefghi}", 1, 1);
        Check.faulty("{abcdefghi7}", 1, 1);
        Check.faulty("{" + "a".repeat(399), 1, 1);
        Check.faulty("{k12}", 1, 3);
        Check.faulty("{Age}", 1, 1);
        Check.faulty("{agE}", 2, 1);
        Check.faulty("{`}", 1, 1);
        Check.prints("{if has k1and 1=1:a|b}", "a");
        Check.sentence("III", "WHOLES of 1 to 4 digits that stand together");
        Check.prints("{0} {9} {0000} {0010} {9999}", "0 9 0 10 9999");
        Check.faulty("{00000}", 1, 1);
        Check.faulty("{12345}", 1, 1);
        Check.faulty("{1" + "0".repeat(398), 1, 1);
        Check.faulty("{k112345}", 1, 3);
        Check.faulty("{1.5}", 1, 2);
        Check.sentence("III", "single ones of < > = + - ( ) : { }");
        for (int b = 0; b < 256; b++) {
            afterOne(b);
        }
        Check.faulty("{(1)}", 1, 1);
        Check.faulty("{if (1=1):a}", 1, 4);
    }

    /** What a byte behind the whole of "{1" means, with a } behind it. */
    private static void afterOne(int b) {
        LivesAhead x = desk();
        x.feed(0x7b31007d | b << 8, 0, 0, 0, 0);
        boolean good = b == ' ' || b >= '0' && b <= '9';
        int where = b == '+' || b == '-' || b == '}' ? 3 : 2;
        Check.due("byte " + b, x.paragraph(0, 1, -1, 4), good ? 0 : -1);
        Check.due("byte " + b + ": fault", x.fault(), good ? 0 : 1);
        Check.due("byte " + b + ": where", x.where(), good ? -1 : where);
    }

    private static void tests() {
        Check.sentence("III", "TEST: ONE {and ONE}, or ONE {or ONE} (never both in one TEST).");
        Check.faulty("{if 1=1 and 1=1 or 1=1:a}", 1, 16);
        Check.faulty("{if 1=1 or 1=1 and 1=1:a}", 1, 15);
        Check.faulty("{if dead or dead or dead and dead:a}", 1, 25);
        Check.prints("{if 1=1 and 1=1:a{if 1=2 or 1=1:b}}{if 1=2 or 1=1:c}", "abc");
        Check.prints("{if 1=1 and 1=1 and 1=2:a|b}{if 1=2 or 1=2 or 1=1:c|d}", "bc");
        Check.prints("{if 1=2 and 1=1:a|b}{if 1=1 or 1=2:c|d}", "bc");
        Check.sentence("III", "ONE: not ONE, has FACT, stale FACT, dead, SUM < SUM, SUM > SUM, SUM = SUM.");
        Check.prints("{if not not not 1=2:a|b}{if not 1=1:c|d}{if not has k1:e|f}", "adf");
        Check.prints("{if 1<1:a|b}{if 1>1:a|b}{if 1=1:a|b}", "bba");
        Check.prints("{if 1<2:a|b}{if 1>2:a|b}{if 1=2:a|b}", "abb");
        Check.prints("{if 2<1:a|b}{if 2>1:a|b}{if 2=1:a|b}", "bab");
        Check.prints("{if not 1=2 and 1=2:a|b}{if not 1=1 or 1=1:c|d}", "bc");
        Check.sentence("III", "SUM: TERM {+ TERM or - TERM}.");
        Check.prints("{1-2-3}{10-2+3}{1+2+3}", "-4116");
        Check.faulty("{-1}", 1, 1);
        Check.faulty("{1+}", 1, 3);
        Check.faulty("{1--1}", 1, 3);
        Check.faulty("{if 1<2<3:a}", 1, 7);
        Check.sentence("III", "TERM: WHOLE or NAME: age, born, year, worth, FACT.");
        Check.prints("{12} {age} {born} {year} {worth} {k1}", "12 60 40 100 50 5");
        for (String name : new String[] {"age", "born", "year", "worth"}) {
            LivesAhead y = desk();
            Check.paragraph(y, 1, 1, -1, "{" + name + "}");
            Check.due("no fact stands in it", y.paragraphOf(1, 0, 4), 0);
            misspelt(name);
        }
        misspelt("k1");
        Check.sentence("III", "FACT: k0 .. k9 (by KIND).");
        LivesAhead x = desk();
        for (int kind = 0; kind < 10; kind++) {
            x.fact(0, kind, kind * 11, false);
        }
        Check.paragraph(x, 0, 1, -1, "{k0} {k1} {k2} {k3} {k4} {k5} {k6} {k7} {k8} {k9}");
        Check.due("by kind", Check.printed(x, 0, 0), "0 11 22 33 44 55 66 77 88 99");
        Check.due("all stand in it", x.paragraphOf(0, 0, 4), 1023);
        Check.faulty("{k}", 2, 1);
        Check.faulty("{kk1}", 2, 1);
        Check.faulty("{l1}", 2, 1);
    }

    /** A word with another letter in one place is no name. */
    private static void misspelt(String name) {
        for (int i = 0; i < name.length(); i++) {
            char letter = name.charAt(i) == 'q' ? 'x' : 'q';
            Check.faulty("{" + name.substring(0, i) + letter + name.substring(i + 1) + "}", 2, 1);
        }
    }

    private static void plainAgain() {
        Check.sentence("III", "(What stands behind a : or | is plain again, up to } or |, blanks too.)");
        Check.prints("{if 1=1 :  a + if: k1  |x}", "  a + if: k1  ");
        Check.prints("{if 1=2 :x|  a + if: k1  }", "  a + if: k1  ");
        Check.prints("{if 1=1: }{if 1=2:x| }.", "  .");
        Check.faulty("{if 1=1:\u001f}", 1, 8);
        Check.faulty("{if 1=1:a|b\u007f}", 1, 11);
    }

    // ---- term III: faults

    private static void order() {
        Check.sentence("III", "FAULTS, the first that is met from the left, of one place the least number");
        Check.faulty("{heat}}", 2, 1);
        Check.faulty("}{heat}", 1, 0);
        Check.faulty("{heat\u0001}", 2, 1);
        Check.faulty("{heat}" + SIXTY + "x", 2, 1);
        Check.faulty(SIXTY + "a{heat}", 3, 240);
        Check.faulty(SIXTY + "{", 3, 240);
        Check.faulty(SIXTY + "\u0001", 1, 240);
        Check.faulty(SIXTY + "}", 1, 240);
        Check.faulty(SIXTY + "|", 1, 240);
        Check.faulty(THIRTY + "+heat}", 2, 61);
        Check.faulty(THIRTY + "+dead}", 1, 61);
        Check.faulty(THIRTY + "+12345}", 1, 61);
        Check.faulty(THIRTY + " 1}", 1, 61);
        Check.faulty(THIRTY + "+age heat}", 3, 61);
        Check.faulty(FIVE + "{if heat", 3, 45);
        Check.faulty(FIVE + "{ \u0001if dead:a", 1, 47);
        Check.faulty(FIVE + "{iff dead:a", 2, 46);
    }

    private static void formFaults() {
        Check.sentence("III", "1 FORM: the first byte that can't be, or begins no TOKEN, or TOKEN with which no TEXT"
            + " goes on");
        Check.faulty("ab\u0000", 1, 2);
        Check.faulty("a|", 1, 1);
        Check.faulty("a}", 1, 1);
        Check.faulty("{;}", 1, 1);
        Check.faulty("{1;}", 1, 2);
        Check.faulty("{{", 1, 1);
        Check.faulty("{if {", 1, 4);
        Check.faulty("{if dead dead:a}", 1, 9);
        Check.faulty("{if 1:a}", 1, 5);
        Check.faulty("{if 1<2}", 1, 7);
        Check.faulty("{if 1+2 and dead:a}", 1, 8);
        Check.faulty("{1 and 2}", 1, 3);
        Check.faulty("{1=1}", 1, 2);
        Check.faulty("{if dead+1:a}", 1, 8);
        Check.faulty("{if dead=1:a}", 1, 8);
        Check.faulty("{if dead and:a}", 1, 12);
        Check.faulty("{if not:a}", 1, 7);
        Check.sentence("III", "the end: its place;");
        String[] ends = {"{", "{  ", "{1", "{1 ", "{1+", "{age", "{if", "{if ", "{if not", "{if has", "{if has k1",
            "{if stale", "{if dead", "{if 1", "{if 1<", "{if 1<2", "{if 1<2 and", "{if dead:", "{if dead:a",
            "{if dead:a|", "{if dead:a|b", "{if dead:{1}", "{if dead:{if dead:a}", "a{if 1=1:"};
        for (String text : ends) {
            Check.faulty(text, 1, text.length());
        }
        Check.sentence("III", "an empty TEXT, or one that is empty behind : or | is none");
        Check.faulty("", 1, 0);
        Check.faulty("{if dead:}", 1, 9);
        Check.faulty("{if dead:|a}", 1, 9);
        Check.faulty("{if dead:a|}", 1, 11);
        Check.faulty("{if dead:a|{if dead:}}", 1, 20);
        Check.faulty("{if dead:{if dead:a}|}", 1, 21);
    }

    private static void nameFaults() {
        String[] ahead = {"{", "{1+", "{1-", "{if ", "{if not ", "{if 1<", "{if 1+", "{if 1=1 and ", "{if dead or not "};
        Check.sentence("III", "2 a WORD that is no NAME where one can be");
        for (String front : ahead) {
            for (String word : new String[] {"heat", "a", "z", "kin", "hours", "sources", "ag", "agee", "age1", "k",
                "if1", "dead5", "not0"}) {
                Check.faulty(front + word + " ", 2, front.length());
            }
        }
        Check.faulty("{1 heat}", 1, 3);
        Check.faulty("{if 1 heat}", 1, 6);
        Check.faulty("{if dead heat}", 1, 9);
        Check.faulty("{if has k1 heat:a}", 1, 11);
        Check.sentence("III", "(if, and, or, not, has, stale, dead: there they are 1, or begin what they begin;");
        for (String front : new String[] {"{1+", "{1-", "{if 1<", "{if 1+", "{if 1<2-"}) {
            for (String word : new String[] {"if", "and", "or", "not", "has", "stale", "dead"}) {
                Check.faulty(front + word, 1, front.length());
            }
        }
        for (String word : new String[] {"and", "or", "not", "has", "stale", "dead"}) {
            Check.faulty("{" + word, 1, 1);
            misspelt(word);
        }
        misspelt("if");
        for (String word : new String[] {"if", "and", "or"}) {
            Check.faulty("{if " + word, 1, 4);
            Check.faulty("{if not " + word, 1, 8);
            Check.faulty("{if dead and " + word, 1, 13);
        }
        Check.faulty("{if dead if", 1, 9);
        Check.faulty("{if dead not", 1, 9);
        Check.faulty("{if dead has k1", 1, 9);
        Check.prints("{if not dead and not has k9 and not stale k9:a}", "a");
        Check.sentence("III", "behind has and stale a WORD that is no FACT is 1, too); at it.");
        for (String word : new String[] {"heat", "age", "k", "kk1", "dead", "not", "abcdefghi", "1", "(", ":", "}"}) {
            Check.faulty("{if has " + word, 1, 8);
            Check.faulty("{if stale " + word, 1, 10);
        }
        Check.faulty("{if has k11:a}", 1, 10);
    }

    private static void manyFaults() {
        Check.sentence("III", "3 MANY: a 61st PIECE;");
        LivesAhead x = desk();
        Check.granted(x, "sixty", Check.paragraph(x, 0, 1, -1, SIXTY), 0);
        Check.due("sixty", x.paragraphOf(0, 0, 5), 60);
        Check.faulty(SIXTY + "a", 3, 240);
        Check.faulty(SIXTY + "{1}", 3, 240);
        Check.faulty("{if dead:" + "{if dead:a}b".repeat(19) + "{if dead:c{1}}}", 3, 247);
        Check.sentence("III", "a sixth { if within others;");
        Check.granted(x, "five", Check.paragraph(x, 0, 1, -1, FIVE + "a|{1}}}|b}}}" + FIVE + "c}}}}}"), 1);
        Check.faulty(FIVE + "{if", 3, 45);
        Check.faulty(FIVE + "a{  if dead:b}}}}}}", 3, 46);
        Check.faulty(FIVE + "a|b{if dead:c}}}}}}", 3, 48);
        Check.faulty(FIVE + "a}{if dead:{if dead:b}}}}}}", 3, 56);
        Check.faulty(FIVE + "a}|b{if dead:c{if dead:d", 3, 59);
        Check.sentence("III", "a 31st WHOLE or NAME of SUMS: at its first byte, the {, or it.");
        Check.granted(x, "thirty", Check.paragraph(x, 0, 1, -1, THIRTY + "}"), 2);
        Check.faulty(THIRTY + "+1}", 3, 61);
        Check.faulty(THIRTY + "+  9999}", 3, 63);
        Check.faulty(THIRTY + "+worth}", 3, 61);
        Check.faulty(THIRTY + "+k9}", 3, 61);
        Check.faulty(THIRTY + "}{age}", 3, 62);
        Check.faulty(THIRTY + "}{if 1=1:a}", 3, 65);
        Check.faulty("{if 1=2 and 2=1:{k1}}".repeat(6) + "{1}", 3, 127);
        Check.faulty("{if dead:a|" + THIRTY + "}}{1}", 3, 74);
        Check.granted(x, "questions are no sums", Check.paragraph(x, 0, 1, -1,
            THIRTY + "}{if has k1 and stale k2 and dead:a}"), 3);
    }

    // ---- term III: what is printed

    private static void sums() {
        Check.sentence("III", "PRINTED for a PERSON on a DAY: bytes as they are;");
        StringBuilder all = new StringBuilder();
        for (char c = 32; c < 127; c++) {
            all.append("{|}".indexOf(c) < 0 ? String.valueOf(c) : "");
        }
        Check.prints(all.toString(), all.toString());
        Check.sentence("III", "{ if } what it tells.");
        Check.prints("a{if 1=2:b}c{if 1=2:d|{if 1=1:{k1}|e}f}g", "ac5fg");
        Check.prints("{if 1=2:b}", "");
        Check.sentence("III", "{ SUM } in decimal (- ahead below 0)");
        Check.prints("{0}{1-1}", "00");
        Check.prints("{0-1} {0-10} {9-109}", "-1 -10 -100");
        Check.prints("{9+1} {99+1} {999+1} {9999+1}", "10 100 1000 10000");
        Check.prints("{k2}{k2-k2}{0-k2}", "-707");
        String most = "9999" + "+9999".repeat(29);
        Check.prints("{" + most + "}", "299970");
        Check.prints("{0-" + most.substring(5).replace('+', '-') + "}", "-289971");
        LivesAhead x = desk();
        x.fact(0, 0, -9999, false);
        Check.paragraph(x, 0, 1, -1, "{k0" + "+k0".repeat(29) + "}");
        Check.due("the least there is", Check.printed(x, 0, 0), "-299970");
        Check.sentence("III", "LENGTH: bytes that are PRINTED.");
        Check.due("length", x.paragraphOf(0, 0, 2), 7);
        Check.paragraph(x, 0, 1, -1, "{if dead:abc}");
        Check.due("nothing is printed", x.paragraphOf(0, 1, 2), 0);
    }

    private static void ageAndBorn() {
        Check.sentence("III", "age: AGE on the DAY (of death, if dead by then);");
        LivesAhead x = desk();
        Check.paragraph(x, 1, 1, -1, "{age}");
        Check.due("on day 0", Check.printed(x, 1, 0), "1");
        Check.until(x, 363, 1439);
        Check.due("on day 363", Check.printed(x, 1, 0), "1");
        Check.until(x, 364, 0);
        Check.due("on day 364", Check.printed(x, 1, 0), "2");
        Check.until(x, 800, 0);
        dies(x, 1, 363);
        Check.due("as it died", Check.printed(x, 1, 0), "1");
        Check.until(x, 3650, 0);
        Check.due("as it died, for ever", Check.printed(x, 1, 0), "1");
        Check.sentence("III", "born: the YEAR (100 and less) of BORN: 100 less a 365th of BORN, upwards;");
        int[][] born = {{1, 99}, {364, 99}, {365, 99}, {366, 98}, {730, 98}, {731, 97}, {36135, 1}, {36136, 0},
            {36500, 0}};
        for (int[] one : born) {
            LivesAhead y = new LivesAhead();
            y.writer(1);
            y.person(1, one[0], 1, 0);
            Check.paragraph(y, 0, 1, -1, "{born}");
            Check.due("born " + one[0], Check.printed(y, 0, 0), String.valueOf(one[1]));
            Check.until(y, 3650, 0);
            Check.due("at the end, too", Check.printed(y, 0, 0), String.valueOf(one[1]));
        }
        Check.sentence("III", "year: that of the DAY;");
        LivesAhead z = desk();
        dies(z, 0, 0);
        Check.paragraph(z, 0, 1, -1, "{year}");
        Check.until(z, 364, 1439);
        Check.due("the last minute of a year", Check.printed(z, 0, 0), "100");
        z.pass(1);
        Check.due("the first of the next, for the dead too", Check.printed(z, 0, 0), "101");
    }

    private static void factsPrinted() {
        LivesAhead x = desk();
        Check.paragraph(x, 0, 1, -1, "{k1}/{k2}/{k3}");
        Check.paragraph(x, 0, 1, -1, "{if has k1:y|n}{if has k2:y|n}{if has k3:y|n}");
        Check.paragraph(x, 0, 1, -1, "{if stale k1:y|n}{if stale k2:y|n}{if stale k3:y|n}");
        x.fact(0, 1, 4, false);
        x.fact(0, 2, 5, true);
        x.keeps(1, 2);
        Check.sentence("III", "a FACT's value AS KNOWN (0 without one, or if it is SEALED and the PERSON isn't dead"
            + " on that DAY).");
        Check.due("of the living", Check.printed(x, 0, 0), "4/0/0");
        x.fact(0, 1, 40, true);
        Check.due("sealed anew", Check.printed(x, 0, 0), "0/0/0");
        x.fact(0, 1, 41, false);
        Check.due("told anew", Check.printed(x, 0, 0), "41/0/0");
        Check.sentence("III", "has: there is one that may be told; stale: it is STALE then.");
        Check.due("has, of the living", Check.printed(x, 0, 1), "ynn");
        Check.paragraph(x, 1, 1, -1, "{if has k0:y|n}{if has k1:y|n}{if has k9:y|n}{k0}{k1}{k9}");
        Check.due("another has none of them", Check.printed(x, 1, 0), "nnn000");
        Check.until(x, 2, 1439);
        Check.due("none is stale", Check.printed(x, 0, 2), "nnn");
        x.pass(1);
        Check.due("one is stale", Check.printed(x, 0, 2), "ynn");
        Check.due("has, though stale", Check.printed(x, 0, 1), "ynn");
        dies(x, 0, 3);
        Check.due("has, of the dead", Check.printed(x, 0, 1), "yyn");
        Check.due("values of the dead", Check.printed(x, 0, 0), "41/5/0");
        x.check(0, 1);
        Check.due("none is stale", Check.printed(x, 0, 2), "nnn");
    }

    private static void worthAndLean() {
        Check.sentence("III", "A PARAGRAPH has WORTH (0 .. 999)");
        Check.bounds(ParagraphEdges::taped, 0, 999, 2, (x, n) -> x.paragraph(0, n, -1, 1));
        Check.sentence("III", "may LEAN on an earlier one of its story (NONE: on none).");
        Check.bounds(() -> {
            LivesAhead x = desk();
            Check.paragraph(x, 0, 1, -1, "a");
            Check.paragraph(x, 0, 1, -1, "b");
            Check.paragraph(x, 1, 1, -1, "c");
            Check.paragraph(x, 1, 1, -1, "d");
            Check.paragraph(x, 1, 1, -1, "e");
            Check.feed(x, "f");
            return x;
        }, -1, 1, 2, (x, n) -> x.paragraph(0, 1, n, 1));
    }

    private static void marked() {
        LivesAhead x = desk();
        x.fact(0, 1, 4, true);
        x.keeps(1, 1);
        x.fact(1, 2, 4, false);
        String[] texts = {"a", "{k1}", "{k2}", "{if dead:{k1}}", "{if dead:a|{k1}}", "{if 1=2 and has k1:a}",
            "{if stale k1:a}", "{if k1+1<1:a}", "{if has k2:a}"};
        for (String text : texts) {
            Check.paragraph(x, 0, 1, -1, text);
        }
        Check.sentence("III", "MARKED: a PARAGRAPH in whose TEXT (anywhere) a FACT stands that is STALE,"
            + " or isn't there.");
        for (int place = 0; place < texts.length; place++) {
            boolean none = place == 2 || place == 8;
            Check.due("on day 0 '" + texts[place] + "'", x.paragraphOf(0, place, 3), none ? 1 : 0);
        }
        Check.until(x, 1, 1439);
        Check.due("not stale yet", x.paragraphOf(0, 1, 3), 0);
        x.pass(1);
        for (int place = 0; place < texts.length; place++) {
            Check.due("on day 2 '" + texts[place] + "'", x.paragraphOf(0, place, 3), place == 0 ? 0 : 1);
        }
        x.check(0, 1);
        Check.due("checked", x.paragraphOf(0, 1, 3), 0);
        x.fact(0, 2, 0, false);
        Check.due("it is there now", x.paragraphOf(0, 2, 3), 0);
    }

    // ---- term IV

    private static void cutIs(LivesAhead x, int length, int worth, int bits, int bytes) {
        String what = "cut to " + length;
        Check.granted(x, what, x.cut(0, length, false), worth);
        Check.due(what + ": paragraphs", x.cutOf(), bits);
        Check.due(what + ": bytes", x.cutLong(), bytes);
    }

    private static void cutLengths() {
        Check.sentence("IV", "CUT to a length (0 .. 4,000)");
        Check.bounds(ParagraphEdges::desk, 0, 4000, 2, (x, n) -> x.cut(0, n, false));
        Check.sentence("IV", "of a story the PARAGRAPHS with the most WORTH together");
        LivesAhead most = desk();
        Check.paragraph(most, 0, 6, -1, "abcd");
        Check.paragraph(most, 0, 4, -1, "a");
        Check.paragraph(most, 0, 3, -1, "b");
        Check.paragraph(most, 1, 99, -1, "c");
        cutIs(most, 1, 4, 2, 1);
        cutIs(most, 4, 7, 6, 3);
        cutIs(most, 6, 10, 3, 6);
        cutIs(most, 8, 13, 7, 8);
        Check.sentence("IV", "that are no longer together (a byte more for each behind the first)");
        LivesAhead x = desk();
        cutIs(x, 0, 0, 0, 0);
        cutIs(x, 4000, 0, 0, 0);
        Check.paragraph(x, 0, 5, -1, "abc");
        cutIs(x, 2, 0, 0, 0);
        cutIs(x, 3, 5, 1, 3);
        Check.paragraph(x, 0, 7, -1, "de");
        cutIs(x, 1, 0, 0, 0);
        cutIs(x, 2, 7, 2, 2);
        cutIs(x, 5, 7, 2, 2);
        cutIs(x, 6, 12, 3, 6);
        Check.paragraph(x, 0, 1, -1, "f");
        cutIs(x, 7, 12, 3, 6);
        cutIs(x, 8, 13, 7, 8);
        LivesAhead y = desk();
        for (int i = 0; i < 14; i++) {
            Check.paragraph(y, 0, 999, -1, "x".repeat(284));
        }
        cutIs(y, 3989, 999 * 14, 16383, 3989);
        cutIs(y, 3988, 999 * 13, 8191, 3704);
        Check.feed(y, "x".repeat(295));
        y.rewrite(0, 13, 295);
        cutIs(y, 4000, 999 * 14, 16383, 4000);
        Check.feed(y, "x".repeat(296));
        y.rewrite(0, 13, 296);
        cutIs(y, 4000, 999 * 13, 8191, 3704);
    }

    private static void cutLeans() {
        Check.sentence("IV", "each of which LEANS on one that is there or on none");
        LivesAhead x = desk();
        Check.paragraph(x, 0, 1, -1, "aaaa");
        Check.paragraph(x, 0, 9, 0, "b");
        Check.paragraph(x, 0, 99, 1, "c");
        Check.paragraph(x, 0, 2, -1, "d");
        cutIs(x, 1, 2, 8, 1);
        cutIs(x, 4, 2, 8, 1);
        cutIs(x, 5, 2, 8, 1);
        cutIs(x, 6, 10, 3, 6);
        cutIs(x, 8, 109, 7, 8);
        cutIs(x, 10, 111, 15, 10);
        LivesAhead y = desk();
        for (int i = 0; i < 14; i++) {
            Check.paragraph(y, 0, i == 13 ? 900 : 0, i - 1, "y");
        }
        cutIs(y, 26, 0, 0, 0);
        cutIs(y, 27, 900, 16383, 27);
    }

    private static void cutTies() {
        Check.sentence("IV", "of as good ones the shortest;");
        LivesAhead x = desk();
        Check.paragraph(x, 0, 6, -1, "aaaaa");
        Check.paragraph(x, 0, 3, -1, "b");
        Check.paragraph(x, 0, 3, -1, "c");
        Check.paragraph(x, 0, 6, -1, "dddd");
        cutIs(x, 5, 6, 6, 3);
        Check.paragraph(x, 0, 0, -1, "e");
        cutIs(x, 4000, 18, 15, 14);
        LivesAhead z = desk();
        Check.paragraph(z, 0, 0, -1, "a");
        cutIs(z, 10, 0, 0, 0);
        Check.sentence("IV", "of these with the PARAGRAPH of the lesser place where they first differ.");
        LivesAhead y = desk();
        for (int worth : new int[] {4, 5, 6, 5, 6, 4}) {
            Check.paragraph(y, 0, worth, -1, "ab");
        }
        cutIs(y, 2, 6, 4, 2);
        cutIs(y, 5, 12, 20, 5);
        cutIs(y, 8, 17, 22, 8);
        cutIs(y, 11, 22, 30, 11);
        cutIs(y, 14, 26, 31, 14);
        LivesAhead v = desk();
        Check.paragraph(v, 0, 1, -1, "a");
        Check.paragraph(v, 0, 2, -1, "ab");
        Check.paragraph(v, 0, 2, -1, "ab");
        Check.paragraph(v, 0, 3, -1, "abc");
        cutIs(v, 5, 4, 9, 5);
        LivesAhead w = desk();
        Check.paragraph(w, 0, 0, -1, "{if dead:a}");
        cutIs(w, 0, 0, 1, 0);
    }

    private static void cutWithoutMarked() {
        Check.sentence("IV", "MARKED ones may be left out (then they aren't there at all).");
        LivesAhead x = desk();
        x.fact(0, 1, 5, false);
        Check.paragraph(x, 0, 9, -1, "{k1}");
        Check.paragraph(x, 0, 8, 0, "b");
        Check.paragraph(x, 0, 7, -1, "{if dead:{k2}|c}");
        Check.paragraph(x, 0, 6, 2, "d");
        Check.paragraph(x, 0, 1, -1, "e");
        Check.granted(x, "without one that isn't there", x.cut(0, 100, true), 18);
        Check.due("nor what leans on it", x.cutOf(), 19);
        Check.due("bytes", x.cutLong(), 5);
        Check.granted(x, "with it", x.cut(0, 100, false), 31);
        Check.until(x, 366, 0);
        Check.granted(x, "without the stale one", x.cut(0, 100, true), 1);
        Check.due("nor what leans on it", x.cutOf(), 16);
        x.check(0, 1);
        Check.granted(x, "checked", x.cut(0, 100, true), 18);
        LivesAhead y = desk();
        Check.paragraph(y, 0, 5, -1, "abc");
        Check.paragraph(y, 0, 9, -1, "{k1}");
        Check.paragraph(y, 0, 9, -1, "{k2}");
        Check.paragraph(y, 0, 6, -1, "def");
        Check.granted(y, "the better one behind those marked", y.cut(0, 3, true), 6);
        Check.due("the better one behind those marked", y.cutOf(), 8);
    }

    // ---- promises 16 to 26

    private static void feed() {
        Check.sentence("16", "Twenty bytes come behind THE TAPE, of each number the highest first: how many it has;");
        LivesAhead x = desk();
        Check.due("the first twenty", x.feed(0x41424344, 0x45464748, 0x494a4b4c, 0x4d4e4f50, 0x51525354), 20);
        Check.due("the next twenty", x.feed(0x61626364, 0x65666768, 0x696a6b6c, 0x6d6e6f70, 0x71727374), 40);
        Check.due("of the tape", x.count(12), 40);
        x.paragraph(0, 1, -1, 40);
        Check.due("in their order", Check.printed(x, 0, 0), "ABCDEFGHIJKLMNOPQRSTabcdefghijklmnopqrst");
        x.feed(-1, 0, Integer.MIN_VALUE, Integer.MAX_VALUE, 0);
        Check.due("any number comes", x.count(12), 20);
        Check.refused(x, "255 can't be in a text", x.paragraph(0, 1, -1, 1), 4);
        Check.sentence("16", "NONE, and none comes, if there would be more than 400.");
        LivesAhead y = desk();
        for (int i = 1; i <= 20; i++) {
            Check.due("feed", y.feed(0x61616161, 0x61616161, 0x61616161, 0x61616161, 0x61616162), 20 * i);
        }
        Check.due("a 21st", y.feed(0x63636363, 0, 0, 0, 0), -1);
        Check.due("none came", y.count(12), 400);
        Check.due("nor now", y.feed(0x63636363, 0, 0, 0, 0), -1);
        Check.granted(y, "all of it", y.paragraph(0, 1, -1, 400), 0);
        Check.due("bytes", Check.printed(y, 0, 0), ("a".repeat(19) + "b").repeat(20));
        Check.due("there is room again", y.feed(0, 0, 0, 0, 0), 20);
    }

    private static void paragraphTape() {
        Check.sentence("17", "The first n bytes of THE TAPE (it is empty then) are a PARAGRAPH more of a PERSON's"
            + " story: its place in it (0 ..).");
        LivesAhead x = desk();
        Check.feed(x, "abcdef}");
        Check.granted(x, "the first six", x.paragraph(0, 1, -1, 6), 0);
        Check.due("empty", x.count(12), 0);
        Check.due("no more than they", Check.printed(x, 0, 0), "abcdef");
        Check.granted(x, "the next place", Check.paragraph(x, 0, 1, -1, "g"), 1);
        Check.granted(x, "of another story", Check.paragraph(x, 1, 1, -1, "h"), 0);
        Check.due("it stays", Check.printed(x, 0, 0), "abcdef");
        Check.due("in the first story", x.about(0, 7), 2);
        Check.due("in all", x.count(4), 3);
        Check.refused(x, "an empty tape has none", x.paragraph(0, 1, -1, 1), 2);
        Check.refused(x, "none of them is no text", x.paragraph(0, 1, -1, 0), 4);
        firstOf(2, "{k1}", 2, 1);
        firstOf(4, "{age1}", 1, 4);
        firstOf(5, "{12345}", 1, 5);
        firstOf(9, "{abcdefghi}", 2, 1);
        firstOf(3, "{if dead:a}", 1, 3);
        firstOf(9, "{if dead:a}", 1, 9);
        firstOf(10, "{if dead:a}", 1, 10);
        readAnew();
    }

    /** The bytes behind the first n say nothing. */
    private static void firstOf(int n, String text, int fault, int where) {
        LivesAhead x = desk();
        Check.feed(x, text);
        Check.refused(x, n + " of '" + text + "'", x.paragraph(0, 1, -1, n), 4);
        Check.due("fault", x.fault(), fault);
        Check.due("where", x.where(), where);
    }

    /** Nothing of a text that had a fault is left for the next one. */
    private static void readAnew() {
        LivesAhead x = desk();
        Check.paragraph(x, 0, 1, -1, "{if dead:" + SIXTY.substring(0, 120) + "{k9+" + "1+".repeat(20));
        Check.refused(x, "no { is open", Check.paragraph(x, 0, 1, -1, "a}"), 4);
        Check.paragraph(x, 0, 1, -1, "{if dead and 1=1:a|b{if dead or 1=");
        Check.granted(x, "a text anew", Check.paragraph(x, 0, 1, -1, "{if 1=1 and 2=2:a|b}{1" + "+1".repeat(25) + "}"),
            0);
        Check.due("its kinds", x.paragraphOf(0, 0, 4), 0);
        Check.due("its pieces", x.paragraphOf(0, 0, 5), 4);
        Check.due("it prints", Check.printed(x, 0, 0), "a26");
        Check.granted(x, "five of its own", Check.paragraph(x, 0, 1, -1, FIVE + "a|b}}}}}"), 1);
    }

    private static void paragraphRefused() {
        Check.sentence("17", "NONE: 1, 2 (both leave THE TAPE; LEAN: no earlier one, below NONE);");
        LivesAhead x = taped();
        for (int person : NOT_ONE) {
            Check.refused(x, "of " + person, x.paragraph(person, 1, -1, 1), 1);
            Check.refused(x, "1 ahead of 2", x.paragraph(person, 1000, -2, 21), 1);
        }
        for (int n : new int[] {Integer.MIN_VALUE, -1, 21, 400, 401, Integer.MAX_VALUE}) {
            Check.refused(x, n + " bytes", x.paragraph(0, 1, -1, n), 2);
        }
        for (int lean : new int[] {Integer.MIN_VALUE, -2, 0, 1, Integer.MAX_VALUE}) {
            Check.refused(x, "lean " + lean, x.paragraph(0, 1, lean, 1), 2);
        }
        for (int worth : new int[] {Integer.MIN_VALUE, -1, 1000, Integer.MAX_VALUE}) {
            Check.refused(x, "worth " + worth, x.paragraph(0, worth, -1, 1), 2);
        }
        Check.due("the tape stays", x.count(12), 20);
        Check.due("none came", x.count(4), 0);
        Check.granted(x, "its bytes, too", x.paragraph(0, 1, -1, 20), 0);
        Check.due("its bytes, too", Check.printed(x, 0, 0), "a" + " ".repeat(19));
        Check.feed(x, "}");
        Check.refused(x, "2 ahead of 4", x.paragraph(0, 1, 1, 1), 2);
        Check.refused(x, "a fault", x.paragraph(0, 1, -1, 1), 4);
        Check.due("empties the tape", x.count(12), 0);
    }

    private static void paragraphRoom() {
        Check.sentence("17", "4; 3 (14 of one story, 150 in all).");
        LivesAhead x = desk();
        for (int i = 0; i < 14; i++) {
            Check.granted(x, "of one story", Check.paragraph(x, 0, i, i - 1, "a"), i);
        }
        Check.refused(x, "1 ahead of 3", Check.paragraph(x, 2, 1, -1, "a"), 1);
        Check.refused(x, "2 ahead of 3", x.paragraph(0, 1000, -1, 1), 2);
        Check.refused(x, "4 ahead of 3", x.paragraph(0, 1, -1, 0), 4);
        Check.refused(x, "a 15th", Check.paragraph(x, 0, 1, -1, "b"), 3);
        Check.due("the tape is empty", x.count(12), 0);
        Check.due("fourteen", x.about(0, 7), 14);
        Check.due("the last", x.paragraphOf(0, 13, 0), 13);
        Check.due("there is no other", x.paragraphOf(0, 14, 0), -1);
        Check.granted(x, "of another story", Check.paragraph(x, 1, 1, -1, "a"), 0);
        Check.sentence("I", "PARAGRAPHS 150 (14 a story)");
        for (int i = 15; i < 150; i++) {
            int person = 2 + (i - 15) / 14;
            if ((i - 15) % 14 == 0) {
                x.person(1, 1, 1, 0);
            }
            Check.due("of more stories", Check.paragraph(x, person, 1, -1, "c"), (i - 15) % 14);
        }
        Check.due("in all", x.count(4), 150);
        Check.refused(x, "4 ahead of 3", Check.paragraph(x, 1, 1, -1, "}"), 4);
        Check.refused(x, "a 151st", Check.paragraph(x, 1, 1, -1, "d"), 3);
        Check.due("the tape is empty", x.count(12), 0);
        Check.due("in all", x.count(4), 150);
        Check.due("none came", x.about(1, 7), 1);
        Check.feed(x, "e");
        Check.granted(x, "one may be rewritten", x.rewrite(1, 0, 1));
    }

    private static void rewrite() {
        LivesAhead x = desk();
        Check.paragraph(x, 0, 3, -1, "a");
        Check.paragraph(x, 0, 999, 0, "b{k1}");
        Check.paragraph(x, 1, 4, -1, "c");
        Check.sentence("18", "They are the PARAGRAPH at a place from now on (WORTH and LEAN stay): true;");
        Check.feed(x, "{k2}de}");
        Check.granted(x, "rewrite", x.rewrite(0, 1, 6));
        Check.due("the tape is empty", x.count(12), 0);
        int[] want = {999, 0, 3, 1, 4, 2};
        for (int what = 0; what < want.length; what++) {
            Check.due("what " + what, x.paragraphOf(0, 1, what), want[what]);
        }
        Check.due("printed", Check.printed(x, 0, 1), "0de");
        Check.due("another place", Check.printed(x, 0, 0), "a");
        Check.due("another story", Check.printed(x, 1, 0), "c");
        Check.due("no more of them", x.count(4), 3);
        Check.sentence("18", "false: 1, 2 (both leave THE TAPE); 4.");
        Check.feed(x, "}");
        for (int person : NOT_ONE) {
            Check.refused(x, "of " + person, x.rewrite(person, 0, 1), 1);
        }
        for (int place : NOT_ONE) {
            Check.refused(x, "at " + place, x.rewrite(0, place, 1), 1);
            Check.refused(x, "1 ahead of 2", x.rewrite(0, place, 21), 1);
        }
        for (int n : new int[] {Integer.MIN_VALUE, -1, 21, Integer.MAX_VALUE}) {
            Check.refused(x, n + " bytes", x.rewrite(0, 0, n), 2);
        }
        Check.due("the tape stays", x.count(12), 20);
        Check.refused(x, "a fault", x.rewrite(0, 0, 1), 4);
        Check.due("the tape is empty", x.count(12), 0);
        Check.refused(x, "none of them is no text", x.rewrite(0, 0, 0), 4);
        Check.due("it is as it was", Check.printed(x, 0, 0), "a");
    }

    private static void fault() {
        LivesAhead x = desk();
        Check.sentence("19", "The FAULT of the latest paragraph(), rewrite(), rule() not refused by 1, 2;");
        Check.paragraph(x, 0, 1, -1, "a");
        Check.paragraph(x, 0, 1, -1, "{heat}");
        Check.due("of paragraph()", x.fault(), 2);
        Check.feed(x, "a");
        x.paragraph(2, 1, -1, 1);
        Check.due("refused by 1", x.fault(), 2);
        x.paragraph(0, 1000, -1, 1);
        Check.due("refused by 2", x.fault(), 2);
        x.rewrite(0, 1, 1);
        Check.due("refused by 1", x.fault(), 2);
        x.rewrite(0, 0, 21);
        Check.due("refused by 2", x.fault(), 2);
        x.rule(21);
        Check.due("refused by 2", x.fault(), 2);
        x.pass(1);
        Check.due("other calls leave it", x.fault(), 2);
        x.rewrite(0, 0, 0);
        Check.due("of rewrite()", x.fault(), 1);
        Check.rule(x, "1" + "+1".repeat(30));
        Check.due("of rule()", x.fault(), 3);
        Check.sentence("19", "0 without one.");
        Check.rule(x, "kin>0");
        Check.due("a rule", x.fault(), 0);
        Check.due("of a new desk", new LivesAhead().fault(), 0);
        Check.paragraph(x, 0, 1, -1, "}");
        Check.paragraph(x, 0, 1, -1, "a");
        Check.due("a paragraph", x.fault(), 0);
        Check.paragraph(x, 0, 1, -1, "}");
        Check.feed(x, "a");
        x.rewrite(0, 0, 1);
        Check.due("rewritten", x.fault(), 0);
        for (int i = 0; i < 14; i++) {
            Check.paragraph(x, 0, 1, -1, "a");
        }
        Check.paragraph(x, 1, 1, -1, "}");
        Check.refused(x, "no room", Check.paragraph(x, 0, 1, -1, "a"), 3);
        Check.due("refused by 3 without a fault", x.fault(), 0);
    }

    private static void where() {
        LivesAhead x = desk();
        Check.sentence("20", "Its place, if the latest call that may be refused was by 4; NONE else.");
        Check.due("of a new desk", x.where(), -1);
        x.paragraph(0, 1, -1, 0);
        Check.due("the place 0", x.where(), 0);
        Check.paragraph(x, 0, 1, -1, "x".repeat(399) + "}");
        Check.due("the place 399", x.where(), 399);
        Check.paragraph(x, 0, 1, -1, "x".repeat(399) + "{");
        Check.due("the end 400", x.where(), 400);
        x.count(0);
        x.fault();
        x.trouble();
        Check.due("a call that can't be refused", x.where(), 400);
        x.pass(1);
        Check.due("a call that wasn't refused", x.where(), -1);
        Check.rule(x, "kin");
        Check.due("of a rule", x.where(), 3);
        x.writer(61);
        Check.due("a call refused by 2", x.where(), -1);
        Check.paragraph(x, 0, 1, -1, "a");
        Check.feed(x, "ab}");
        x.rewrite(0, 0, 3);
        Check.due("of what was rewritten", x.where(), 2);
        x.rewrite(0, 1, 0);
        Check.due("refused by 1", x.where(), -1);
        Check.due("though the fault stays", x.fault(), 1);
    }

    private static void paragraphOf() {
        LivesAhead x = desk();
        x.fact(0, 0, 12, false);
        Check.paragraph(x, 0, 0, -1, "a");
        Check.paragraph(x, 0, 999, 0, "{k0}{if has k9:{k9}}");
        Check.sentence("21", "Of a PARAGRAPH what 0 WORTH, 1 LEAN, 2 LENGTH today, 3 whether MARKED (1),"
            + " 4 KINDS that stand in it as bits, 5 PIECES. NONE.");
        int[] first = {0, -1, 1, 0, 0, 1};
        int[] second = {999, 0, 2, 1, 513, 3};
        for (int what = 0; what < 6; what++) {
            Check.due("first, what " + what, x.paragraphOf(0, 0, what), first[what]);
            Check.due("second, what " + what, x.paragraphOf(0, 1, what), second[what]);
        }
        x.fact(0, 0, -123, false);
        x.fact(0, 9, 1, false);
        Check.due("length today", x.paragraphOf(0, 1, 2), 5);
        Check.due("not marked today", x.paragraphOf(0, 1, 3), 0);
        for (int what : new int[] {Integer.MIN_VALUE, -1, 6, Integer.MAX_VALUE}) {
            Check.due("what " + what, x.paragraphOf(0, 0, what), -1);
        }
        for (int number : NOT_ONE) {
            Check.due("at " + number, x.paragraphOf(0, number, 0), -1);
            Check.due("of " + number, x.paragraphOf(number, 0, 0), -1);
        }
        Check.due("of a story without any", x.paragraphOf(1, 0, 0), -1);
    }

    private static void printAndOut() {
        LivesAhead x = desk();
        Check.sentence("23", "NoSuchElementException if there is none such.");
        for (int i : new int[] {Integer.MIN_VALUE, -1, 0, 1, Integer.MAX_VALUE}) {
            Check.due("ahead of any print(): " + i, Check.outThrows(x, i), true);
        }
        Check.paragraph(x, 0, 1, -1, "abc");
        Check.paragraph(x, 0, 1, -1, "d");
        Check.paragraph(x, 0, 1, -1, "{if dead:e}");
        Check.granted(x, "print", x.print(0, 0), 3);
        for (int i : new int[] {Integer.MIN_VALUE, -1, 3, 4, 1023, 1024, Integer.MAX_VALUE}) {
            Check.due("byte " + i, Check.outThrows(x, i), true);
        }
        x.print(0, 1);
        Check.due("nothing of the longer one ahead", Check.outThrows(x, 1), true);
        x.print(0, 2);
        Check.due("of nothing", Check.outThrows(x, 0), true);
        Check.sentence("23", "Byte i of OUT.");
        x.print(0, 0);
        Check.due("the first", x.out(0), 'a');
        Check.due("the last", x.out(2), 'c');
        Check.sentence("22", "PRINTED of a PARAGRAPH today is OUT: how many bytes.");
        Check.feed(x, "zzz");
        x.rewrite(0, 0, 3);
        x.paragraphOf(0, 1, 2);
        x.cut(0, 100, false);
        Check.due("it stays till the next", x.out(0), 'a');
        Check.granted(x, "of one byte", x.print(0, 1), 1);
        Check.due("is out", x.out(0), 'd');
        Check.granted(x, "of none", x.print(0, 2), 0);
        x.print(0, 1);
        Check.sentence("22", "NONE (1).");
        for (int number : new int[] {Integer.MIN_VALUE, -1, 3, Integer.MAX_VALUE}) {
            Check.refused(x, "at " + number, x.print(0, number), 1);
            Check.refused(x, "of " + number, x.print(number, 0), 1);
        }
        Check.refused(x, "of a story without any", x.print(1, 0), 1);
        Check.due("out stays", x.out(0), 'd');
    }

    private static void cutCall() {
        LivesAhead x = desk();
        Check.sentence("25", "NONE ahead of any.");
        Check.due("ahead of any", x.cutOf(), -1);
        x.cut(2, 1, false);
        Check.due("ahead of any that told a number", x.cutOf(), -1);
        Check.sentence("26", "How long it is; NONE.");
        Check.due("ahead of any", x.cutLong(), -1);
        Check.paragraph(x, 0, 5, -1, "abc");
        Check.paragraph(x, 0, 6, -1, "de");
        Check.sentence("24", "CUT of a PERSON's story to a length, today: the WORTH of its PARAGRAPHS.");
        Check.granted(x, "of one without a story", x.cut(1, 100, true), 0);
        Check.due("none", x.cutOf(), 0);
        Check.due("of no length", x.cutLong(), 0);
        Check.granted(x, "of both", x.cut(0, 6, false), 11);
        Check.sentence("24", "NONE: 1; 2.");
        for (int person : NOT_ONE) {
            Check.refused(x, "of " + person, x.cut(person, 5, false), 1);
            Check.refused(x, "1 ahead of 2", x.cut(person, 4001, false), 1);
        }
        for (int length : new int[] {Integer.MIN_VALUE, -1, 4001, Integer.MAX_VALUE}) {
            Check.refused(x, "to " + length, x.cut(0, length, false), 2);
        }
        Check.sentence("25", "PARAGRAPHS of the latest cut() that told a number, as bits;");
        Check.due("not of those refused", x.cutOf(), 3);
        Check.sentence("26", "How long it is;");
        Check.due("not of those refused", x.cutLong(), 6);
        dies(x, 0, 0);
        x.edition(0, 2, false);
        Check.due("no edition's", x.cutOf(), 3);
        Check.due("no edition's", x.cutLong(), 6);
        x.cut(0, 2, false);
        Check.due("of the latest", x.cutOf(), 2);
        Check.due("of the latest", x.cutLong(), 2);
    }
}
