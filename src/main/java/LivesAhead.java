import java.util.ArrayList;
import java.util.Arrays;
import java.util.NoSuchElementException;

/**
 * A desk of lives written ahead. The numbered promises of the document say what each call answers; a call that may be
 * refused leaves why in trouble().
 */
public final class LivesAhead {
    /** There is none; refused. */
    public static final int NONE = -1;

    private static final int NO_VALUE = -2147483648;
    private static final int NONE_YET = -2;
    private static final int MORE_THAN_ONE = -3;

    private static final int NO_SUCH = 1;
    private static final int BAD_NUMBER = 2;
    private static final int NO_ROOM = 3;
    private static final int FAULTY = 4;
    private static final int NOT_SO = 5;

    private static final int MOST_PEOPLE = 30;
    private static final int MOST_WRITERS = 6;
    private static final int MOST_TELLINGS = 240;
    private static final int MOST_PARAGRAPHS = 150;
    private static final int STORY_PARAGRAPHS = 14;
    private static final int MOST_REPORTS = 120;
    private static final int MOST_RULES = 12;
    private static final int MOST_PICTURES = 40;
    private static final int MOST_QUOTES = 60;
    private static final int MOST_EDITIONS = 80;

    private static final int LAST_DAY = 3650;
    private static final int DAY_MINUTES = 1440;
    private static final int YEAR_DAYS = 365;
    private static final int FIRST_YEAR = 100;
    private static final int KINDS = 10;
    private static final int SOURCES = 5;
    private static final int MOST_VALUE = 9999;
    private static final int MOST_LENGTH = 4000;
    private static final int MOST_HOURS = 60;
    private static final int WEEK_STORIES = 12;
    private static final int PICTURE_BYTES = 200;
    private static final int RUMOUR_FACTS = 3;

    // What a printed sum or a rule may name: the facts by their kinds, then these.
    private static final int AGE = 10;
    private static final int BORN = 11;
    private static final int YEAR = 12;
    private static final int WORTH = 13;
    private static final int KIN = 14;
    private static final int SOURCES_HEARD = 19;
    private static final int HOURS_SINCE = 20;
    private static final int NAMES = 21;

    // What a text that was read asks the printer to do, one step after another.
    private static final int SAY = 0;
    private static final int ADD_WHOLE = 1;
    private static final int ADD_NAME = 2;
    private static final int MINUS = 3;
    private static final int SAY_SUM = 4;
    private static final int RELATE = 5;
    private static final int COMPARE = 6;
    private static final int DENY = 7;
    private static final int ASK_HAS = 8;
    private static final int ASK_STALE = 9;
    private static final int ASK_DEAD = 10;
    private static final int BEGIN_TEST = 11;
    private static final int JOIN = 12;
    private static final int SKIP_UNLESS = 13;
    private static final int SKIP = 14;
    private static final int STEP_SHIFT = 16;
    private static final int STEP_MASK = 65535;

    private static final int NO_JOIN = 0;
    private static final int JOIN_AND = 1;
    private static final int JOIN_OR = 2;

    private final ArrayList<Writer> writers = new ArrayList<>();
    private final ArrayList<Person> people = new ArrayList<>();
    private final ArrayList<Text> rules = new ArrayList<>();
    private final ArrayList<Report> reports = new ArrayList<>();
    private final ArrayList<Picture> pictures = new ArrayList<>();
    private final ArrayList<Quote> quotes = new ArrayList<>();
    private final ArrayList<Edition> editions = new ArrayList<>();
    private final int[] keeps = new int[KINDS];
    private final Reader reader = new Reader();
    private final Printer printer = new Printer();
    private final Chooser chooser = new Chooser();
    private int tellings = 0;
    private int paragraphs = 0;
    private int now = 0;
    private int trouble = 0;
    private int outLength = 0;
    private int cutBits = NONE;
    private int cutLength = NONE;
    private final ArrayList<Person> weekPeople = new ArrayList<>();
    private int weekHours = NONE;

    /** Promise 1. */
    public LivesAhead() {
        Arrays.fill(keeps, YEAR_DAYS);
    }

    // ---- people and facts

    /** Promise 2. */
    public int writer(int hours) {
        if (!within(hours, 0, MOST_HOURS)) {
            return refused(BAD_NUMBER);
        }
        if (writers.size() >= MOST_WRITERS) {
            return refused(NO_ROOM);
        }
        writers.add(new Writer(hours));
        return granted(writers.size() - 1);
    }

    /** Promise 3. */
    public boolean hours(int writer, int hours) {
        Writer found = livingWriter(writer);
        if (found == null) {
            return denied(NO_SUCH);
        }
        if (!within(hours, 0, MOST_HOURS)) {
            return denied(BAD_NUMBER);
        }
        found.hours = hours;
        return allowed();
    }

    /** Promise 4. */
    public int bury(int writer) {
        Writer dying = livingWriter(writer);
        if (dying == null) {
            return refused(NO_SUCH);
        }
        int heir = heirOf(writer);
        if (heir == NONE) {
            return refused(NOT_SO);
        }
        dying.lives = false;
        return granted(handOver(writer, heir));
    }

    /** Promise 5. */
    public int person(int name, int born, int worth, int writer) {
        if (livingWriter(writer) == null) {
            return refused(NO_SUCH);
        }
        if (!within(name, 0, 99) || !within(born, 1, 36500) || !within(worth, 1, 100)) {
            return refused(BAD_NUMBER);
        }
        if (people.size() >= MOST_PEOPLE) {
            return refused(NO_ROOM);
        }
        people.add(new Person(people.size(), name, born, worth, writer));
        return granted(people.size() - 1);
    }

    /** Promise 6. */
    public int about(int person, int what) {
        Person of = personAt(person);
        if (of == null) {
            return NONE;
        }
        switch (what) {
            case 0: return of.name;
            case 1: return ageOf(of);
            case 2: return of.worth;
            case 3: return of.writer;
            case 4: return asNumber(of.isDead());
            case 5: return of.deathDay;
            case 6: return asNumber(of.peril);
            case 7: return of.paragraphs;
            case 8: return Integer.bitCount(of.kindsTold());
            case 9: return Integer.bitCount(staleKinds(of, today()));
            default: return NONE;
        }
    }

    /** Promise 7. */
    public boolean peril(int person, boolean is) {
        Person of = personAt(person);
        if (of == null) {
            return denied(NO_SUCH);
        }
        of.peril = is;
        return allowed();
    }

    /** Promise 8. */
    public boolean keeps(int kind, int days) {
        if (!isKind(kind) || !within(days, 1, LAST_DAY)) {
            return denied(BAD_NUMBER);
        }
        keeps[kind] = days;
        return allowed();
    }

    /** Promise 9. */
    public int fact(int person, int kind, int value, boolean sealed) {
        Person of = personAt(person);
        if (of == null) {
            return refused(NO_SUCH);
        }
        if (!isKind(kind) || !isValue(value)) {
            return refused(BAD_NUMBER);
        }
        if (tellings >= MOST_TELLINGS) {
            return refused(NO_ROOM);
        }
        tellings++;
        Telling told = new Telling(value, sealed, today(), of.facts[kind]);
        of.facts[kind] = told;
        return granted(told.number);
    }

    /** Promise 10. */
    public boolean check(int person, int kind) {
        Person of = personAt(person);
        if (of == null) {
            return denied(NO_SUCH);
        }
        if (!isKind(kind)) {
            return denied(BAD_NUMBER);
        }
        Telling latest = of.facts[kind];
        if (latest == null) {
            return denied(NO_SUCH);
        }
        latest.checked = today();
        return allowed();
    }

    /** Promise 11. */
    public int known(int person, int kind, int what) {
        Telling latest = latestTelling(person, kind);
        if (latest == null) {
            return NO_VALUE;
        }
        switch (what) {
            case 0: return latest.value;
            case 1: return asNumber(latest.sealed);
            case 2: return latest.day;
            case 3: return latest.checked;
            case 4: return asNumber(isStale(latest, kind, today()));
            case 5: return latest.number;
            default: return NONE;
        }
    }

    /** Promise 12. */
    public int knownOn(int person, int kind, int day) {
        if (!within(day, 0, LAST_DAY)) {
            return NO_VALUE;
        }
        for (Telling told = latestTelling(person, kind); told != null; told = told.earlier) {
            if (told.day <= day) {
                return told.value;
            }
        }
        return NO_VALUE;
    }

    /** Promise 13. */
    public int ages(int person, int day) {
        Person of = personAt(person);
        if (of == null) {
            return refused(NO_SUCH);
        }
        if (!within(day, today(), LAST_DAY)) {
            return refused(BAD_NUMBER);
        }
        return granted(staleKinds(of, day));
    }

    /** Promise 14. */
    public int alike(int person) {
        Person of = personAt(person);
        if (of == null) {
            return NONE;
        }
        int others = 0;
        for (int i = 0; i < people.size(); i++) {
            if (i != person && people.get(i).name == of.name) {
                others++;
            }
        }
        return others;
    }

    /** Promise 15. */
    public int apart(int one, int other) {
        Person first = personAt(one);
        Person second = personAt(other);
        if (first == null || second == null) {
            return NONE;
        }
        for (int kind = 0; kind < KINDS; kind++) {
            Telling mine = first.facts[kind];
            Telling yours = second.facts[kind];
            if (mine != null && yours != null && mine.value != yours.value) {
                return kind;
            }
        }
        return NONE_YET;
    }

    // ---- paragraphs

    /** Promise 16. */
    public int feed(int a, int b, int c, int d, int e) {
        if (!reader.hasRoomFor(20)) {
            return NONE;
        }
        reader.append(a);
        reader.append(b);
        reader.append(c);
        reader.append(d);
        reader.append(e);
        return reader.held;
    }

    /** Promise 17. */
    public int paragraph(int person, int worth, int lean, int n) {
        Person of = personAt(person);
        if (of == null) {
            return refused(NO_SUCH);
        }
        if (!within(worth, 0, 999) || !within(lean, NONE, of.paragraphs - 1) || !reader.holds(n)) {
            return refused(BAD_NUMBER);
        }
        Text text = reader.read(n, false);
        if (text == null) {
            return refused(FAULTY);
        }
        int place = of.paragraphs;
        if (place >= STORY_PARAGRAPHS || paragraphs >= MOST_PARAGRAPHS) {
            return refused(NO_ROOM);
        }
        of.texts[place] = text;
        of.worths[place] = worth;
        of.leans[place] = lean;
        of.paragraphs++;
        paragraphs++;
        return granted(place);
    }

    /** Promise 18. */
    public boolean rewrite(int person, int place, int n) {
        Person of = personAt(person);
        if (textAt(of, place) == null) {
            return denied(NO_SUCH);
        }
        if (!reader.holds(n)) {
            return denied(BAD_NUMBER);
        }
        Text text = reader.read(n, false);
        if (text == null) {
            return denied(FAULTY);
        }
        of.texts[place] = text;
        return allowed();
    }

    /** Promise 19. */
    public int fault() {
        return reader.fault;
    }

    /** Promise 20. */
    public int where() {
        return trouble == FAULTY ? reader.where : NONE;
    }

    /** Promise 21. */
    public int paragraphOf(int person, int place, int what) {
        Person of = personAt(person);
        Text text = textAt(of, place);
        if (text == null) {
            return NONE;
        }
        switch (what) {
            case 0: return of.worths[place];
            case 1: return of.leans[place];
            case 2: return lengthToday(of, text);
            case 3: return asNumber((text.kinds & unsureKinds(of)) != 0);
            case 4: return text.kinds;
            case 5: return text.pieces;
            default: return NONE;
        }
    }

    /** Promise 22. */
    public int print(int person, int place) {
        Person of = personAt(person);
        Text text = textAt(of, place);
        if (text == null) {
            return refused(NO_SUCH);
        }
        fillPrinter(of);
        printer.run(text.steps, true);
        outLength = printer.length;
        return granted(outLength);
    }

    /** Promise 23. */
    public int out(int i) throws NoSuchElementException {
        if (i < 0 || i >= outLength || i >= printer.bytes.length) {
            throw new NoSuchElementException();
        }
        return printer.bytes[i];
    }

    /** Promise 24. */
    public int cut(int person, int length, boolean withoutMarked) {
        Person of = personAt(person);
        if (of == null) {
            return refused(NO_SUCH);
        }
        if (!within(length, 0, MOST_LENGTH)) {
            return refused(BAD_NUMBER);
        }
        chooseParagraphs(of, length, withoutMarked);
        cutBits = chooser.bestBits;
        cutLength = chooser.bestCost;
        return granted(chooser.bestGain);
    }

    /** Promise 25. */
    public int cutOf() {
        return cutBits;
    }

    /** Promise 26. */
    public int cutLong() {
        return cutLength;
    }

    // ---- deaths

    /** Promise 27. */
    public int rule(int n) {
        if (!reader.holds(n)) {
            return refused(BAD_NUMBER);
        }
        Text text = reader.read(n, true);
        if (text == null) {
            return refused(FAULTY);
        }
        if (rules.size() >= MOST_RULES) {
            return refused(NO_ROOM);
        }
        rules.add(text);
        return granted(rules.size());
    }

    /** Promise 28. */
    public int report(int person, int day, int source) {
        if (personAt(person) == null) {
            return refused(NO_SUCH);
        }
        if (!isHeard(day, source)) {
            return refused(BAD_NUMBER);
        }
        return keepReport(new Report(person, NONE, day, source, now));
    }

    /** Promise 29. */
    public int rumour(int name, int day, int source, int kind, int value, int kind2, int value2, int kind3, int value3) {
        if (!within(name, 0, 99) || !isHeard(day, source)) {
            return refused(BAD_NUMBER);
        }
        Report heard = new Report(NONE, name, day, source, now);
        boolean sound = heard.tellFact(kind, value) && heard.tellFact(kind2, value2) && heard.tellFact(kind3, value3);
        if (!sound) {
            return refused(BAD_NUMBER);
        }
        return keepReport(heard);
    }

    /** Promise 30. */
    public int fits(int report) {
        if (!within(report, 0, reports.size() - 1)) {
            return NONE;
        }
        return personOf(reports.get(report));
    }

    /** Promise 31. */
    public boolean withdraw(int report) {
        if (!within(report, 0, reports.size() - 1)) {
            return denied(NO_SUCH);
        }
        Report heard = reports.get(report);
        if (heard.withdrawn) {
            return denied(NOT_SO);
        }
        heard.withdrawn = true;
        return allowed();
    }

    /** Promise 32. */
    public int may(int person) {
        Person of = personAt(person);
        if (of == null || of.isDead()) {
            return refused(NO_SUCH);
        }
        return granted(asNumber(isProven(of, proofsOf(person))));
    }

    /** Promise 33. */
    public int tell(int person) {
        Person of = personAt(person);
        if (of == null) {
            return refused(NO_SUCH);
        }
        if (of.isDead()) {
            return refused(NOT_SO);
        }
        ArrayList<Report> proofs = proofsOf(person);
        if (!isProven(of, proofs)) {
            return refused(NOT_SO);
        }
        of.deathDay = dayMostSaid(proofs);
        return granted(of.deathDay);
    }

    // ---- pictures, quotes, editions

    /** Promise 34. */
    public int picture(int person, int worth, int from, int to, int times) {
        if (personAt(person) == null) {
            return refused(NO_SUCH);
        }
        boolean days = within(from, 0, LAST_DAY) && within(to, from, LAST_DAY);
        if (!days || !within(worth, 1, 100) || !within(times, 1, 99)) {
            return refused(BAD_NUMBER);
        }
        if (pictures.size() >= MOST_PICTURES) {
            return refused(NO_ROOM);
        }
        pictures.add(new Picture(person, worth, from, to, times));
        return granted(pictures.size() - 1);
    }

    /** Promise 35. */
    public int used(int picture) {
        if (!within(picture, 0, pictures.size() - 1)) {
            return NONE;
        }
        return pictures.get(picture).printed;
    }

    /** Promise 36. */
    public int ask(int person, int minutes) {
        if (personAt(person) == null) {
            return refused(NO_SUCH);
        }
        if (!within(minutes, 1, DAY_MINUTES)) {
            return refused(BAD_NUMBER);
        }
        if (quotes.size() >= MOST_QUOTES) {
            return refused(NO_ROOM);
        }
        quotes.add(new Quote(person, now + minutes));
        return granted(quotes.size() - 1);
    }

    /** Promise 37. */
    public int answer(int quote, int bytes) {
        if (!within(quote, 0, quotes.size() - 1)) {
            return refused(NO_SUCH);
        }
        if (!within(bytes, 1, 400)) {
            return refused(BAD_NUMBER);
        }
        Quote asked = quotes.get(quote);
        if (asked.bytes > 0) {
            return refused(NOT_SO);
        }
        asked.bytes = bytes;
        asked.inTime = now <= asked.due;
        return granted(asNumber(asked.inTime));
    }

    /** Promise 38. */
    public boolean embargo(int person, int day, int minute) {
        Person of = personAt(person);
        if (of == null) {
            return denied(NO_SUCH);
        }
        if (!within(day, 0, LAST_DAY) || !within(minute, 0, DAY_MINUTES - 1)) {
            return denied(BAD_NUMBER);
        }
        of.embargo = day * DAY_MINUTES + minute;
        return allowed();
    }

    /** Promise 39. */
    public int edition(int person, int length, boolean withoutMarked) {
        Person of = personAt(person);
        if (of == null) {
            return refused(NO_SUCH);
        }
        if (!within(length, 1, MOST_LENGTH)) {
            return refused(BAD_NUMBER);
        }
        if (!of.isDead() || now < of.embargo) {
            return refused(NOT_SO);
        }
        if (editions.size() >= MOST_EDITIONS) {
            return refused(NO_ROOM);
        }
        Edition laid = new Edition(person, today());
        layPicture(laid, length);
        layQuotes(laid, length);
        chooseParagraphs(of, length - laid.bytes, withoutMarked);
        laid.paragraphs = chooser.bestBits;
        laid.bytes += chooser.bestCost;
        layFacts(laid, of);
        editions.add(laid);
        return granted(editions.size() - 1);
    }

    /** Promise 40. */
    public int editionOf(int edition, int what) {
        Edition of = editionAt(edition);
        if (of == null) {
            return NONE;
        }
        switch (what) {
            case 0: return of.person;
            case 1: return of.day;
            case 2: return of.bytes;
            case 3: return of.paragraphs;
            case 4: return of.picture;
            case 5: return of.quotes;
            case 6: return of.kinds;
            case 7: return of.corrections;
            default: return NONE;
        }
    }

    /** Promise 41. */
    public int wrong(int edition) {
        Edition of = editionAt(edition);
        if (of == null) {
            return NONE;
        }
        int bits = 0;
        for (int kind = 0; kind < KINDS; kind++) {
            if (isWrong(of, kind)) {
                bits |= 1 << kind;
            }
        }
        return bits;
    }

    /** Promise 42. */
    public boolean correct(int edition, int kind) {
        Edition of = editionAt(edition);
        if (of == null || !of.hasPrinted(kind)) {
            return denied(NO_SUCH);
        }
        if (!isWrong(of, kind)) {
            return denied(NOT_SO);
        }
        of.standing[kind] = valueNow(of.person, kind, of.standing[kind]);
        of.corrections++;
        return allowed();
    }

    /** Promise 43. */
    public int said(int edition, int kind) {
        Edition of = editionAt(edition);
        if (of == null || !of.hasPrinted(kind)) {
            return NO_VALUE;
        }
        return of.values[kind];
    }

    // ---- weeks

    /** Promise 44. */
    public int week(int writer) {
        Writer of = livingWriter(writer);
        if (of == null) {
            return refused(NO_SUCH);
        }
        weekPeople.clear();
        gatherStories(writer);
        chooser.begin(of.hours, 0);
        for (int i = 0; i < weekPeople.size(); i++) {
            Person next = weekPeople.get(i);
            chooser.offer(next.gain, hoursFor(next), NONE, true);
        }
        chooser.choose();
        weekHours = chooser.bestCost;
        keepChosen(chooser.bestBits);
        return granted(chooser.bestGain);
    }

    /** Promise 45. */
    public int fresh(int i) {
        return within(i, 0, weekPeople.size() - 1) ? weekPeople.get(i).number : NONE;
    }

    /** Promise 46. */
    public int takes() {
        return weekHours;
    }

    /** Promise 47. */
    public int freshen() {
        int checked = 0;
        for (int i = 0; i < weekPeople.size(); i++) {
            checked += checkStale(weekPeople.get(i));
        }
        return checked;
    }

    /** Promise 48. */
    public int pass(int minutes) {
        if (!within(minutes, 1, 100000) || (now + minutes) / DAY_MINUTES > LAST_DAY) {
            return refused(BAD_NUMBER);
        }
        now += minutes;
        return granted(today());
    }

    /** Promise 49. */
    public int count(int what) {
        switch (what) {
            case 0: return people.size();
            case 1: return deadPeople();
            case 2: return livingWriters();
            case 3: return tellings;
            case 4: return paragraphs;
            case 5: return reports.size();
            case 6: return rules.size();
            case 7: return pictures.size();
            case 8: return quotes.size();
            case 9: return editions.size();
            case 10: return today();
            case 11: return now % DAY_MINUTES;
            case 12: return reader.held;
            default: return NONE;
        }
    }

    /** Promise 50. */
    public int trouble() {
        return trouble;
    }

    // ---- answers

    private int refused(int why) {
        trouble = why;
        return NONE;
    }

    private int granted(int answer) {
        trouble = 0;
        return answer;
    }

    private boolean denied(int why) {
        trouble = why;
        return false;
    }

    private boolean allowed() {
        trouble = 0;
        return true;
    }

    private static int asNumber(boolean is) {
        return is ? 1 : 0;
    }

    private static boolean within(int number, int least, int most) {
        return number >= least && number <= most;
    }

    private static boolean isKind(int kind) {
        return within(kind, 0, KINDS - 1);
    }

    private static boolean isValue(int value) {
        return within(value, -MOST_VALUE, MOST_VALUE);
    }

    private int today() {
        return now / DAY_MINUTES;
    }

    // ---- writers and people

    private Writer livingWriter(int number) {
        if (!within(number, 0, writers.size() - 1)) {
            return null;
        }
        Writer found = writers.get(number);
        return found.lives ? found : null;
    }

    private int livingWriters() {
        int living = 0;
        for (int i = 0; i < writers.size(); i++) {
            living += asNumber(writers.get(i).lives);
        }
        return living;
    }

    private int heirOf(int dying) {
        int heir = NONE;
        int fewest = 0;
        for (int i = 0; i < writers.size(); i++) {
            if (i == dying || !writers.get(i).lives) {
                continue;
            }
            int stories = storiesOf(i);
            if (heir == NONE || stories < fewest) {
                heir = i;
                fewest = stories;
            }
        }
        return heir;
    }

    private int storiesOf(int writer) {
        int stories = 0;
        for (int i = 0; i < people.size(); i++) {
            stories += asNumber(people.get(i).writer == writer);
        }
        return stories;
    }

    private int handOver(int writer, int heir) {
        int stories = 0;
        for (int i = 0; i < people.size(); i++) {
            Person of = people.get(i);
            if (of.writer == writer) {
                of.writer = heir;
                stories++;
            }
        }
        return stories;
    }

    private Person personAt(int number) {
        return within(number, 0, people.size() - 1) ? people.get(number) : null;
    }

    private int deadPeople() {
        int dead = 0;
        for (int i = 0; i < people.size(); i++) {
            dead += asNumber(people.get(i).isDead());
        }
        return dead;
    }

    private int ageOf(Person of) {
        int day = of.isDead() ? of.deathDay : today();
        return (of.born + day) / YEAR_DAYS;
    }

    // ---- facts

    private Telling latestTelling(int person, int kind) {
        Person of = personAt(person);
        return of == null || !isKind(kind) ? null : of.facts[kind];
    }

    private boolean isStale(Telling latest, int kind, int day) {
        return day - latest.checked > keeps[kind];
    }

    private int staleKinds(Person of, int day) {
        int bits = 0;
        for (int kind = 0; kind < KINDS; kind++) {
            Telling latest = of.facts[kind];
            if (latest != null && isStale(latest, kind, day)) {
                bits |= 1 << kind;
            }
        }
        return bits;
    }

    private int unsureKinds(Person of) {
        return staleKinds(of, today()) | ~of.kindsTold();
    }

    private int checkStale(Person of) {
        int stale = staleKinds(of, today());
        for (int kind = 0; kind < KINDS; kind++) {
            Telling latest = of.facts[kind];
            if (latest != null && (stale & 1 << kind) != 0) {
                latest.checked = today();
            }
        }
        return Integer.bitCount(stale);
    }

    // ---- texts

    private static Text textAt(Person of, int place) {
        return of == null || !within(place, 0, of.paragraphs - 1) ? null : of.texts[place];
    }

    private void fillPrinter(Person of) {
        printer.dead = of.isDead();
        printer.stale = staleKinds(of, today());
        printer.has = 0;
        for (int kind = 0; kind < KINDS; kind++) {
            Telling latest = of.facts[kind];
            boolean told = latest != null && (!latest.sealed || of.isDead());
            printer.names[kind] = told ? latest.value : 0;
            printer.has |= told ? 1 << kind : 0;
        }
        printer.names[AGE] = ageOf(of);
        printer.names[BORN] = FIRST_YEAR - (of.born + YEAR_DAYS - 1) / YEAR_DAYS;
        printer.names[YEAR] = FIRST_YEAR + today() / YEAR_DAYS;
        printer.names[WORTH] = of.worth;
    }

    private int lengthToday(Person of, Text text) {
        fillPrinter(of);
        printer.run(text.steps, false);
        return printer.length;
    }

    private void chooseParagraphs(Person of, int length, boolean withoutMarked) {
        int unsure = withoutMarked ? unsureKinds(of) : 0;
        fillPrinter(of);
        chooser.begin(length, 1);
        for (int place = 0; place < of.paragraphs && place < STORY_PARAGRAPHS; place++) {
            Text text = of.texts[place];
            if (text != null) {
                printer.run(text.steps, false);
                chooser.offer(of.worths[place], printer.length, of.leans[place], (text.kinds & unsure) == 0);
            }
        }
        chooser.choose();
    }

    // ---- reports and proofs

    private boolean isHeard(int day, int source) {
        return within(day, 0, today()) && within(source, 0, SOURCES - 1);
    }

    private int keepReport(Report heard) {
        if (reports.size() >= MOST_REPORTS) {
            return refused(NO_ROOM);
        }
        reports.add(heard);
        return granted(reports.size() - 1);
    }

    private int personOf(Report heard) {
        if (heard.person != NONE) {
            return heard.person;
        }
        int fitting = NONE_YET;
        for (int i = 0; i < people.size(); i++) {
            if (heard.suits(people.get(i))) {
                if (fitting != NONE_YET) {
                    return MORE_THAN_ONE;
                }
                fitting = i;
            }
        }
        return fitting;
    }

    private ArrayList<Report> proofsOf(int person) {
        ArrayList<Report> proofs = new ArrayList<>();
        for (int i = 0; i < reports.size(); i++) {
            Report heard = reports.get(i);
            if (!heard.withdrawn && personOf(heard) == person) {
                proofs.add(heard);
            }
        }
        return proofs;
    }

    private boolean isProven(Person of, ArrayList<Report> proofs) {
        if (proofs.isEmpty()) {
            return false;
        }
        fillProofs(of, proofs);
        for (int i = 0; i < rules.size(); i++) {
            if (printer.run(rules.get(i).steps, false)) {
                return true;
            }
        }
        return false;
    }

    private void fillProofs(Person of, ArrayList<Report> proofs) {
        Arrays.fill(printer.names, 0);
        printer.names[AGE] = ageOf(of);
        printer.names[WORTH] = of.worth;
        int first = now;
        for (int i = 0; i < proofs.size(); i++) {
            Report heard = proofs.get(i);
            int name = KIN + heard.source;
            if (printer.names[name] == 0) {
                printer.names[SOURCES_HEARD]++;
            }
            printer.names[name]++;
            first = Math.min(first, heard.told);
        }
        printer.names[HOURS_SINCE] = (now - first) / 60;
    }

    private static int dayMostSaid(ArrayList<Report> proofs) {
        int best = NONE;
        int most = 0;
        for (int i = 0; i < proofs.size(); i++) {
            int day = proofs.get(i).day;
            int say = 0;
            for (int j = 0; j < proofs.size(); j++) {
                say += asNumber(proofs.get(j).day == day);
            }
            if (say > most || say == most && day < best) {
                best = day;
                most = say;
            }
        }
        return best;
    }

    // ---- editions

    private Edition editionAt(int number) {
        return within(number, 0, editions.size() - 1) ? editions.get(number) : null;
    }

    private void layPicture(Edition laid, int length) {
        Picture best = null;
        for (int i = 0; i < pictures.size() && length >= PICTURE_BYTES; i++) {
            Picture next = pictures.get(i);
            boolean free = next.person == laid.person && next.isFree(laid.day);
            if (free && (best == null || next.worth > best.worth)) {
                best = next;
                laid.picture = i;
            }
        }
        if (best != null) {
            best.printed++;
            laid.bytes = PICTURE_BYTES;
        }
    }

    private void layQuotes(Edition laid, int length) {
        for (int i = 0; i < quotes.size(); i++) {
            Quote next = quotes.get(i);
            if (next.person != laid.person || !next.inTime) {
                continue;
            }
            if (next.bytes > length - laid.bytes) {
                return;
            }
            laid.bytes += next.bytes;
            laid.quotes++;
        }
    }

    private static void layFacts(Edition laid, Person of) {
        int kinds = 0;
        for (int place = 0; place < of.paragraphs && place < STORY_PARAGRAPHS; place++) {
            Text text = of.texts[place];
            if (text != null && (laid.paragraphs & 1 << place) != 0) {
                kinds |= text.kinds;
            }
        }
        laid.kinds = kinds & of.kindsTold();
        for (int kind = 0; kind < KINDS; kind++) {
            Telling latest = of.facts[kind];
            if (latest != null && laid.hasPrinted(kind)) {
                laid.values[kind] = latest.value;
                laid.standing[kind] = latest.value;
            }
        }
    }

    private boolean isWrong(Edition of, int kind) {
        if (!of.hasPrinted(kind)) {
            return false;
        }
        int standing = of.standing[kind];
        return valueNow(of.person, kind, standing) != standing;
    }

    private int valueNow(int person, int kind, int otherwise) {
        Telling latest = latestTelling(person, kind);
        return latest == null ? otherwise : latest.value;
    }

    // ---- weeks of writers

    private void gatherStories(int writer) {
        for (int i = 0; i < people.size(); i++) {
            Person of = people.get(i);
            int stale = of.isDead() ? 0 : Integer.bitCount(staleKinds(of, today()));
            if (of.writer == writer && stale > 0) {
                of.gain = chanceOf(of) * of.worth * stale;
                weekPeople.add(of);
            }
        }
        for (int over = weekPeople.size() - WEEK_STORIES; over > 0; over--) {
            weekPeople.remove(placeOfLeast(weekPeople));
        }
    }

    private static int placeOfLeast(ArrayList<Person> stories) {
        int least = 0;
        for (int i = 1; i < stories.size(); i++) {
            if (stories.get(i).gain <= stories.get(least).gain) {
                least = i;
            }
        }
        return least;
    }

    private void keepChosen(int bits) {
        for (int i = weekPeople.size() - 1; i >= 0; i--) {
            if ((bits & 1 << i) == 0) {
                weekPeople.remove(i);
            }
        }
    }

    private int chanceOf(Person of) {
        int chance = chanceAt(ageOf(of));
        return of.peril ? chance * 5 : chance;
    }

    private static int chanceAt(int age) {
        if (age < 40) {
            return 1;
        }
        if (age < 60) {
            return 3;
        }
        if (age < 75) {
            return 10;
        }
        return age < 85 ? 30 : 80;
    }

    private int hoursFor(Person of) {
        return 1 + (Integer.bitCount(staleKinds(of, today())) + 2) / 3;
    }

    // ---- what the desk keeps

    private static final class Writer {
        int hours;
        boolean lives = true;

        Writer(int hours) {
            this.hours = hours;
        }
    }

    private static final class Person {
        final int number;
        final int name;
        final int born;
        final int worth;
        int writer;
        int deathDay = NONE_YET;
        boolean peril = false;
        int embargo = 0;
        int gain = 0;
        final Telling[] facts = new Telling[KINDS];
        final Text[] texts = new Text[STORY_PARAGRAPHS];
        final int[] worths = new int[STORY_PARAGRAPHS];
        final int[] leans = new int[STORY_PARAGRAPHS];
        int paragraphs = 0;

        Person(int number, int name, int born, int worth, int writer) {
            this.number = number;
            this.name = name;
            this.born = born;
            this.worth = worth;
            this.writer = writer;
        }

        boolean isDead() {
            return deathDay >= 0;
        }

        int kindsTold() {
            int bits = 0;
            for (int kind = 0; kind < KINDS; kind++) {
                bits |= facts[kind] == null ? 0 : 1 << kind;
            }
            return bits;
        }
    }

    /** One telling of a fact; the latest of a kind is the fact, and alone is checked again. */
    private static final class Telling {
        final int value;
        final boolean sealed;
        final int day;
        final int number;
        final Telling earlier;
        int checked;

        Telling(int value, boolean sealed, int day, Telling earlier) {
            this.value = value;
            this.sealed = sealed;
            this.day = day;
            this.checked = day;
            this.earlier = earlier;
            this.number = earlier == null ? 1 : earlier.number + 1;
        }
    }

    /** A paragraph or a rule, read into steps so that it need not be read again. */
    private static final class Text {
        final int[] steps;
        final int kinds;
        final int pieces;

        Text(int[] steps, int kinds, int pieces) {
            this.steps = steps;
            this.kinds = kinds;
            this.pieces = pieces;
        }
    }

    private static final class Report {
        final int person;
        final int name;
        final int day;
        final int source;
        final int told;
        final int[] kinds = new int[RUMOUR_FACTS];
        final int[] values = new int[RUMOUR_FACTS];
        int facts = 0;
        boolean complete = false;
        boolean withdrawn = false;

        Report(int person, int name, int day, int source, int told) {
            this.person = person;
            this.name = name;
            this.day = day;
            this.source = source;
            this.told = told;
        }

        boolean tellFact(int kind, int value) {
            complete = complete || kind == NONE;
            if (complete) {
                return true;
            }
            if (!isKind(kind) || !isValue(value) || facts >= RUMOUR_FACTS) {
                return false;
            }
            kinds[facts] = kind;
            values[facts] = value;
            facts++;
            return true;
        }

        boolean suits(Person one) {
            if (one.name != name) {
                return false;
            }
            for (int i = 0; i < facts && i < RUMOUR_FACTS; i++) {
                Telling latest = one.facts[kinds[i]];
                if (latest != null && latest.value != values[i]) {
                    return false;
                }
            }
            return true;
        }
    }

    private static final class Picture {
        final int person;
        final int worth;
        final int from;
        final int to;
        final int times;
        int printed = 0;

        Picture(int person, int worth, int from, int to, int times) {
            this.person = person;
            this.worth = worth;
            this.from = from;
            this.to = to;
            this.times = times;
        }

        boolean isFree(int day) {
            return day >= from && day <= to && printed < times;
        }
    }

    private static final class Quote {
        final int person;
        final int due;
        int bytes = 0;
        boolean inTime = false;

        Quote(int person, int due) {
            this.person = person;
            this.due = due;
        }
    }

    /** What was printed stands in values; standing is what counts now, the corrections beside it taken in. */
    private static final class Edition {
        final int person;
        final int day;
        int bytes = 0;
        int paragraphs = 0;
        int picture = NONE_YET;
        int quotes = 0;
        int kinds = 0;
        int corrections = 0;
        final int[] values = new int[KINDS];
        final int[] standing = new int[KINDS];

        Edition(int person, int day) {
            this.person = person;
            this.day = day;
        }

        boolean hasPrinted(int kind) {
            return isKind(kind) && (kinds & 1 << kind) != 0;
        }
    }

    /** Reads paragraphs and rules off the tape, byte by byte from the left, so that the first fault met is the one told. */
    private static final class Reader {
        private static final int TAPE_BYTES = 400;
        private static final int MOST_STEPS = 1024;
        private static final int MOST_PIECES = 60;
        private static final int MOST_TERMS = 30;
        private static final int MOST_IFS = 5;

        private static final int FORM = 1;
        private static final int NO_NAME = 2;
        private static final int MANY = 3;

        private static final int UNKNOWN = -1;
        private static final int IF = 21;
        private static final int AND = 22;
        private static final int OR = 23;
        private static final int NOT = 24;
        private static final int HAS = 25;
        private static final int STALE = 26;
        private static final int DEAD = 27;

        // Where reading stands: plain bytes, or within { } what may come next.
        private static final int PLAIN = 0;
        private static final int OPENED = 1;
        private static final int ONE = 2;
        private static final int HAS_WHAT = 3;
        private static final int STALE_WHAT = 4;
        private static final int TERM_PRINTED = 5;
        private static final int TERM_LEFT = 6;
        private static final int TERM_RIGHT = 7;
        private static final int AFTER_PRINTED = 8;
        private static final int AFTER_LEFT = 9;
        private static final int AFTER_RIGHT = 10;
        private static final int AFTER_ONE = 11;

        // What the text that is being read ends with so far.
        private static final int NOTHING = 0;
        private static final int BYTES = 1;
        private static final int BRACES = 2;

        final byte[] tape = new byte[TAPE_BYTES];
        int held = 0;
        int fault = 0;
        int where = 0;
        private final int[] steps = new int[MOST_STEPS];
        private final int[] skips = new int[MOST_IFS];
        private int size = 0;
        private boolean ofRule = false;
        private int end = 0;
        private int at = 0;
        private int state = PLAIN;
        private int join = NO_JOIN;
        private int last = NOTHING;
        private int brace = 0;
        private int depth = 0;
        private int elses = 0;
        private int pieces = 0;
        private int terms = 0;
        private int kinds = 0;

        Reader() {
        }

        boolean hasRoomFor(int bytes) {
            return held + bytes <= TAPE_BYTES;
        }

        boolean holds(int bytes) {
            return within(bytes, 0, held);
        }

        void append(int number) {
            for (int shift = 24; shift >= 0 && held < TAPE_BYTES; shift -= 8) {
                tape[held] = (byte) (number >> shift);
                held++;
            }
        }

        /** The first n bytes as a text, or null with fault and where; the tape is empty then. */
        Text read(int n, boolean rule) {
            begin(n, rule);
            for (int step = 0; step < n && at < end && fault == 0; step++) {
                int sign = byteAt(at);
                if (state == PLAIN) {
                    readPlain(sign);
                } else if (isLetter(sign)) {
                    readWord();
                } else if (isDigit(sign)) {
                    readWhole();
                } else {
                    readSign(sign);
                }
            }
            if (fault == 0) {
                finish();
            }
            held = 0;
            return fault == 0 ? new Text(Arrays.copyOf(steps, size), kinds, pieces) : null;
        }

        private void begin(int n, boolean rule) {
            ofRule = rule;
            end = n;
            at = 0;
            fault = 0;
            where = 0;
            size = 0;
            state = rule ? ONE : PLAIN;
            join = NO_JOIN;
            last = NOTHING;
            depth = 0;
            elses = 0;
            pieces = 0;
            terms = 0;
            kinds = 0;
        }

        private void finish() {
            if (ofRule) {
                closeComparison();
                if (state != AFTER_ONE) {
                    fail(FORM, end);
                }
            } else if (state != PLAIN || depth > 0 || last == NOTHING) {
                fail(FORM, end);
            }
        }

        private void fail(int why, int place) {
            fault = why;
            where = place;
        }

        private int byteAt(int place) {
            return place >= 0 && place < end && place < TAPE_BYTES ? tape[place] : 0;
        }

        private int emit(int step, int detail) {
            int place = size;
            if (place < MOST_STEPS) {
                steps[place] = step << STEP_SHIFT | detail;
                size++;
            }
            return place;
        }

        // ---- plain bytes

        private void readPlain(int sign) {
            if (sign < 32 || sign > 126) {
                fail(FORM, at);
            } else if (sign == '{') {
                beginPiece(BRACES);
                brace = at;
                state = OPENED;
            } else if (sign == '|') {
                turnToElse();
            } else if (sign == '}') {
                closeIf();
            } else {
                if (last != BYTES) {
                    beginPiece(BYTES);
                }
                emit(SAY, sign);
            }
            at++;
        }

        private void beginPiece(int kind) {
            last = kind;
            pieces++;
            if (pieces > MOST_PIECES) {
                fail(MANY, at);
            }
        }

        private void turnToElse() {
            int level = depth - 1;
            if (level < 0 || level >= MOST_IFS || last == NOTHING || (elses & 1 << level) != 0) {
                fail(FORM, at);
                return;
            }
            int over = emit(SKIP, 0);
            aimSkip(level);
            skips[level] = over;
            elses |= 1 << level;
            last = NOTHING;
        }

        private void closeIf() {
            if (depth == 0 || last == NOTHING) {
                fail(FORM, at);
                return;
            }
            depth--;
            aimSkip(depth);
            elses &= ~(1 << depth);
            last = BRACES;
        }

        private void aimSkip(int level) {
            if (level >= 0 && level < MOST_IFS) {
                int place = skips[level];
                if (place >= 0 && place < MOST_STEPS) {
                    steps[place] |= size;
                }
            }
        }

        // ---- tokens within braces, and of rules

        private static boolean isLetter(int sign) {
            return sign >= 'a' && sign <= 'z';
        }

        private static boolean isDigit(int sign) {
            return sign >= '0' && sign <= '9';
        }

        private void readWord() {
            int start = at;
            int length = 0;
            while (length < TAPE_BYTES && isLetter(byteAt(start + length))) {
                length++;
            }
            at = start + length;
            if (length > 8) {
                fail(FORM, start);
                return;
            }
            int digit = byteAt(at);
            if (!isDigit(digit)) {
                takeWord(wordAt(start, length), start);
                return;
            }
            at++;
            boolean fact = length == 1 && byteAt(start) == 'k';
            takeWord(fact ? digit - '0' : UNKNOWN, start);
        }

        private void readWhole() {
            int start = at;
            int length = 0;
            int value = 0;
            while (length < TAPE_BYTES && isDigit(byteAt(start + length))) {
                value = length < 4 ? value * 10 + byteAt(start + length) - '0' : value;
                length++;
            }
            at = start + length;
            if (length > 4 || !termMayCome()) {
                fail(FORM, start);
            } else {
                takeTerm(ADD_WHOLE, value, start);
            }
        }

        private int wordAt(int start, int length) {
            switch (length) {
                case 2: return spells(start, "if") ? IF : spells(start, "or") ? OR : UNKNOWN;
                case 3: return shortWordAt(start);
                case 4: return spells(start, "dead") ? DEAD : spells(start, "born") ? BORN
                        : spells(start, "year") ? YEAR : UNKNOWN;
                case 5: return spells(start, "stale") ? STALE : spells(start, "worth") ? WORTH
                        : spells(start, "rival") ? KIN + 4 : spells(start, "hours") ? HOURS_SINCE : UNKNOWN;
                case 6: return spells(start, "doctor") ? KIN + 1 : spells(start, "office") ? KIN + 2
                        : spells(start, "agency") ? KIN + 3 : UNKNOWN;
                case 7: return spells(start, "sources") ? SOURCES_HEARD : UNKNOWN;
                default: return UNKNOWN;
            }
        }

        private int shortWordAt(int start) {
            if (spells(start, "and")) {
                return AND;
            }
            if (spells(start, "not")) {
                return NOT;
            }
            if (spells(start, "has")) {
                return HAS;
            }
            return spells(start, "age") ? AGE : spells(start, "kin") ? KIN : UNKNOWN;
        }

        private boolean spells(int start, String word) {
            for (int i = 0; i < word.length(); i++) {
                if (byteAt(start + i) != word.charAt(i)) {
                    return false;
                }
            }
            return true;
        }

        private void takeWord(int word, int start) {
            if (state == HAS_WHAT || state == STALE_WHAT) {
                takeFact(word, start);
            } else if (word == AND || word == OR) {
                takeJoin(word == AND ? JOIN_AND : JOIN_OR, start);
            } else if (word == IF && state == OPENED) {
                openIf();
            } else if (word >= NOT && state == ONE && (word == NOT || !ofRule)) {
                takeQuestion(word);
            } else if (word >= IF || !termMayCome()) {
                fail(FORM, start);
            } else if (!isName(word)) {
                fail(NO_NAME, start);
            } else {
                kinds |= word < KINDS ? 1 << word : 0;
                takeTerm(ADD_NAME, word, start);
            }
        }

        private boolean isName(int word) {
            return ofRule ? word == AGE || within(word, WORTH, HOURS_SINCE) : within(word, 0, WORTH);
        }

        private boolean termMayCome() {
            return state == OPENED || state == ONE || within(state, TERM_PRINTED, TERM_RIGHT);
        }

        private void openIf() {
            if (depth >= MOST_IFS) {
                fail(MANY, brace);
                return;
            }
            emit(BEGIN_TEST, 0);
            join = NO_JOIN;
            state = ONE;
        }

        private void takeQuestion(int word) {
            if (word == NOT) {
                emit(DENY, 0);
            } else if (word == DEAD) {
                emit(ASK_DEAD, 0);
                state = AFTER_ONE;
            } else {
                state = word == HAS ? HAS_WHAT : STALE_WHAT;
            }
        }

        private void takeFact(int word, int start) {
            if (!isKind(word)) {
                fail(FORM, start);
                return;
            }
            kinds |= 1 << word;
            emit(state == HAS_WHAT ? ASK_HAS : ASK_STALE, word);
            state = AFTER_ONE;
        }

        private void takeTerm(int step, int detail, int start) {
            terms++;
            if (terms > MOST_TERMS) {
                fail(MANY, start);
                return;
            }
            emit(step, detail);
            if (state == OPENED || state == TERM_PRINTED) {
                state = AFTER_PRINTED;
            } else {
                state = state == TERM_RIGHT ? AFTER_RIGHT : AFTER_LEFT;
            }
        }

        private void takeJoin(int by, int start) {
            closeComparison();
            if (state != AFTER_ONE || join != NO_JOIN && join != by) {
                fail(FORM, start);
                return;
            }
            join = by;
            emit(JOIN, by);
            state = ONE;
        }

        private void closeComparison() {
            if (state == AFTER_RIGHT) {
                emit(COMPARE, 0);
                state = AFTER_ONE;
            }
        }

        private void readSign(int sign) {
            switch (sign) {
                case ' ':
                    break;
                case '+':
                case '-':
                    goOnAdding(sign);
                    break;
                case '<':
                case '>':
                case '=':
                    relate(sign);
                    break;
                case '}':
                    closeSum();
                    break;
                case ':':
                    enterIf();
                    break;
                default:
                    fail(FORM, at);
                    break;
            }
            at++;
        }

        private void goOnAdding(int sign) {
            if (!within(state, AFTER_PRINTED, AFTER_RIGHT)) {
                fail(FORM, at);
                return;
            }
            if (sign == '-') {
                emit(MINUS, 0);
            }
            state = state - AFTER_PRINTED + TERM_PRINTED;
        }

        private void relate(int sign) {
            if (state != AFTER_LEFT) {
                fail(FORM, at);
                return;
            }
            emit(RELATE, sign);
            state = TERM_RIGHT;
        }

        private void closeSum() {
            if (state != AFTER_PRINTED) {
                fail(FORM, at);
                return;
            }
            emit(SAY_SUM, 0);
            state = PLAIN;
        }

        private void enterIf() {
            closeComparison();
            if (state != AFTER_ONE || ofRule || depth >= MOST_IFS) {
                fail(FORM, at);
                return;
            }
            skips[depth] = emit(SKIP_UNLESS, 0);
            depth++;
            last = NOTHING;
            state = PLAIN;
        }
    }

    /** Goes through the steps of a text with what is known of one person. */
    private static final class Printer {
        private static final int MOST_BYTES = 1024;

        final int[] names = new int[NAMES];
        final byte[] bytes = new byte[MOST_BYTES];
        int has = 0;
        int stale = 0;
        boolean dead = false;
        int length = 0;
        private boolean kept = false;
        private int sum = 0;
        private boolean minus = false;
        private int left = 0;
        private int relation = 0;
        private boolean deny = false;
        private int join = NO_JOIN;
        private boolean test = false;

        Printer() {
        }

        /** What the test says that was asked last; bytes are left alone unless they are to be kept. */
        boolean run(int[] steps, boolean keep) {
            kept = keep;
            length = 0;
            sum = 0;
            minus = false;
            deny = false;
            join = NO_JOIN;
            test = false;
            int at = 0;
            while (at < steps.length) {
                int step = steps[at] >> STEP_SHIFT;
                int detail = steps[at] & STEP_MASK;
                at++;
                if (step == SKIP || step == SKIP_UNLESS && !test) {
                    at = Math.max(at, detail);
                } else {
                    perform(step, detail);
                }
            }
            return test;
        }

        private void perform(int step, int detail) {
            switch (step) {
                case SAY: put(detail); break;
                case ADD_WHOLE: add(detail); break;
                case ADD_NAME: add(detail < NAMES ? names[detail] : 0); break;
                case MINUS: minus = true; break;
                case SAY_SUM: putNumber(takeSum()); break;
                case RELATE:
                    left = takeSum();
                    relation = detail;
                    break;
                case COMPARE: decide(compares(left, takeSum())); break;
                case DENY: deny = !deny; break;
                case ASK_HAS: decide((has & 1 << detail) != 0); break;
                case ASK_STALE: decide((stale & 1 << detail) != 0); break;
                case ASK_DEAD: decide(dead); break;
                case BEGIN_TEST: join = NO_JOIN; break;
                case JOIN: join = detail; break;
                default: break;
            }
        }

        private void add(int term) {
            sum += minus ? -term : term;
            minus = false;
        }

        private int takeSum() {
            int taken = sum;
            sum = 0;
            return taken;
        }

        private boolean compares(int one, int other) {
            return relation == '<' ? one < other : relation == '>' ? one > other : one == other;
        }

        private void decide(boolean is) {
            boolean one = is != deny;
            deny = false;
            if (join == JOIN_AND) {
                test = test && one;
            } else if (join == JOIN_OR) {
                test = test || one;
            } else {
                test = one;
            }
        }

        private void put(int sign) {
            if (kept && length < MOST_BYTES) {
                bytes[length] = (byte) sign;
            }
            length++;
        }

        private void putNumber(int number) {
            if (number < 0) {
                put('-');
            }
            int size = Math.abs(number);
            for (int unit = 1000000; unit > 0; unit /= 10) {
                if (size >= unit || unit == 1) {
                    put('0' + size / unit % 10);
                }
            }
        }
    }

    /** Chooses what gains most within a limit; the less it costs the better, then the earlier. */
    private static final class Chooser {
        private final int[] gains = new int[STORY_PARAGRAPHS];
        private final int[] costs = new int[STORY_PARAGRAPHS];
        private final int[] leans = new int[STORY_PARAGRAPHS];
        private final boolean[] open = new boolean[STORY_PARAGRAPHS];
        private final int[] hopes = new int[STORY_PARAGRAPHS + 1];
        private int many = 0;
        private int limit = 0;
        private int gap = 0;
        int bestBits = 0;
        int bestGain = 0;
        int bestCost = 0;

        Chooser() {
        }

        /** The gap is what each chosen one behind the first costs besides. */
        void begin(int limit, int gap) {
            this.limit = limit;
            this.gap = gap;
            many = 0;
        }

        void offer(int gain, int cost, int lean, boolean isOpen) {
            if (many < STORY_PARAGRAPHS) {
                gains[many] = gain;
                costs[many] = cost;
                leans[many] = lean;
                open[many] = isOpen;
                many++;
            }
        }

        void choose() {
            hopes[many] = 0;
            for (int i = many - 1; i >= 0; i--) {
                hopes[i] = hopes[i + 1] + (open[i] ? gains[i] : 0);
            }
            bestBits = 0;
            bestGain = NONE;
            bestCost = limit + 1;
            pick(this, 0, 0, 0, 0);
        }

        // Those with the earlier one are tried first, so what is only as good as the best never takes its place.
        private static void pick(Chooser of, int i, int bits, int gain, int cost) {
            int hope = i <= STORY_PARAGRAPHS ? gain + of.hopes[i] : NONE;
            if (cost > of.limit || hope < of.bestGain || hope == of.bestGain && cost >= of.bestCost) {
                return;
            }
            if (i >= of.many || i >= STORY_PARAGRAPHS) {
                of.bestBits = bits;
                of.bestGain = gain;
                of.bestCost = cost;
                return;
            }
            if (of.open[i] && (of.leans[i] == NONE || (bits & 1 << of.leans[i]) != 0)) {
                int more = bits == 0 ? of.costs[i] : of.costs[i] + of.gap;
                pick(of, i + 1, bits | 1 << i, gain + of.gains[i], cost + more);
            }
            pick(of, i + 1, bits, gain, cost);
        }
    }
}
