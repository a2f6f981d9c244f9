import java.lang.reflect.InvocationTargetException;
import java.lang.reflect.Method;
import java.lang.reflect.Modifier;
import java.util.ArrayList;
import java.util.Arrays;
import java.util.List;
import java.util.Random;

/** Runs of chance calls, by fixed seeds, on LivesAhead and on PlainDesk: they must answer alike. */
public final class ModelTest {
    private static final int CALLS = 900;
    private static final int[] EDGES = {Integer.MIN_VALUE, Integer.MAX_VALUE, -2, -1, 0, 1, 10, 31, 32, 100000};

    // What a run of each style asks most often, so that its corner of the desk is seen at work.
    private static final String[][] FAVOURED = {
        {"cut", "cutOf", "cutLong", "print", "paragraphOf", "pass", "check"},
        {"week", "fresh", "fresh", "takes", "freshen", "pass", "peril", "hours", "fact", "bury"},
        {"edition", "editionOf", "wrong", "correct", "said", "fact", "picture", "ask", "answer", "used", "pass"},
        {"report", "rumour", "fits", "may", "tell", "withdraw", "fact", "pass", "knownOn", "apart"},
    };

    private final Random chance;
    private final LivesAhead real = new LivesAhead();
    private final PlainDesk plain = new PlainDesk();
    private final List<String> told = new ArrayList<>();
    private final int style;
    private boolean alike = true;
    private int calls = 0;

    private ModelTest(long seed) {
        chance = new Random(seed);
        style = (int) (seed % FAVOURED.length);
    }

    public static void main(String[] args) {
        int runs = args.length > 2 ? Integer.parseInt(args[2]) : 400;
        long first = args.length > 3 ? Long.parseLong(args[3]) : 1;
        long calls = 0;
        for (long seed = first; seed < first + runs; seed++) {
            ModelTest run = new ModelTest(seed);
            run.play();
            calls += run.calls;
            if (!run.alike) {
                System.out.println("seed " + seed + ":");
                run.told.forEach(System.out::println);
                System.exit(1);
            }
        }
        System.out.println("ModelTest: " + runs + " runs, " + calls + " calls answered alike");
    }

    private void play() {
        List<Method> face = new ArrayList<>();
        for (Method m : LivesAhead.class.getDeclaredMethods()) {
            if (Modifier.isPublic(m.getModifiers())) {
                face.add(m);
            }
        }
        face.sort((a, b) -> a.getName().compareTo(b.getName()));
        begin();
        while (alike && calls < CALLS) {
            if (chance.nextInt(style == 0 ? 12 : 60) == 0) {
                text();
            } else if (chance.nextBoolean()) {
                String name = pick(FAVOURED[style]);
                face.stream().filter(m -> m.getName().equals(name)).forEach(m -> call(name, arguments(m)));
            } else {
                Method m = face.get(chance.nextInt(face.size()));
                if (!m.getName().equals("feed") || chance.nextInt(20) == 0) {
                    call(m.getName(), arguments(m));
                }
            }
        }
    }

    private void begin() {
        int writers = 1 + chance.nextInt(3);
        for (int i = 0; i < writers; i++) {
            call("writer", chance.nextInt(61));
        }
        int people = style == 0 || style == 2 ? 2 : 3 + chance.nextInt(20);
        for (int i = 0; i < people; i++) {
            call("person", chance.nextInt(4), 1 + chance.nextInt(36500), 1 + chance.nextInt(100),
                chance.nextInt(writers));
        }
        for (int i = 0; i < (style == 3 ? 20 : 90); i++) {
            call("fact", person(), chance.nextInt(10), chance.nextInt(3), chance.nextBoolean());
        }
        for (int kind = 0; kind < 10 && style < 3; kind++) {
            call("keeps", kind, 1 + chance.nextInt(5));
        }
        if (style == 2) {
            Object[] rule = {0x313d3120, 0, 0, 0, 0};
            call("feed", rule);
            call("rule", 4);
            for (int i = 0; i < people; i++) {
                call("report", i, 0, 0);
                call("tell", i);
            }
        }
        for (int i = 0; i < (style == 0 || style == 2 ? 30 : 3); i++) {
            text();
        }
    }

    /** A text is fed and becomes a paragraph, a rule, or a paragraph anew. */
    private void text() {
        int to = chance.nextInt(8);
        boolean rule = to == 0 || style == 3 && chance.nextBoolean();
        String text = rule ? test(true) : row(0);
        if (chance.nextInt(4) == 0) {
            text = spoilt(text);
        }
        if (text.length() > 400) {
            text = text.substring(0, 400);
        }
        int room = 400 - plain.count(12);
        if (text.length() > room) {
            text = text.substring(0, room / 20 * 20);
        }
        feed(text);
        int n = chance.nextInt(30) == 0 ? edge() : text.length();
        if (rule) {
            call("rule", n);
        } else if (to == 1) {
            call("rewrite", person(), chance.nextInt(8), n);
        } else {
            int person = person();
            int places = Math.max(0, plain.about(person, 7));
            call("paragraph", person, chance.nextInt(5) == 0 ? chance.nextInt(1000) : chance.nextInt(6),
                chance.nextInt(3) == 0 ? chance.nextInt(places + 2) - 1 : -1, n);
        }
        call("fault");
        call("where");
    }

    private void feed(String text) {
        for (int at = 0; at < text.length(); at += 20) {
            Object[] five = new Object[5];
            for (int i = 0; i < 5; i++) {
                int number = 0;
                for (int j = at + 4 * i; j < at + 4 * i + 4; j++) {
                    number = number << 8 | (j < text.length() ? text.charAt(j) & 255 : ' ');
                }
                five[i] = number;
            }
            call("feed", five);
        }
    }

    private String pick(String... of) {
        return of[chance.nextInt(of.length)];
    }

    private String blanks() {
        return chance.nextInt(3) == 0 ? " ".repeat(1 + chance.nextInt(2)) : "";
    }

    private String row(int depth) {
        StringBuilder b = new StringBuilder();
        int many = 1 + chance.nextInt(depth == 0 ? chance.nextInt(12) == 0 ? 30 : 3 : 2);
        for (int i = 0; i < many; i++) {
            switch (chance.nextInt(depth > 6 ? 2 : depth > 1 ? 3 : 4) % 3) {
                case 0: b.append(pick("a", "bc", "x: y", " ", "def ghi", ")", "if", "0")); break;
                case 1: b.append("{" + blanks() + sum(false) + "}"); break;
                default:
                    b.append("{" + blanks() + "if " + test(false) + ":" + row(depth + 1)
                        + (chance.nextBoolean() ? "|" + row(depth + 1) : "") + "}");
            }
        }
        return b.toString();
    }

    private String test(boolean rule) {
        String by = pick(" and ", " or ");
        StringBuilder b = new StringBuilder(one(rule));
        while (chance.nextInt(3) == 0) {
            b.append(by + one(rule));
        }
        return b.toString();
    }

    private String one(boolean rule) {
        String not = chance.nextInt(4) == 0 ? pick("not ", "not not ") : "";
        String fact = " k" + chance.nextInt(10) + blanks();
        if (!rule && chance.nextBoolean()) {
            return not + pick("dead", "dead ", "has" + fact, "stale" + fact);
        }
        return not + sum(rule) + pick("<", ">", "=") + blanks() + sum(rule);
    }

    private String sum(boolean rule) {
        StringBuilder b = new StringBuilder(term(rule));
        while (chance.nextInt(chance.nextInt(20) == 0 ? 9 : 3) == 0) {
            b.append(pick("+", "-") + blanks() + term(rule));
        }
        if (chance.nextInt(60) == 0) {
            b.append("+1".repeat(chance.nextInt(31)));
        }
        return b.toString();
    }

    private String term(boolean rule) {
        String name = rule ? pick("kin", "doctor", "office", "agency", "rival", "sources", "hours", "age", "worth")
            : pick("age", "born", "year", "worth", "k" + chance.nextInt(10), "k" + chance.nextInt(3));
        return pick(name, name, String.valueOf(chance.nextInt(rule ? 4 : 120))) + blanks();
    }

    private String spoilt(String text) {
        StringBuilder b = new StringBuilder(text);
        for (int i = chance.nextInt(3); i >= 0; i--) {
            int at = chance.nextInt(b.length() + 1);
            String put = pick("{", "}", "|", ":", " ", "<", "+", "(", "a", "k1", "9", "if ", " and ", " or ", "not ",
                "has ", "dead", "heat", "abcdefghi", "12345", "{if dead:", "\u0001", "\u007f", "\u00e9", "A", "{if");
            if (chance.nextBoolean() && at < b.length()) {
                b.deleteCharAt(at);
            }
            if (chance.nextInt(3) > 0) {
                b.insert(Math.min(at, b.length()), put);
            }
            if (b.length() == 0) {
                return "";
            }
        }
        return b.toString();
    }

    private int edge() {
        return EDGES[chance.nextInt(EDGES.length)];
    }

    private int person() {
        int people = Math.max(1, plain.count(0));
        return chance.nextInt(style % 2 == 0 ? Math.min(2, people) : people);
    }

    private Object[] arguments(Method m) {
        Class<?>[] types = m.getParameterTypes();
        Object[] all = new Object[types.length];
        for (int i = 0; i < types.length; i++) {
            if (types[i] == boolean.class) {
                all[i] = chance.nextBoolean();
            } else {
                all[i] = chance.nextInt(60) == 0 ? edge() : likely(m.getName(), i);
            }
        }
        return all;
    }

    private int likely(String call, int place) {
        int day = plain.count(10);
        switch (call + place) {
            case "writer0": return chance.nextInt(62);
            case "hours1": return chance.nextInt(30);
            case "hours0": case "week0": case "person3": return chance.nextInt(Math.max(1, plain.count(2)) + 1);
            case "bury0": return chance.nextInt(60);
            case "person0": return chance.nextInt(4);
            case "person1": return 1 + chance.nextInt(36500);
            case "person2": return 1 + chance.nextInt(100);
            case "keeps1": return 1 + chance.nextInt(chance.nextBoolean() ? 5 : 400);
            case "fact2": case "rumour4": case "rumour6": case "rumour8": return chance.nextInt(3) - 1;
            case "knownOn2": return chance.nextInt(day + 2);
            case "ages1": return day + chance.nextInt(400);
            case "out0": return chance.nextInt(30);
            case "cut1": return chance.nextInt(chance.nextBoolean() ? 20 : 120);
            case "report1": case "rumour1": return Math.max(0, day - chance.nextInt(4));
            case "report2": case "rumour2": return chance.nextInt(5);
            case "rumour0": return chance.nextInt(5);
            case "rumour3": case "rumour5": case "rumour7": return chance.nextInt(11) - 1;
            case "fits0": case "withdraw0": return chance.nextInt(plain.count(5) + 1);
            case "picture1": return 1 + chance.nextInt(4);
            case "picture2": return chance.nextInt(day + 1);
            case "picture3": return day + chance.nextInt(40);
            case "picture4": return 1 + chance.nextInt(3);
            case "used0": return chance.nextInt(plain.count(7) + 1);
            case "ask1": return 1 + chance.nextInt(1440);
            case "answer0": return chance.nextInt(plain.count(8) + 1);
            case "answer1": return 1 + chance.nextInt(60);
            case "embargo1": return Math.max(0, day + chance.nextInt(5) - 3);
            case "embargo2": return chance.nextInt(1440);
            case "edition1": return 1 + chance.nextInt(chance.nextBoolean() ? 60 : 400);
            case "editionOf0": case "wrong0": case "correct0": case "said0":
                return chance.nextInt(plain.count(9) + 1);
            case "pass0": return 1 + chance.nextInt(chance.nextInt(3) == 0 ? 6000 : 600);
            case "fresh0": return chance.nextInt(4);
            case "count0": return chance.nextInt(14);
            case "paragraph1": return chance.nextInt(6);
            case "paragraph2": return chance.nextInt(6) - 1;
            case "paragraph3": case "rewrite2": case "rule0": return chance.nextInt(plain.count(12) + 1);
            case "rewrite1": case "paragraphOf1": case "print1": return chance.nextInt(6);
            default: break;
        }
        if (place == 0 && !call.equals("keeps") || call.equals("apart")) {
            return person();
        }
        return chance.nextInt(11);
    }

    private void call(String name, Object... args) {
        if (calls >= CALLS || !alike) {
            return;
        }
        calls++;
        Object got = answer(real, name, args);
        Object want = answer(plain, name, args);
        int trouble = real.trouble();
        told.add(name + Arrays.toString(args) + " answered " + got + ", trouble " + trouble);
        if (!got.equals(want) || trouble != plain.trouble()) {
            told.add("  due is " + want + ", trouble " + plain.trouble());
            alike = false;
        }
    }

    private static Object answer(Object of, String name, Object[] args) {
        for (Method m : of.getClass().getDeclaredMethods()) {
            if (m.getName().equals(name) && Modifier.isPublic(m.getModifiers())) {
                try {
                    return m.invoke(of, args);
                } catch (InvocationTargetException e) {
                    return "throws." + e.getCause().getClass().getSimpleName();
                } catch (IllegalAccessException e) {
                    throw new IllegalStateException(e);
                }
            }
        }
        throw new IllegalStateException(name);
    }
}
