import java.lang.reflect.InvocationTargetException;
import java.lang.reflect.Method;
import java.lang.reflect.Modifier;
import java.util.ArrayList;
import java.util.Arrays;
import java.util.Comparator;
import java.util.List;
import java.util.Random;

/**
 * All promises: long runs of drawn calls, each answer held against the one of Model.
 * The seeds are fixed, so each run of the test is the same; a number as argument makes it longer.
 */
public final class RandomRunsTest {
    private static final int CALLS = 512;
    private static final int MOST_SHOWN = 20;
    private static final List<Method> METHODS = methods();
    private static long asked;
    private static int wrong;

    private final Random random;
    private final int run;
    private final LinenGuilt real = new LinenGuilt();
    private final Model model = new Model();
    private int calls;

    private RandomRunsTest(int run) {
        this.run = run;
        random = new Random(run);
    }

    public static void main(String[] args) throws Exception {
        int runs = args.length > 0 ? Integer.parseInt(args[0]) : 400;
        for (int run = 0; run < runs && wrong < MOST_SHOWN; run++) {
            new RandomRunsTest(run).go();
        }
        System.out.println("RandomRunsTest: " + asked + " answers, " + wrong + " not as due");
        if (wrong != 0 || asked == 0) {
            System.exit(1);
        }
    }

    private static List<Method> methods() {
        List<Method> out = new ArrayList<>();
        for (Method m : LinenGuilt.class.getDeclaredMethods()) {
            if (Modifier.isPublic(m.getModifiers())) {
                out.add(m);
            }
        }
        out.sort(Comparator.comparing(Method::getName));
        return out;
    }

    private void go() throws Exception {
        tell("common", common());
        while (calls < CALLS - 40 && wrong < MOST_SHOWN) {
            int kind = random.nextInt(100);
            if (kind < 1) {
                tell("common", amiss(common(), 20));
            } else if (kind < 4) {
                tell("law", amiss(law(), 20));
            } else if (kind < 16) {
                tell("work", amiss(work(), 12));
            } else if (kind < 18) {
                tell("sayings", amiss(sayings(), 15));
            } else {
                Method m = METHODS.get(random.nextInt(METHODS.size()));
                if (!m.getName().equals("common") || random.nextInt(20) == 0) {
                    ask(m.getName(), arguments(m));
                }
            }
        }
    }

    private void ask(String name, int... args) throws Exception {
        calls++;
        asked++;
        Object due = answer(model, Model.class, name, args);
        Object got = answer(real, LinenGuilt.class, name, args);
        if (!due.equals(got)) {
            wrong++;
            System.out.println("run " + run + ", call " + calls + ": " + name + Arrays.toString(args) + " answered "
                    + got + ", due is " + due);
        }
    }

    private static Object answer(Object x, Class<?> type, String name, int[] args) throws Exception {
        Class<?>[] types = new Class<?>[args.length];
        Arrays.fill(types, int.class);
        Object[] values = Arrays.stream(args).boxed().toArray();
        try {
            return type.getMethod(name, types).invoke(x, values);
        } catch (InvocationTargetException e) {
            return e.getCause().getClass().getName();
        }
    }

    /** Mostly what the question is about, now and then beside it. */
    private int[] arguments(Method m) {
        int[] out = new int[m.getParameterCount()];
        int[] most = mostOf(m.getName());
        for (int i = 0; i < out.length; i++) {
            int bound = i < most.length ? most[i] : 9;
            out[i] = random.nextInt(40) == 0 ? random.nextInt(bound + 12) - 5
                    : random.nextInt(400) == 0 ? random.nextInt() : random.nextInt(bound + 1);
        }
        if (m.getName().equals("span") || m.getName().equals("summer")) {
            out[0] = random.nextInt();
            out[1] = Math.max(1, out[1]);
            out[2] = m.getName().equals("span") ? Math.max(1, out[2]) : out[2];
        }
        return out;
    }

    private int[] mostOf(String name) {
        int strips = model.told(1) - 1;
        int bits = random.nextInt(3) == 0 ? (1 << strips + 1) - 1 : random.nextInt((1 << strips + 1) + 1);
        int s = Math.max(0, strips);
        int c = Math.max(0, model.told(0) - 1);
        switch (name) {
            case "feed": return new int[] {Integer.MAX_VALUE - 12, 1 << 30, 1 << 30, 1 << 30, 1 << 30};
            case "common": case "law": case "work": case "sayings": return new int[] {25};
            case "told": return new int[] {11};
            case "cell": return new int[] {c, 1};
            case "strip": return new int[] {s, 5};
            case "deed": return new int[] {7};
            case "would": return new int[] {54, 6, 99, 9, 9, 1, 500, 11};
            case "fits": return new int[] {s, c};
            case "ahead": return new int[] {99, 1};
            case "white": return new int[] {s};
            case "pack": return new int[] {bits};
            case "packed": return new int[] {bits, s};
            case "wets": return new int[] {20};
            case "wetted": return new int[] {20, s};
            case "likely": return new int[] {s, 16, 9, 8, 1};
            case "mayBe": return new int[] {30, 3};
            case "ask": return new int[] {30, 1};
            case "seen": return new int[] {(1 << c + 1) - 1};
            case "thief": return new int[] {2};
            case "share": return new int[] {s, bits, 999};
            case "sunniest": return new int[] {s, 1};
            case "sunny": return new int[] {c + 1, 1};
            case "whiteYards": return new int[] {12};
            case "summer": return new int[] {0, 96, 16, 16, 3};
            case "span": return new int[] {0, 8, 40, 16, 16, 2, s};
            default: return new int[] {1};
        }
    }

    // ---- texts

    private void tell(String kind, String text) throws Exception {
        if (model.count(1) + text.length() + 20 > 600 || model.count(1) > 0) {
            ask(kind, 0);
        }
        for (int from = 0; from < text.length(); from += 20) {
            int[] n = new int[5];
            for (int i = 0; i < 20; i++) {
                n[i / 4] = n[i / 4] << 8 | (from + i < text.length() ? text.charAt(from + i) & 255 : 0);
            }
            ask("feed", n);
        }
        ask(kind, Math.min(text.length(), kind.equals("common") ? 600 : kind.equals("sayings") ? 60 : 150));
        ask("fault");
    }

    /** Of hundred texts so many get a sign more, less or another. */
    private String amiss(String text, int ofHundred) {
        StringBuilder out = new StringBuilder(text);
        if (random.nextInt(100) >= ofHundred || text.isEmpty()) {
            return text;
        }
        int at = random.nextInt(out.length());
        String signs = " ;[](),+-*/%0123456789abcdefghilmnorstwxy\u0000\u00e9Z";
        switch (random.nextInt(4)) {
            case 0: out.deleteCharAt(at); break;
            case 1: out.insert(at, signs.charAt(random.nextInt(signs.length()))); break;
            case 2: out.setCharAt(at, signs.charAt(random.nextInt(signs.length()))); break;
            default: out.setLength(at); break;
        }
        return out.toString();
    }

    private String blanks() {
        return random.nextInt(12) == 0 ? "  ".substring(random.nextInt(2)) : "";
    }

    private String common() {
        int cells = random.nextInt(10) == 0 ? random.nextInt(14) : 4 + random.nextInt(7);
        int strips = random.nextInt(10) == 0 ? random.nextInt(8) : 1 + random.nextInt(4);
        int deeds = random.nextInt(10) == 0 ? random.nextInt(10) : 2 + random.nextInt(5);
        int rains = random.nextInt(6) == 0 ? random.nextInt(9) : random.nextInt(4);
        List<String> clauses = new ArrayList<>();
        for (int i = 0; i < cells; i++) {
            clauses.add("cell " + random.nextInt(10));
        }
        for (int i = 0; i < strips; i++) {
            clauses.add("strip " + (1 + random.nextInt(random.nextInt(4) == 0 ? 6 : 3)) + " "
                    + (1 + random.nextInt(random.nextBoolean() ? 99 : 20)));
        }
        for (int i = 0; i < deeds; i++) {
            clauses.add("deed " + (1 + random.nextInt(random.nextBoolean() ? 3 : 9)));
        }
        for (int i = 0; i < rains; i++) {
            clauses.add("rain " + random.nextInt(10));
        }
        if (random.nextInt(3) > 0) {
            clauses.add("milk " + random.nextInt(6));
        }
        for (int i = random.nextInt(4); i > 0; i--) {
            clauses.add("sight " + random.nextInt(5));
        }
        java.util.Collections.shuffle(clauses, random);
        StringBuilder out = new StringBuilder();
        for (String clause : clauses) {
            String text = blanks() + clause + blanks() + ";";
            if (out.length() + text.length() <= 560) {
                out.append(text);
            }
        }
        return out.toString();
    }

    private String law() {
        for (int i = 0; i < 50; i++) {
            String law = sum(0);
            if (law.length() <= 150) {
                return law;
            }
        }
        return "grey";
    }

    private String sum(int depth) {
        StringBuilder out = new StringBuilder(product(depth));
        for (int i = random.nextInt(3); i > 0; i--) {
            out.append(blanks()).append(random.nextBoolean() ? '+' : '-').append(product(depth));
        }
        return out.toString();
    }

    private String product(int depth) {
        StringBuilder out = new StringBuilder(unit(depth));
        for (int i = random.nextInt(4) / 2; i > 0; i--) {
            out.append(blanks()).append("*/%".charAt(random.nextInt(3))).append(unit(depth));
        }
        return out.toString();
    }

    private String unit(int depth) {
        String[] facts = {"sun", "yards", "grey", "rain", "wet", "milk", "day", "first"};
        int kind = random.nextInt(10);
        if (depth > 6 || kind < 5) {
            return blanks() + facts[random.nextInt(8)];
        }
        if (kind < 8) {
            return blanks() + random.nextInt(random.nextInt(8) == 0 ? 1001 : 9);
        }
        if (kind < 9) {
            return blanks() + "(" + sum(depth + 1) + blanks() + ")";
        }
        return blanks() + (random.nextBoolean() ? "least" : "most") + blanks() + "[" + sum(depth + 1) + blanks() + ","
                + sum(depth + 1) + blanks() + "]";
    }

    private String work() {
        StringBuilder out = new StringBuilder();
        for (int i = random.nextInt(9); i > 0; i--) {
            String step = step(0);
            if (out.length() + step.length() <= 150) {
                out.append(step);
            }
        }
        return out.toString();
    }

    private String step(int depth) {
        int p = random.nextInt(Math.max(1, model.told(1) + (random.nextInt(50) == 0 ? 1 : 0)));
        int c = random.nextInt(Math.max(1, model.told(0) + (random.nextInt(50) == 0 ? 1 : 0)));
        switch (random.nextInt(depth > 6 ? 10 : 11)) {
            case 0: case 1: case 2: case 3: return blanks() + "lay" + " " + p + " " + c + blanks() + ";";
            case 4: return blanks() + "fold " + p + ";";
            case 5: case 6: return blanks() + "wet" + blanks() + p + ";";
            case 7: return blanks() + "milk " + p + ";";
            case 8: return blanks() + "mole " + c + ";";
            case 9: return blanks() + "day" + blanks() + ";";
            default:
                StringBuilder in = new StringBuilder();
                for (int i = random.nextInt(4); i > 0; i--) {
                    in.append(step(depth + 1));
                }
                return "again" + random.nextInt(random.nextInt(9) == 0 ? 32 : 5) + blanks() + "[" + in + "]" + blanks() + ";";
        }
    }

    private String sayings() {
        StringBuilder out = new StringBuilder();
        for (int d = 0; d < model.told(2); d++) {
            if (random.nextInt(3) == 0) {
                out.append(blanks()).append(d).append(' ').append(random.nextInt(2)).append(';');
            }
        }
        return out.toString();
    }
}
