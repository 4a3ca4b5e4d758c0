import java.util.NoSuchElementException;

/** What the tests share: texts fed to the tape, answers held against those that are due. */
final class Checks {
    static final int NONE = LinenGuilt.NONE;

    private static final int NONE_THROWN = 2;
    private static final int OTHER_THROWN = 3;

    private final String name;
    private String sentence = "";
    private int asked;
    private int wrong;

    Checks(String name) {
        this.name = name;
    }

    void due(String call, long want, long got) {
        asked++;
        if (got != want) {
            wrong++;
            System.out.println(name + ": " + sentence + call + " answered " + got + ", due is " + want);
        }
    }

    /** From here on all is asked for this sentence of DOC.md. */
    void says(String words) {
        sentence = "\"" + words + "\" | ";
    }

    void due(String call, boolean want, boolean got) {
        due(call, want ? 1 : 0, got ? 1 : 0);
    }

    /** Each call here is one of an object x; its refusal is to be counted, too. */
    void missing(String call, LinenGuilt x, Runnable run) {
        refused(call, x, run, 0);
    }

    void wrong(String call, LinenGuilt x, Runnable run) {
        refused(call, x, run, 1);
    }

    private void refused(String call, LinenGuilt x, Runnable run, int reason) {
        int missing = x.status(0);
        int wrongs = x.status(1);
        int got = NONE_THROWN;
        try {
            run.run();
        } catch (NoSuchElementException e) {
            got = 0;
        } catch (IllegalArgumentException e) {
            got = e.getClass() == IllegalArgumentException.class ? 1 : OTHER_THROWN;
        } catch (RuntimeException e) {
            got = OTHER_THROWN;
        }
        due(call + " throws (0 NoSuchElementException, 1 IllegalArgumentException, 2 nothing, 3 another)", reason, got);
        due(call + ", then status(0)", missing + (reason == 0 ? 1 : 0), x.status(0));
        due(call + ", then status(1)", wrongs + (reason == 1 ? 1 : 0), x.status(1));
    }

    void finish() {
        System.out.println(name + ": " + asked + " answers, " + wrong + " not as due");
        if (wrong != 0 || asked == 0) {
            System.exit(1);
        }
    }

    static void feed(LinenGuilt x, String text) {
        for (int from = 0; from < text.length(); from += 20) {
            int[] n = new int[5];
            for (int i = 0; i < 20; i++) {
                int b = from + i < text.length() ? text.charAt(from + i) & 255 : 0;
                n[i / 4] = n[i / 4] << 8 | b;
            }
            x.feed(n[0], n[1], n[2], n[3], n[4]);
        }
    }

    static int common(LinenGuilt x, String text) {
        feed(x, text);
        return x.common(text.length());
    }

    static int law(LinenGuilt x, String text) {
        feed(x, text);
        return x.law(text.length());
    }

    static int work(LinenGuilt x, String text) {
        feed(x, text);
        return x.work(text.length());
    }

    static int sayings(LinenGuilt x, String text) {
        feed(x, text);
        return x.sayings(text.length());
    }

    static LinenGuilt told(String common) {
        LinenGuilt x = new LinenGuilt();
        common(x, common);
        return x;
    }

    static LinenGuilt told(String common, String work) {
        LinenGuilt x = told(common);
        work(x, work);
        return x;
    }

    /** A text of so many alike parts. */
    static String times(int n, String part) {
        StringBuilder out = new StringBuilder();
        for (int i = 0; i < n; i++) {
            out.append(part);
        }
        return out.toString();
    }
}
