/** What the tests share: answers that are due, texts on the tape, and the exit code. */
final class Check {
    private final String name;
    private int wrong = 0;
    private int asked = 0;
    private int sentences = 0;
    private String sentence = "";

    Check(String name) {
        this.name = name;
    }

    /** What the document says; the answers from here on are due by it. */
    void says(String words) {
        sentence = " [" + words + "]";
        sentences++;
    }

    void due(String call, long got, long want) {
        asked++;
        if (got != want) {
            wrong++;
            if (wrong <= 40) {
                System.out.println(name + sentence + ": " + call + " answered " + got + ", due is " + want);
            }
        }
    }

    void due(String call, boolean got, boolean want) {
        due(call, got ? 1 : 0, want ? 1 : 0);
    }

    /** An answer of a call that has a STATUS, and that STATUS. */
    void due(RainJury x, String call, long got, long want, int status) {
        due(call, got, want);
        due("status() behind " + call, x.status(), status);
    }

    void good(RainJury x, String call, long got, long want) {
        due(x, call, got, want, 0);
    }

    void good(RainJury x, String call, boolean got) {
        due(x, call, got ? 1 : 0, 1, 0);
    }

    void bad(RainJury x, String call, long got, int status) {
        due(x, call, got, RainJury.NONE, status);
    }

    void bad(RainJury x, String call, boolean got, int status) {
        due(x, call, got ? 1 : 0, 0, status);
    }

    void fraction(RainJury x, String call, long top, long bottom) {
        due("top() behind " + call, x.top(), top);
        due("bottom() behind " + call, x.bottom(), bottom);
    }

    void end() {
        String of = sentences > 0 ? " to " + sentences + " sentences" : "";
        System.out.println(name + ": " + asked + " answers" + of + ", " + wrong + " not as due");
        if (wrong != 0) {
            System.exit(1);
        }
    }

    /** Puts a text on the tape, which must be empty, with blanks up to twenties. */
    static void feed(RainJury x, String text) {
        for (int from = 0; from < text.length(); from += 20) {
            x.feed(four(text, from), four(text, from + 4), four(text, from + 8), four(text, from + 12),
                    four(text, from + 16));
        }
    }

    private static int four(String text, int from) {
        int four = 0;
        for (int i = from; i < from + 4; i++) {
            four = four << 8 | (i < text.length() ? text.charAt(i) & 255 : ' ');
        }
        return four;
    }

    static int court(RainJury x, String text) {
        feed(x, text);
        return x.court(text.length());
    }

    static int weeks(RainJury x, String text) {
        feed(x, text);
        return x.weeks(text.length());
    }

    static RainJury with(String court) {
        RainJury x = new RainJury();
        if (court(x, court) < 0) {
            throw new IllegalStateException("a test's court has fault " + x.fault(0) + " at " + x.fault(1) + ": " + court);
        }
        return x;
    }

    static RainJury with(String court, String weeks) {
        RainJury x = with(court);
        if (weeks(x, weeks) < 0) {
            throw new IllegalStateException("a test's weeks have fault " + x.fault(0) + " at " + x.fault(1) + ": " + weeks);
        }
        return x;
    }
}
