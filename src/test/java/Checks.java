import java.util.NoSuchElementException;

/** What the tests by hand share: how an answer is checked, and how texts come to a tower. */
abstract class Checks {
    static final Class<?> INDEX = IndexOutOfBoundsException.class;
    static final Class<?> ARGUMENT = IllegalArgumentException.class;
    static final Class<?> STATE = IllegalStateException.class;
    static final Class<?> ELEMENT = NoSuchElementException.class;
    static final Class<?> UNSUPPORTED = UnsupportedOperationException.class;
    static final int NONE = -1;

    /** What is tested just now, ahead of each row that tells of a wrong answer. */
    static String about = "";
    static int parts = 0;
    static int checks = 0;
    static int wrong = 0;

    interface Call {
        void of();
    }

    static void due(String what, long got, long want) {
        checks++;
        if (got != want) {
            wrong++;
            System.out.println(about + ": " + what + " answered " + got + ", due is " + want);
        }
    }

    static void yes(String what, boolean got) {
        due(what, got ? 1 : 0, 1);
    }

    static void no(String what, boolean got) {
        due(what, got ? 1 : 0, 0);
    }

    static void fails(String what, Class<?> want, Call call) {
        checks++;
        Class<?> got = null;
        try {
            call.of();
        } catch (RuntimeException e) {
            got = e.getClass();
        }
        if (got != want) {
            wrong++;
            System.out.println(about + ": " + what + " threw " + got + ", due is " + want);
        }
    }

    /** Runs a test that must check something. */
    static void run(String name, Call test) {
        about = name;
        parts++;
        int before = checks;
        test.of();
        if (checks == before) {
            wrong++;
            System.out.println(about + " has no test");
        }
    }

    static void end(String test) {
        System.out.println(test + ": " + parts + " parts, " + checks + " checks, " + wrong + " wrong");
        if (wrong != 0) {
            System.exit(1);
        }
    }

    static void feed(WakeTower x, String text) {
        x.end(0);
        for (int from = 0; from < text.length(); from += 20) {
            int[] n = new int[5];
            for (int i = 0; i < 20 && from + i < text.length(); i++) {
                n[i / 4] |= text.charAt(from + i) << 24 - 8 * (i % 4);
            }
            x.feed(n[0], n[1], n[2], n[3], n[4]);
        }
        yes("the tape has the text", x.end(text.length()));
    }

    static void rows(WakeTower x, int... people) {
        StringBuilder rows = new StringBuilder();
        for (int p : people) {
            rows.append((char) p);
        }
        feed(x, rows.toString());
    }

    static int law(WakeTower x, String text) {
        feed(x, text);
        return x.law();
    }

    static int tower(WakeTower x, String text) {
        feed(x, text);
        return x.tower();
    }

    /** A tower of these texts; a ; behind the last line of one is left away. */
    static WakeTower told(String... texts) {
        WakeTower x = new WakeTower();
        for (String text : texts) {
            tower(x, text.endsWith(";") ? text(text) : text);
        }
        return x;
    }

    static WakeTower underLaw(String law, String... texts) {
        WakeTower x = told(texts);
        law(x, law);
        return x;
    }

    static void wrongTower(WakeTower x, String text, int at) {
        feed(x, text);
        fails("tower(" + text + ")", ARGUMENT, x::tower);
        due("fault() of " + text, x.fault(), at);
        no("the tape is used up", x.end(1));
    }

    static void wrongLaw(WakeTower x, String text, int at) {
        int lines = x.count(2);
        feed(x, text);
        fails("law(" + text + ")", ARGUMENT, x::law);
        due("fault() of " + text, x.fault(), at);
        due("the law before stays", x.count(2), lines);
        no("the tape is used up", x.end(1));
    }

    /** A line that tells a person, with the ; behind it. */
    static String person(int weight, int full) {
        return "person weight " + weight + " full " + full + ";";
    }

    /** Lines that tell so many like people. */
    static String people(int many, int weight, int full) {
        return person(weight, full).repeat(many);
    }

    /** All but the last sign: lines that each end with ; are a text so. */
    static String text(String lines) {
        return lines.substring(0, lines.length() - 1);
    }
}
