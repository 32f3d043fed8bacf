import java.util.ArrayList;
import java.util.List;
import java.util.Map;
import java.util.Random;
import java.util.TreeMap;

/**
 * Runs of random calls on a new WakeTower and a new PlainTower: each answer, each exception must be the
 * same. With a number as argument: so many runs; a second one: from that run on.
 */
public final class ModelTest {
    private static final int CALLS = 500;

    interface Call {
        long of();
    }

    private final Random random;
    private final WakeTower tower = new WakeTower();
    private final PlainTower plain = new PlainTower();
    private final List<String> calls = new ArrayList<>();
    private int made = 0;
    /** Of each call: how often it answered, and how often it threw. */
    static final Map<String, int[]> SEEN = new TreeMap<>();

    ModelTest(long seed) {
        random = new Random(seed);
    }

    public static void main(String[] args) {
        int runs = args.length > 0 ? Integer.parseInt(args[0]) : 400;
        int first = args.length > 1 ? Integer.parseInt(args[1]) : 0;
        int wrong = 0;
        for (int run = first; run < first + runs && wrong < 5; run++) {
            ModelTest test = new ModelTest(run);
            String differs = test.run();
            if (differs != null) {
                wrong++;
                System.out.println("run " + run + ": " + differs);
                int from = Math.max(0, test.calls.size() - 40);
                for (String call : test.calls.subList(from, test.calls.size())) {
                    System.out.println("    " + call);
                }
            }
        }
        if (args.length > 2) {
            SEEN.forEach((name, seen) -> System.out.println(name + ": " + seen[0] + " answers, " + seen[1]
                    + " NONE or 0, " + seen[2] + " throws"));
        }
        System.out.println(wrong == 0 ? "ModelTest: " + runs + " runs as the plain tower" : "ModelTest: FAILED");
        if (wrong != 0) {
            System.exit(1);
        }
    }

    private static String outcome(Call call) {
        try {
            return String.valueOf(call.of());
        } catch (RuntimeException e) {
            return "throws " + e.getClass().getName();
        }
    }

    private String same(String name, Call real, Call due) {
        made++;
        String got = outcome(real);
        String want = outcome(due);
        int[] seen = SEEN.computeIfAbsent(name.substring(0, name.indexOf('(')), n -> new int[3]);
        seen[got.startsWith("throws") ? 2 : got.equals("-1") || got.equals("0") ? 1 : 0]++;
        calls.add(name + " -> " + want);
        return got.equals(want) ? null : name + " answered " + got + ", due is " + want;
    }

    private static long of(boolean yes) {
        return yes ? 1 : 0;
    }

    private int upTo(int most) {
        return random.nextInt(most + 1);
    }

    /** A person there is, or now and then one that there is not. */
    private int who() {
        int many = plain.now.people.size();
        if (many == 0 || random.nextInt(40) == 0) {
            return random.nextInt(14) - 3;
        }
        return random.nextInt(many);
    }

    private int whoIs(boolean up) {
        for (int i = 0; i < 20; i++) {
            int p = who();
            if (p >= 0 && p < plain.now.people.size() && plain.now.people.get(p).up == up) {
                return p;
            }
        }
        return who();
    }

    /** One who sleeps, mostly, if somebody does. */
    private int whoSleeps() {
        int set = plain.now.asleeps();
        for (int i = 0; i < 20 && set != 0; i++) {
            int p = upTo(7);
            if ((set >> p & 1) == 1) {
                return p;
            }
        }
        return who();
    }

    /** One whom another one is on, mostly. */
    private int whoIsUnder(int p) {
        if (p >= 0 && p < plain.now.people.size() && !plain.now.people.get(p).on.isEmpty() && upTo(4) > 0) {
            return plain.now.people.get(p).on.first();
        }
        return who();
    }

    /** A number of lo to hi, now and then just outside. */
    private int about(int lo, int hi) {
        if (random.nextInt(30) == 0) {
            return random.nextBoolean() ? lo - 1 - upTo(2) : hi + 1 + upTo(2);
        }
        return lo + random.nextInt(hi - lo + 1);
    }

    private String run() {
        String differs = null;
        if (random.nextInt(20) != 0) {
            differs = text(TextMaker.firstTower(random), false);
        }
        if (differs == null && random.nextInt(10) < 7) {
            differs = text(TextMaker.law(random), true);
        }
        while (differs == null && made < CALLS) {
            int kind = random.nextInt(100);
            differs = kind < 5 ? someText() : kind < 30 ? act() : kind < 37 ? all() : question();
        }
        return differs;
    }

    private String someText() {
        switch (random.nextInt(6)) {
            case 0: return text(TextMaker.bent(random, TextMaker.law(random)), true);
            case 1: return text(TextMaker.law(random), true);
            case 2: return text(TextMaker.bent(random, TextMaker.moreTower(random, plain)), false);
            case 3: return text(TextMaker.moreTower(random, plain), false);
            default: return rows();
        }
    }

    private String feed(String text) {
        for (int from = 0; from < text.length() || from == 0; from += 20) {
            int[] n = new int[5];
            for (int i = 0; i < 20; i++) {
                int sign = from + i < text.length() ? text.charAt(from + i) : upTo(255);
                n[i / 4] |= sign << 24 - 8 * (i % 4);
            }
            String differs = same("feed(" + text + ")", () -> tower.feed(n[0], n[1], n[2], n[3], n[4]),
                    () -> plain.feed(n[0], n[1], n[2], n[3], n[4]));
            if (differs != null) {
                return differs;
            }
        }
        return same("end(" + text.length() + ")", () -> of(tower.end(text.length())),
                () -> of(plain.end(text.length())));
    }

    private String text(String text, boolean law) {
        same("end(0)", () -> of(tower.end(0)), () -> of(plain.end(0)));
        String differs = feed(text);
        if (differs == null) {
            differs = law ? same("law(" + text + ")", tower::law, plain::law)
                    : same("tower(" + text + ")", tower::tower, plain::tower);
        }
        return differs != null ? differs : same("fault()", tower::fault, plain::fault);
    }

    private String rows() {
        same("end(0)", () -> of(tower.end(0)), () -> of(plain.end(0)));
        StringBuilder rows = new StringBuilder();
        List<Integer> ups = new ArrayList<>();
        List<Integer> downs = new ArrayList<>();
        for (PlainTower.Person p : plain.now.people) {
            (p.up ? ups : downs).add(p.number);
        }
        int many = upTo(4);
        for (int i = 0; i < many; i++) {
            int out = ups.isEmpty() || random.nextInt(20) == 0 ? upTo(9) : ups.remove(random.nextInt(ups.size()));
            int in = downs.isEmpty() ? upTo(9) : downs.remove(random.nextInt(downs.size()));
            if (random.nextInt(12) == 0 && !ups.isEmpty()) {
                in = ups.remove(0);
            }
            rows.append((char) out).append((char) in);
        }
        if (random.nextInt(25) == 0) {
            rows.append((char) upTo(255));
        }
        String differs = feed(rows.toString());
        if (differs != null) {
            return differs;
        }
        if (random.nextBoolean()) {
            return same("solo()", tower::solo, plain::solo);
        }
        int k = about(0, Math.max(0, many - 1));
        return same("guard(" + k + ")", () -> tower.guard(k), () -> plain.guard(k));
    }

    /** Sets that fit mostly: of those in the ring below. */
    private int under(int ring) {
        int set = 0;
        for (PlainTower.Person p : plain.now.people) {
            if (p.up && p.ring == ring - 1 && random.nextInt(3) > 0) {
                set |= 1 << p.number;
            }
        }
        return random.nextInt(15) == 0 ? random.nextInt() : set | random.nextInt() << 8;
    }

    private String act() {
        int p = who();
        switch (random.nextInt(14)) {
            case 0: {
                int n = random.nextInt(4) == 0 ? about(1, 60) : about(1, 5);
                return same("hours(" + n + ")", () -> tower.hours(n), () -> plain.hours(n));
            }
            case 1: case 2: case 3: {
                int in = whoIs(false);
                int ring = about(0, 4);
                int on = under(ring);
                return same("rise(" + in + ", " + ring + ", " + on + ")",
                        () -> tower.rise(in, ring, on), () -> plain.rise(in, ring, on));
            }
            case 4: {
                int out = whoIs(true);
                return same("out(" + out + ")", () -> tower.out(out), () -> plain.out(out));
            }
            case 5: {
                int out = whoIs(true);
                int in = whoIs(false);
                return same("relieve(" + out + ", " + in + ")",
                        () -> tower.relieve(out, in), () -> plain.relieve(out, in));
            }
            case 6: {
                int one = whoIs(true);
                boolean is = one >= 0 && one < plain.now.people.size();
                int on = under(is ? plain.now.people.get(one).ring : 1);
                return same("lean(" + one + ", " + on + ")", () -> tower.lean(one, on), () -> plain.lean(one, on));
            }
            case 7: case 8: {
                int one = whoSleeps();
                return same("wake(" + one + ")", () -> tower.wake(one), () -> plain.wake(one));
            }
            case 9:
                return same("sleep(" + p + ")", () -> tower.sleep(p), () -> plain.sleep(p));
            case 10: {
                int n = about(0, 8);
                return same("need(" + n + ")", () -> tower.need(n), () -> plain.need(n));
            }
            case 11: {
                int n = random.nextInt();
                return same("seed(" + n + ")", () -> tower.seed(n), () -> plain.seed(n));
            }
            case 12:
                return same("undo()", () -> of(tower.undo()), () -> of(plain.undo()));
            default:
                return random.nextInt(3) == 0
                        ? same("back()", () -> of(tower.back()), () -> of(plain.back()))
                        : same("image()", () -> {
                            tower.image();
                            return 0;
                        }, () -> {
                            plain.image();
                            return 0;
                        });
        }
    }

    /** The whole of one person, or all counts. */
    private String all() {
        if (plain.count(9) > 0 && random.nextInt(4) == 0) {
            return logRow();
        }
        int p = who();
        boolean person = random.nextInt(3) > 0;
        for (int i = 0; i < 14; i++) {
            int what = i;
            String differs = person
                    ? same("person(" + p + ", " + what + ")", () -> tower.person(p, what), () -> plain.person(p, what))
                    : same("count(" + (what - 1) + ")", () -> tower.count(what - 1), () -> plain.count(what - 1));
            if (differs != null) {
                return differs;
            }
        }
        return null;
    }

    private String logRow() {
        int ago = upTo(Math.min(59, plain.count(9)));
        for (int i = 0; i < 6; i++) {
            int what = i;
            String differs = same("log(" + ago + ", " + what + ")",
                    () -> tower.log(ago, what), () -> plain.log(ago, what));
            if (differs != null) {
                return differs;
            }
        }
        return null;
    }

    private String question() {
        int kind = random.nextInt(46);
        return kind < 16 ? questionOfAll(kind) : kind < 33 ? questionOfOne(kind) : questionOfNumbers(kind);
    }

    private String questionOfAll(int kind) {
        switch (kind) {
            case 0: return same("total()", tower::total, plain::total);
            case 1: return same("ground()", tower::ground, plain::ground);
            case 2: return same("height()", tower::height, plain::height);
            case 3: return same("weakest()", tower::weakest, plain::weakest);
            case 4: return same("outs()", tower::outs, plain::outs);
            case 5: return same("sleeps()", tower::sleeps, plain::sleeps);
            case 6: return same("key()", tower::key, plain::key);
            case 7: return same("pillars()", tower::pillars, plain::pillars);
            case 8: return same("left()", tower::left, plain::left);
            case 9: return same("herald()", tower::herald, plain::herald);
            case 10: return same("alone()", tower::alone, plain::alone);
            case 11: return same("tired()", tower::tired, plain::tired);
            case 12: return same("twins()", tower::twins, plain::twins);
            case 13: return same("reserves()", tower::reserves, plain::reserves);
            case 14: return same("sleepers()", tower::sleepers, plain::sleepers);
            default: return same("soon()", tower::soon, plain::soon);
        }
    }

    private String questionOfOne(int kind) {
        int p = random.nextInt(4) > 0 ? whoIs(true) : who();
        int q = kind == 29 ? whoIsUnder(p) : who();
        int k = about(-1, 5);
        String one = "(" + p + ")";
        String two = "(" + p + ", " + q + ")";
        switch (kind) {
            case 16: return same("more" + one, () -> tower.more(p), () -> plain.more(p));
            case 17: return same("falls" + one, () -> tower.falls(p), () -> plain.falls(p));
            case 18: return same("rounds" + one, () -> tower.rounds(p), () -> plain.rounds(p));
            case 19: case 20:
                return same("fallen(" + p + ", " + k + ")", () -> tower.fallen(p, k), () -> plain.fallen(p, k));
            case 21: return same("feels" + one, () -> tower.feels(p), () -> plain.feels(p));
            case 22: return same("sure" + one, () -> tower.sure(p), () -> plain.sure(p));
            case 23: return same("free" + one, () -> tower.free(p), () -> plain.free(p));
            case 24: return same("both" + two, () -> tower.both(p, q), () -> plain.both(p, q));
            case 25: return same("ask" + one, () -> tower.ask(p), () -> plain.ask(p));
            case 26: return same("pushes" + two, () -> tower.pushes(p, q), () -> plain.pushes(p, q));
            case 27: return same("tell" + one, () -> tower.tell(p), () -> plain.tell(p));
            case 28: return same("cuts" + one, () -> tower.cuts(p), () -> plain.cuts(p));
            case 29: return same("rests" + two, () -> tower.rests(p, q), () -> plain.rests(p, q));
            case 30: {
                int n = about(0, 4);
                return same("odds(" + p + ", " + n + ")", () -> tower.odds(p, n), () -> plain.odds(p, n));
            }
            case 31: {
                int n = about(0, 60);
                return same("ahead(" + p + ", " + n + ")", () -> tower.ahead(p, n), () -> plain.ahead(p, n));
            }
            default: {
                boolean day = random.nextBoolean();
                return same("led(" + p + ", " + day + ")", () -> tower.led(p, day), () -> plain.led(p, day));
            }
        }
    }

    private String questionOfNumbers(int kind) {
        switch (kind) {
            case 33: case 34: case 35: {
                int n = random.nextInt(6) == 0 ? about(1, 12) : about(1, 4);
                int x = random.nextInt(4) == 0 ? about(0, 999) : about(0, 300);
                int k = random.nextInt(3) == 0 ? -1 : about(0, Math.max(0, n));
                return same("roster(" + n + ", " + x + ", " + k + ")",
                        () -> tower.roster(n, x, k), () -> plain.roster(n, x, k));
            }
            case 36: {
                int x = about(0, 999);
                return same("pairs(" + x + ")", () -> tower.pairs(x), () -> plain.pairs(x));
            }
            case 37: return same("dearest()", tower::dearest, plain::dearest);
            case 38: {
                int ring = about(0, 4);
                return same("ring(" + ring + ")", () -> tower.ring(ring), () -> plain.ring(ring));
            }
            case 39: case 40: {
                int n = random.nextInt(3) == 0 ? about(0, 60) : about(0, 8);
                boolean asleep = random.nextBoolean();
                return same("trial(" + n + ", " + asleep + ")",
                        () -> tower.trial(n, asleep), () -> plain.trial(n, asleep));
            }
            case 41: {
                int n = random.nextInt(8) == 0 ? about(0, 60) : about(0, 12);
                boolean most = random.nextBoolean();
                return same("span(" + n + ", " + most + ")", () -> tower.span(n, most), () -> plain.span(n, most));
            }
            case 42: case 43: {
                int ago = random.nextInt(4) == 0 ? about(0, 61) : about(0, 8);
                int what = about(0, 5);
                return same("log(" + ago + ", " + what + ")", () -> tower.log(ago, what), () -> plain.log(ago, what));
            }
            case 44: {
                int n = about(0, 420);
                return random.nextInt(5) > 0
                        ? same("feed(0)", () -> tower.feed(n, 0, 0, 0, 0), () -> plain.feed(n, 0, 0, 0, 0))
                        : same("end(" + n + ")", () -> of(tower.end(n)), () -> of(plain.end(n)));
            }
            default: return same("fault()", tower::fault, plain::fault);
        }
    }
}
