import java.util.ArrayList;
import java.util.Arrays;
import java.util.HashMap;
import java.util.List;
import java.util.Map;
import java.util.NoSuchElementException;
import java.util.TreeSet;
import java.util.regex.Matcher;
import java.util.regex.Pattern;

/**
 * The document once more, written straight down with the Java library and without a care for room or
 * speed: what WakeTower is measured against in runs of random calls.
 */
final class PlainTower {
    static final int NONE = -1;

    static final class Person {
        int number;
        int weight;
        int full;
        int strength;
        int awake;
        boolean asleep;
        boolean up;
        int ring;
        TreeSet<Integer> on = new TreeSet<>();

        Person copy() {
            Person p = new Person();
            p.number = number;
            p.weight = weight;
            p.full = full;
            p.strength = strength;
            p.awake = awake;
            p.asleep = asleep;
            p.up = up;
            p.ring = ring;
            p.on = new TreeSet<>(on);
            return p;
        }

        boolean holds() {
            return up && !asleep;
        }
    }

    interface Condition {
        boolean of(State s, Person p);
    }

    interface Sum {
        int of(State s, Person p);
    }

    static final class Line {
        String kind;
        int amount;
        Condition condition;
    }

    static final class State {
        List<Person> people = new ArrayList<>();
        int hour;
        int day;
        int need = 1;
        int seed = 1;
        int texts;
        List<Line> law;
        List<int[]> log = new ArrayList<>();

        State copy() {
            State s = new State();
            for (Person p : people) {
                s.people.add(p.copy());
            }
            s.hour = hour;
            s.day = day;
            s.need = need;
            s.seed = seed;
            s.texts = texts;
            s.law = law;
            s.log = new ArrayList<>(log);
            return s;
        }

        int[] borne() {
            int[] borne = new int[people.size()];
            for (int ring = 4; ring >= 1; ring--) {
                for (Person p : people) {
                    if (!p.up || p.ring != ring) {
                        continue;
                    }
                    List<Integer> under = new ArrayList<>();
                    for (int q : p.on) {
                        if (people.get(q).holds()) {
                            under.add(q);
                        }
                    }
                    int load = p.weight + borne[p.number];
                    for (int i = 0; i < under.size(); i++) {
                        borne[under.get(i)] += load / under.size() + (i < load % under.size() ? 1 : 0);
                    }
                }
            }
            return borne;
        }

        int allBorne() {
            return Arrays.stream(borne()).sum();
        }

        boolean hangs(Person p) {
            return p.up && p.ring > 0 && p.on.stream().noneMatch(q -> people.get(q).holds());
        }

        boolean givesWay(Person p) {
            return p.holds() && borne()[p.number] > p.strength;
        }

        boolean nobodyGivesWay() {
            return people.stream().noneMatch(this::givesWay);
        }

        boolean nobodyHangs() {
            return people.stream().noneMatch(this::hangs);
        }

        boolean stands() {
            return nobodyGivesWay() && nobodyHangs();
        }

        void down(int person) {
            Person p = people.get(person);
            p.up = false;
            p.on.clear();
            for (Person q : people) {
                q.on.remove(person);
            }
        }

        /** Who falls, and in how many rounds (the last number). */
        List<Integer> fall() {
            List<Integer> order = new ArrayList<>();
            int round = 0;
            while (true) {
                List<Integer> now = new ArrayList<>();
                int[] borne = borne();
                for (Person p : people) {
                    if (givesWay(p) || hangs(p)) {
                        now.add(p.number);
                    }
                }
                if (now.isEmpty()) {
                    order.add(round);
                    return order;
                }
                round++;
                for (int p : now) {
                    log.add(new int[] {day, hour, p, round, givesWay(people.get(p)) ? 0 : 1, borne[p]});
                    if (log.size() > 60) {
                        log.remove(0);
                    }
                }
                for (int p : now) {
                    down(p);
                    people.get(p).asleep = false;
                }
                order.addAll(now);
            }
        }

        int sumOf(String kind, Person p) {
            if (law == null) {
                switch (kind) {
                    case "fade": return p.up && !p.asleep ? 5 : 0;
                    case "mend": return !p.up || p.asleep ? 10 : 0;
                    default: return p.awake;
                }
            }
            int sum = 0;
            for (Line line : law) {
                if (line.kind.equals(kind) && (line.condition == null || line.condition.of(this, p))) {
                    sum += line.amount;
                }
            }
            return sum;
        }

        int anHour(boolean draws) {
            State before = copy();
            for (Person p : people) {
                Person was = before.people.get(p.number);
                int s = p.strength - before.sumOf("fade", was);
                if (s < 0) {
                    s = 0;
                }
                s += before.sumOf("mend", was);
                if (s > p.full) {
                    s = p.full;
                }
                p.strength = s;
            }
            for (Person p : people) {
                if (p.asleep || !p.up) {
                    p.awake = 0;
                } else if (p.awake < 99) {
                    p.awake++;
                }
            }
            if (draws) {
                for (Person p : people) {
                    if (p.holds()) {
                        seed = (int) (1103515245L * seed + 12345L);
                        int draw = (seed >> 16) & 32767;
                        if (draw % 100 < sumOf("drowse", p)) {
                            p.asleep = true;
                        }
                    }
                }
            }
            int fell = fall().size() - 1;
            hour++;
            if (hour == 24) {
                hour = 0;
                if (day < 9999) {
                    day++;
                }
            }
            return fell;
        }

        int ups() {
            int bits = 0;
            for (Person p : people) {
                bits |= p.up ? 1 << p.number : 0;
            }
            return bits;
        }

        int asleeps() {
            int bits = 0;
            for (Person p : people) {
                bits |= p.asleep ? 1 << p.number : 0;
            }
            return bits;
        }

        void relief(int out, int in) {
            Person a = people.get(out);
            Person b = people.get(in);
            if (!a.up || b.up) {
                throw new IllegalStateException();
            }
            b.up = true;
            b.ring = a.ring;
            b.on = new TreeSet<>(a.on);
            for (Person p : people) {
                if (p.on.remove(out)) {
                    p.on.add(in);
                }
            }
            a.up = false;
            a.on.clear();
            if (!stands()) {
                throw new IllegalStateException();
            }
        }
    }

    // ---- reading

    static final class Wrong extends Exception {
        private static final long serialVersionUID = 1L;
        final int at;

        Wrong(int at) {
            this.at = at;
        }
    }

    /** Cuts a text into words, numbers and single signs, each with its begin. */
    static final class Things {
        final List<String> things = new ArrayList<>();
        final List<Integer> begins = new ArrayList<>();
        final int length;
        int next = 0;

        Things(String text) {
            length = text.length();
            Matcher m = Pattern.compile("[a-z]+|[0-9]+|[^ ]", Pattern.DOTALL).matcher(text);
            while (m.find()) {
                things.add(m.group());
                begins.add(m.start());
            }
        }

        String peek() {
            return next < things.size() ? things.get(next) : "";
        }

        int begin() {
            return next < things.size() ? begins.get(next) : length;
        }

        Wrong wrong() {
            return new Wrong(begin());
        }

        void must(String thing) throws Wrong {
            if (!may(thing)) {
                throw wrong();
            }
        }

        boolean may(String thing) {
            if (peek().equals(thing)) {
                next++;
                return true;
            }
            return false;
        }

        int number(int least, int most) throws Wrong {
            if (!peek().matches("[0-9]{1,3}")) {
                throw wrong();
            }
            int n = Integer.parseInt(peek());
            if (n < least || n > most) {
                throw wrong();
            }
            next++;
            return n;
        }
    }

    static void readTower(String text, State s) throws Wrong {
        Things t = new Things(text);
        int lines = 0;
        if (!t.peek().isEmpty()) {
            do {
                if (lines == 14) {
                    throw t.wrong();
                }
                towerLine(t, s);
                lines++;
            } while (t.may(";"));
            if (!t.peek().isEmpty()) {
                throw t.wrong();
            }
        }
        if (!s.stands()) {
            throw new Wrong(text.length());
        }
    }

    private static void towerLine(Things t, State s) throws Wrong {
        switch (t.peek()) {
            case "person": {
                if (s.people.size() == 8) {
                    throw t.wrong();
                }
                t.next++;
                Person p = new Person();
                p.number = s.people.size();
                t.must("weight");
                p.weight = t.number(1, 99);
                t.must("full");
                p.full = t.number(0, 999);
                p.strength = p.full;
                s.people.add(p);
                break;
            }
            case "up": {
                t.next++;
                int h = t.number(0, s.people.size() - 1);
                Person p = s.people.get(h);
                if (p.up) {
                    t.next--;
                    throw t.wrong();
                }
                t.must("ring");
                int ring = t.number(0, 4);
                TreeSet<Integer> on = new TreeSet<>();
                if (ring > 0) {
                    t.must("on");
                    if (!t.peek().matches("[a-z]+")) {
                        throw t.wrong();
                    }
                    for (char c : t.peek().toCharArray()) {
                        int q = c - 'a';
                        if (q >= s.people.size() || !on.add(q)) {
                            throw t.wrong();
                        }
                        if (!s.people.get(q).up || s.people.get(q).ring != ring - 1) {
                            throw t.wrong();
                        }
                    }
                    t.next++;
                }
                p.up = true;
                p.ring = ring;
                p.on = on;
                break;
            }
            case "asleep": {
                t.next++;
                int h = t.number(0, s.people.size() - 1);
                if (s.people.get(h).asleep) {
                    t.next--;
                    throw t.wrong();
                }
                s.people.get(h).asleep = true;
                break;
            }
            case "need":
                t.next++;
                s.need = t.number(0, 8);
                break;
            case "hour":
                t.next++;
                s.hour = t.number(0, 23);
                break;
            case "day":
                t.next++;
                s.day = t.number(0, 999);
                break;
            default:
                throw t.wrong();
        }
    }

    static List<Line> readLaw(String text) throws Wrong {
        Things t = new Things(text);
        List<Line> law = new ArrayList<>();
        if (t.peek().isEmpty()) {
            return law;
        }
        do {
            if (law.size() == 12) {
                throw t.wrong();
            }
            Line line = new Line();
            line.kind = t.peek();
            if (!line.kind.matches("fade|mend|drowse")) {
                throw t.wrong();
            }
            t.next++;
            line.amount = t.number(0, 100);
            if (t.may("if")) {
                line.condition = any(t, 0);
            }
            law.add(line);
        } while (t.may(";"));
        if (!t.peek().isEmpty()) {
            throw t.wrong();
        }
        return law;
    }

    private static Condition any(Things t, int deep) throws Wrong {
        Condition c = all(t, deep);
        while (t.may("or")) {
            Condition a = c;
            Condition b = all(t, deep);
            c = (s, p) -> a.of(s, p) || b.of(s, p);
        }
        return c;
    }

    private static Condition all(Things t, int deep) throws Wrong {
        Condition c = atom(t, deep);
        while (t.may("and")) {
            Condition a = c;
            Condition b = atom(t, deep);
            c = (s, p) -> a.of(s, p) && b.of(s, p);
        }
        return c;
    }

    private static Condition atom(Things t, int deep) throws Wrong {
        if ((t.peek().equals("not") || t.peek().equals("(")) && deep == 6) {
            throw t.wrong();
        }
        if (t.may("not")) {
            Condition a = atom(t, deep + 1);
            return (s, p) -> !a.of(s, p);
        }
        if (t.may("(")) {
            Condition a = any(t, deep + 1);
            t.must(")");
            return a;
        }
        if (t.may("asleep")) {
            return (s, p) -> p.asleep;
        }
        if (t.may("down")) {
            return (s, p) -> !p.up;
        }
        if (t.may("top")) {
            return (s, p) -> p.up && s.people.stream().noneMatch(q -> q.up && q.on.contains(p.number));
        }
        Sum a = sum(t);
        boolean less = t.peek().equals("<");
        if (!less && !t.peek().equals(">")) {
            throw t.wrong();
        }
        t.next++;
        Sum b = sum(t);
        return less ? (s, p) -> a.of(s, p) < b.of(s, p) : (s, p) -> a.of(s, p) > b.of(s, p);
    }

    private static Sum sum(Things t) throws Wrong {
        Sum c = part(t);
        while (t.may("+")) {
            Sum a = c;
            Sum b = part(t);
            c = (s, p) -> a.of(s, p) + b.of(s, p);
        }
        return c;
    }

    private static Sum part(Things t) throws Wrong {
        switch (t.peek()) {
            case "person": t.next++; return (s, p) -> p.number;
            case "ring": t.next++; return (s, p) -> p.up ? p.ring : 0;
            case "borne": t.next++; return (s, p) -> s.borne()[p.number];
            case "strength": t.next++; return (s, p) -> p.strength;
            case "weight": t.next++; return (s, p) -> p.weight;
            case "awake": t.next++; return (s, p) -> p.awake;
            case "hour": t.next++; return (s, p) -> s.hour;
            default: {
                int n = t.number(0, 999);
                return (s, p) -> n;
            }
        }
    }

    // ---- the face

    State now = new State();
    private State image;
    private final List<State> past = new ArrayList<>();
    private StringBuilder tape = new StringBuilder();
    private int fault = NONE;

    int feed(int a, int b, int c, int d, int e) {
        if (tape.length() + 20 > 400) {
            return NONE;
        }
        for (int n : new int[] {a, b, c, d, e}) {
            tape.append((char) (n >>> 24 & 255)).append((char) (n >>> 16 & 255));
            tape.append((char) (n >>> 8 & 255)).append((char) (n & 255));
        }
        return tape.length();
    }

    boolean end(int n) {
        if (n < 0 || n > tape.length()) {
            return false;
        }
        tape.setLength(n);
        return true;
    }

    private String useUp() {
        String text = tape.toString();
        tape = new StringBuilder();
        return text;
    }

    int tower() {
        String text = useUp();
        State s = now.copy();
        fault = NONE;
        try {
            readTower(text, s);
        } catch (Wrong w) {
            fault = w.at;
            throw new IllegalArgumentException();
        }
        if (now.texts == 12) {
            throw new UnsupportedOperationException();
        }
        s.texts++;
        now = s;
        past.clear();
        return now.texts;
    }

    int law() {
        String text = useUp();
        fault = NONE;
        try {
            List<Line> law = readLaw(text);
            now.law = law;
            past.clear();
            return law.size();
        } catch (Wrong w) {
            fault = w.at;
            throw new IllegalArgumentException();
        }
    }

    int fault() {
        return fault;
    }

    private Person get(int person) {
        if (person < 0 || person >= now.people.size()) {
            throw new IndexOutOfBoundsException();
        }
        return now.people.get(person);
    }

    private Person up(int person) {
        Person p = get(person);
        if (!p.up) {
            throw new IllegalStateException();
        }
        return p;
    }

    private Person holding(int person) {
        Person p = get(person);
        if (!p.holds()) {
            throw new IllegalStateException();
        }
        return p;
    }

    private static void argument(boolean right) {
        if (!right) {
            throw new IllegalArgumentException();
        }
    }

    private static int bits(Iterable<Integer> numbers) {
        int bits = 0;
        for (int n : numbers) {
            bits |= 1 << n;
        }
        return bits;
    }

    int person(int person, int what) {
        Person p = get(person);
        int[] borne = now.borne();
        switch (what) {
            case 0: return p.weight;
            case 1: return p.full;
            case 2: return p.strength;
            case 3: return p.asleep ? 1 : 0;
            case 4: return p.awake;
            case 5: return p.up ? 1 : 0;
            case 6: return p.up ? p.ring : NONE;
            case 7: return bits(p.on);
            case 8: return borne[person];
            case 9: return now.sumOf("fade", p);
            case 10: return now.sumOf("mend", p);
            case 11: return now.sumOf("drowse", p);
            case 12: return p.holds() ? p.strength - borne[person] : 0;
            case 13: return now.allBorne() == 0 ? 0 : borne[person] * 100 / now.allBorne();
            default: throw new NoSuchElementException();
        }
    }

    private void remember() {
        past.add(now.copy());
        if (past.size() > 12) {
            past.remove(0);
        }
    }

    private void become(State s) {
        if (!s.stands()) {
            throw new IllegalStateException();
        }
        remember();
        now = s;
    }

    int hours(int n) {
        argument(n >= 1 && n <= 60);
        remember();
        int fell = 0;
        for (int i = 0; i < n; i++) {
            fell += now.anHour(true);
        }
        return fell;
    }

    private static void putOn(State s, Person p, int ring, int on) {
        TreeSet<Integer> set = new TreeSet<>();
        for (Person q : s.people) {
            if ((on & 1 << q.number) != 0) {
                set.add(q.number);
                if (!q.up || q.ring != ring - 1) {
                    throw new IllegalStateException();
                }
            }
        }
        if (set.isEmpty() != (ring == 0)) {
            throw new IllegalStateException();
        }
        p.on = set;
    }

    int rise(int person, int ring, int on) {
        get(person);
        if (ring < 0 || ring > 4) {
            throw new IndexOutOfBoundsException();
        }
        State s = now.copy();
        Person p = s.people.get(person);
        if (p.up) {
            throw new IllegalStateException();
        }
        putOn(s, p, ring, on);
        p.up = true;
        p.ring = ring;
        become(s);
        return now.allBorne();
    }

    int out(int person) {
        up(person);
        State s = now.copy();
        s.down(person);
        become(s);
        return now.allBorne();
    }

    int relieve(int person, int other) {
        get(person);
        get(other);
        argument(person != other);
        State s = now.copy();
        s.relief(person, other);
        become(s);
        return now.borne()[other];
    }

    int lean(int person, int on) {
        if (up(person).ring == 0) {
            throw new IllegalStateException();
        }
        int was = bits(get(person).on);
        State s = now.copy();
        Person p = s.people.get(person);
        putOn(s, p, p.ring, on);
        become(s);
        return was;
    }

    int wake(int person) {
        if (!get(person).asleep) {
            throw new IllegalStateException();
        }
        State s = now.copy();
        s.people.get(person).asleep = false;
        become(s);
        return now.borne()[person];
    }

    int sleep(int person) {
        if (get(person).asleep) {
            throw new IllegalStateException();
        }
        State s = now.copy();
        s.people.get(person).asleep = true;
        become(s);
        return now.allBorne();
    }

    int need(int n) {
        argument(n >= 0 && n <= 8);
        remember();
        int was = now.need;
        now.need = n;
        return was;
    }

    int total() {
        return now.people.stream().filter(p -> p.up).mapToInt(p -> p.weight).sum();
    }

    int ground() {
        int[] borne = now.borne();
        return now.people.stream().filter(p -> p.up && p.ring == 0).mapToInt(p -> p.weight + borne[p.number]).sum();
    }

    int height() {
        return (int) now.people.stream().filter(p -> p.up).mapToInt(p -> p.ring).distinct().count();
    }

    int weakest() {
        int best = NONE;
        for (Person p : now.people) {
            if (p.holds() && (best == NONE || person(p.number, 12) < person(best, 12))) {
                best = p.number;
            }
        }
        return best;
    }

    int more(int person) {
        up(person);
        for (int m = 99; m > 0; m--) {
            State s = now.copy();
            s.people.get(person).weight += m;
            if (s.nobodyGivesWay()) {
                return m;
            }
        }
        return 0;
    }

    int outs() {
        int bits = 0;
        for (Person p : now.people) {
            if (p.up) {
                State s = now.copy();
                s.down(p.number);
                bits |= s.stands() ? 1 << p.number : 0;
            }
        }
        return bits;
    }

    int sleeps() {
        int bits = 0;
        for (Person p : now.people) {
            if (p.holds()) {
                State s = now.copy();
                s.people.get(p.number).asleep = true;
                bits |= s.stands() ? 1 << p.number : 0;
            }
        }
        return bits;
    }

    private List<Integer> fallOf(int person) {
        State s = now.copy();
        s.down(person);
        List<Integer> order = s.fall();
        order.add(0, person);
        return order;
    }

    int falls(int person) {
        up(person);
        return fallOf(person).size() - 1;
    }

    int rounds(int person) {
        up(person);
        List<Integer> order = fallOf(person);
        return order.get(order.size() - 1);
    }

    int fallen(int person, int k) {
        up(person);
        List<Integer> order = fallOf(person);
        return k >= 0 && k < order.size() - 1 ? order.get(k) : NONE;
    }

    int key() {
        int best = NONE;
        for (Person p : now.people) {
            if (p.up && (best == NONE || falls(p.number) > falls(best))) {
                best = p.number;
            }
        }
        return best;
    }

    private boolean standsWithout(int outs) {
        State s = now.copy();
        for (Person p : now.people) {
            if ((outs & 1 << p.number) != 0) {
                s.down(p.number);
            }
        }
        return s.stands();
    }

    int pillars() {
        int many = 0;
        for (int set = 0; set < 256; set++) {
            if ((set & now.ups()) == set && standsWithout(set)) {
                many++;
            }
        }
        return many;
    }

    int left() {
        int ups = now.ups();
        int top = now.people.stream().filter(p -> p.up).mapToInt(p -> p.ring).max().orElse(0);
        for (int many = 0; many <= 8; many++) {
            for (int set = 0; set < 256; set++) {
                int leave = set;
                if ((set & ups) == set && Integer.bitCount(set) == many
                        && now.people.stream().anyMatch(p -> p.up && p.ring == top && (leave >> p.number & 1) == 1)
                        && standsWithout(ups & ~set)) {
                    return set;
                }
            }
        }
        return 0;
    }

    private List<int[]> rows() {
        String text = useUp();
        argument(text.length() % 2 == 0 && text.length() <= 8);
        argument(text.chars().distinct().count() == text.length());
        argument(text.chars().allMatch(c -> c < now.people.size()));
        List<int[]> rows = new ArrayList<>();
        for (int i = 0; i < text.length(); i += 2) {
            rows.add(new int[] {text.charAt(i), text.charAt(i + 1)});
        }
        return rows;
    }

    private static List<Integer> order(State s, List<int[]> rows, List<Integer> done) {
        if (done.size() == rows.size()) {
            return done;
        }
        for (int i = 0; i < rows.size(); i++) {
            if (done.contains(i)) {
                continue;
            }
            State next = s.copy();
            try {
                next.relief(rows.get(i)[0], rows.get(i)[1]);
            } catch (IllegalStateException e) {
                continue;
            }
            List<Integer> more = new ArrayList<>(done);
            more.add(i);
            List<Integer> whole = order(next, rows, more);
            if (whole != null) {
                return whole;
            }
        }
        return null;
    }

    int guard(int k) {
        List<Integer> order = order(now, rows(), new ArrayList<>());
        return order != null && k >= 0 && k < order.size() ? order.get(k) : NONE;
    }

    int solo() {
        List<int[]> rows = rows();
        int bits = 0;
        for (int i = 0; i < rows.size(); i++) {
            try {
                now.copy().relief(rows.get(i)[0], rows.get(i)[1]);
                bits |= 1 << i;
            } catch (IllegalStateException e) {
                continue;
            }
        }
        return bits;
    }

    private State withSleepers(int set) {
        State s = now.copy();
        for (Person p : s.people) {
            if (p.up) {
                p.asleep = (set & 1 << p.number) != 0;
            }
        }
        return s;
    }

    private List<Integer> felt(int... knowers) {
        List<Integer> sets = new ArrayList<>();
        for (int set = 0; set < 256; set++) {
            boolean same = (set & now.ups()) == set;
            State s = withSleepers(set);
            same = same && s.nobodyHangs();
            for (int k : knowers) {
                same = same && (set & 1 << k) == 0 && s.borne()[k] == now.borne()[k];
            }
            if (same) {
                sets.add(set);
            }
        }
        return sets;
    }

    int feels(int person) {
        holding(person);
        return felt(person).size();
    }

    int sure(int person) {
        holding(person);
        return felt(person).stream().reduce(255, (a, b) -> a & b);
    }

    int free(int person) {
        holding(person);
        return now.ups() & ~(1 << person) & ~felt(person).stream().reduce(0, (a, b) -> a | b);
    }

    int both(int person, int other) {
        get(person);
        get(other);
        argument(person != other);
        holding(person);
        holding(other);
        return felt(person, other).size();
    }

    int ask(int person) {
        holding(person);
        List<Integer> sets = felt(person);
        if (sets.size() < 2) {
            return NONE;
        }
        int best = NONE;
        int least = Integer.MAX_VALUE;
        for (Person q : now.people) {
            if (!q.holds() || q.number == person) {
                continue;
            }
            Map<Integer, Integer> parts = new HashMap<>();
            for (int set : sets) {
                parts.merge(withSleepers(set).borne()[q.number], 1, Integer::sum);
            }
            int greatest = parts.values().stream().mapToInt(i -> i).max().getAsInt();
            if (greatest < least) {
                least = greatest;
                best = q.number;
            }
        }
        return best;
    }

    /** The distances from one over those that hold, without one (or NONE). */
    private int[] distances(int from, int without) {
        int n = now.people.size();
        int[] far = new int[n];
        Arrays.fill(far, NONE);
        if (!get(from).holds() || from == without) {
            return far;
        }
        List<Integer> row = new ArrayList<>(List.of(from));
        far[from] = 0;
        while (!row.isEmpty()) {
            int p = row.remove(0);
            for (int q = 0; q < n; q++) {
                boolean touch = now.people.get(p).on.contains(q) || now.people.get(q).on.contains(p);
                if (touch && far[q] == NONE && q != without && now.people.get(q).holds()) {
                    far[q] = far[p] + 1;
                    row.add(q);
                }
            }
        }
        return far;
    }

    int pushes(int person, int other) {
        get(person);
        get(other);
        return distances(person, NONE)[other];
    }

    int tell(int person) {
        if (!get(person).holds()) {
            return NONE;
        }
        int[] far = distances(person, NONE);
        int last = 0;
        for (Person p : now.people) {
            if (p.holds()) {
                if (far[p.number] == NONE) {
                    return NONE;
                }
                last = Math.max(last, far[p.number]);
            }
        }
        return last;
    }

    int herald() {
        int best = NONE;
        for (Person p : now.people) {
            if (tell(p.number) != NONE && (best == NONE || tell(p.number) < tell(best))) {
                best = p.number;
            }
        }
        return best;
    }

    int cuts(int person) {
        if (!get(person).holds()) {
            return 0;
        }
        int pairs = 0;
        for (int a = 0; a < now.people.size(); a++) {
            for (int b = a + 1; b < now.people.size(); b++) {
                if (a != person && b != person
                        && distances(a, NONE)[b] != NONE && distances(a, person)[b] == NONE) {
                    pairs++;
                }
            }
        }
        return pairs;
    }

    private int fulls(int set) {
        return now.people.stream().filter(p -> (set >> p.number & 1) == 1).mapToInt(p -> p.full).sum();
    }

    /** The fewest places of so many hours, none of these in the first; very many, if none. */
    private int places(int n, int x, int not, int never, Map<Integer, Integer> known) {
        if (n == 0) {
            return 0;
        }
        Integer before = known.get(n * 256 + not);
        if (before != null) {
            return before;
        }
        int best = 100000;
        for (int set = 0; set < 1 << now.people.size(); set++) {
            if ((set & (not | never)) == 0 && fulls(set) >= x) {
                best = Math.min(best, Integer.bitCount(set) + places(n - 1, x, set, never, known));
            }
        }
        known.put(n * 256 + not, best);
        return best;
    }

    int roster(int n, int x, int k) {
        argument(n >= 1 && n <= 12 && x >= 0 && x <= 999);
        Map<Integer, Integer> known = new HashMap<>();
        int best = places(n, x, 0, 0, known);
        if (best >= 100000) {
            return NONE;
        }
        if (k == NONE) {
            return best;
        }
        if (k < 0 || k >= n) {
            return NONE;
        }
        int not = 0;
        for (int hour = 0;; hour++) {
            int set = 0;
            while ((set & not) != 0 || fulls(set) < x
                    || Integer.bitCount(set) + places(n - hour - 1, x, set, 0, known)
                            != places(n - hour, x, not, 0, known)) {
                set++;
            }
            if (hour == k) {
                return set;
            }
            not = set;
        }
    }

    int pairs(int x) {
        argument(x >= 0 && x <= 999);
        int pairs = 0;
        for (Person a : now.people) {
            for (Person b : now.people) {
                if (a.number < b.number && a.full + b.full >= x) {
                    pairs++;
                }
            }
        }
        return pairs;
    }

    int dearest() {
        int best = NONE;
        int most = -1;
        for (Person p : now.people) {
            int places = places(2, 100, 0, 1 << p.number, new HashMap<>());
            places = Math.min(places, 100000);
            if (places > most) {
                most = places;
                best = p.number;
            }
        }
        return best;
    }

    int rests(int person, int other) {
        Person a = get(person);
        Person b = get(other);
        if (!a.holds() || !b.holds() || !a.on.contains(other)) {
            throw new IllegalStateException();
        }
        int ten = now.borne()[other] / 10;
        int[][] first = {{3 - 5, 3}, {1, 1}};
        int[][] second = {{-ten + 2, -ten}, {-1, 0}};
        int bits = 0;
        for (int i = 0; i < 2; i++) {
            for (int j = 0; j < 2; j++) {
                if (first[1 - i][j] <= first[i][j] && second[i][1 - j] <= second[i][j]) {
                    bits |= 1 << 2 * i + j;
                }
            }
        }
        return bits;
    }

    int odds(int person, int n) {
        get(person);
        argument(n >= 0 && n <= 4);
        int odds = 10000;
        int drowses = Math.min(100, person(person, 11));
        for (int i = 0; i < n; i++) {
            odds = odds * (100 - drowses) / 100;
        }
        return odds;
    }

    int alone() {
        int bits = 0;
        for (Person p : now.people) {
            if (p.up && p.on.stream().filter(q -> now.people.get(q).holds()).count() == 1) {
                bits |= 1 << p.number;
            }
        }
        return bits;
    }

    int tired() {
        int best = NONE;
        for (Person p : now.people) {
            if (p.awake > 0 && (best == NONE || p.awake > now.people.get(best).awake)) {
                best = p.number;
            }
        }
        return best;
    }

    int twins() {
        int pairs = 0;
        for (Person a : now.people) {
            for (Person b : now.people) {
                if (a.number < b.number && a.full == b.full && a.weight == b.weight) {
                    pairs++;
                }
            }
        }
        return pairs;
    }

    int ring(int ring) {
        if (ring < 0 || ring > 4) {
            throw new IndexOutOfBoundsException();
        }
        int bits = 0;
        for (Person p : now.people) {
            bits |= p.up && p.ring == ring ? 1 << p.number : 0;
        }
        return bits;
    }

    int reserves() {
        return (1 << now.people.size()) - 1 - now.ups();
    }

    int sleepers() {
        return now.asleeps();
    }

    private State after(int n, boolean draws, Integer seed) {
        argument(n >= 0 && n <= 60);
        State s = now.copy();
        if (seed != null) {
            s.seed = seed;
        }
        for (int i = 0; i < n; i++) {
            s.anHour(draws);
        }
        return s;
    }

    int soon() {
        State s = now.copy();
        for (int n = 0; n <= 60; n++) {
            if (Integer.bitCount(s.ups()) < s.need) {
                return n;
            }
            s.anHour(false);
        }
        return NONE;
    }

    int ahead(int person, int n) {
        get(person);
        return after(n, false, null).people.get(person).strength;
    }

    int trial(int n, boolean asleep) {
        State s = after(n, true, null);
        return asleep ? s.asleeps() : s.ups();
    }

    int span(int n, boolean most) {
        argument(n >= 0 && n <= 60);
        List<Integer> many = new ArrayList<>();
        for (int seed = 1; seed <= 6; seed++) {
            many.add(Integer.bitCount(after(n, true, seed).ups()));
        }
        many.sort(null);
        return many.get(most ? 5 : 0);
    }

    int led(int person, boolean day) {
        get(person);
        int rows = 0;
        int latest = NONE;
        for (int[] row : now.log) {
            if (row[2] == person) {
                rows++;
                latest = row[0];
            }
        }
        return day ? latest : rows;
    }

    int log(int ago, int what) {
        if (what < 0 || what > 5) {
            throw new NoSuchElementException();
        }
        int row = now.log.size() - 1 - ago;
        return ago >= 0 && row >= 0 ? now.log.get(row)[what] : NONE;
    }

    int seed(int n) {
        int was = now.seed;
        now.seed = n;
        return was;
    }

    boolean undo() {
        if (past.isEmpty()) {
            return false;
        }
        now = past.remove(past.size() - 1);
        return true;
    }

    void image() {
        image = now.copy();
    }

    boolean back() {
        if (image == null) {
            return false;
        }
        now = image.copy();
        past.clear();
        return true;
    }

    int count(int what) {
        switch (what) {
            case 0: return now.people.size();
            case 1: return now.texts;
            case 2: return now.law == null ? NONE : now.law.size();
            case 3: return now.hour;
            case 4: return now.day;
            case 5: return now.need;
            case 6: return now.ups();
            case 7: return now.allBorne();
            case 8: return now.people.stream().mapToInt(p -> p.strength).sum();
            case 9: return now.log.size();
            case 10: return past.size();
            default: return NONE;
        }
    }
}
