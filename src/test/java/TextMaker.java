import java.util.ArrayList;
import java.util.List;
import java.util.Random;

/** Makes random texts of THE TOWER and THE LAW: mostly right ones, and bent ones. */
final class TextMaker {
    private TextMaker() {
    }

    private static String blanks(Random r) {
        return r.nextInt(12) == 0 ? " ".repeat(1 + r.nextInt(3)) : "";
    }

    private static String join(Random r, List<String> lines) {
        StringBuilder text = new StringBuilder(blanks(r));
        for (int i = 0; i < lines.size(); i++) {
            text.append(i > 0 ? ";" : "").append(blanks(r)).append(lines.get(i)).append(blanks(r));
        }
        return cut(text.toString());
    }

    private static String cut(String text) {
        return text.length() > 400 ? text.substring(0, 400) : text;
    }

    /** People of one make: weak ones, strong ones, or all sorts, now and then of like WEIGHT and FULL. */
    private static String person(Random r, int make) {
        int weight = r.nextInt(4) == 0 ? 30 : make == 0 ? 1 + r.nextInt(40) : 1 + r.nextInt(99);
        int full = make == 0 ? 20 + r.nextInt(80) : make == 1 ? 150 + r.nextInt(500) : r.nextInt(1000);
        return "person weight " + weight + " full " + (r.nextInt(4) == 0 ? 60 + 90 * make : full);
    }

    /** People, and some of them up in rings: mostly so that it stands. */
    static String firstTower(Random r) {
        String text = "";
        boolean right = false;
        for (int i = 0; i < 20 && !right; i++) {
            text = anyFirstTower(r);
            right = r.nextInt(12) == 0;
            try {
                PlainTower.readTower(text, new PlainTower.State());
                right = true;
            } catch (PlainTower.Wrong w) {
                continue;
            }
        }
        return text;
    }

    private static String anyFirstTower(Random r) {
        int make = r.nextInt(3);
        int people = r.nextInt(6) == 0 ? 1 + r.nextInt(4) : 5 + r.nextInt(4);
        List<String> lines = new ArrayList<>();
        for (int i = 0; i < people; i++) {
            lines.add(person(r, make));
        }
        int rings = 1 + r.nextInt(4);
        String[] those = {"", "", "", "", "", ""};
        int sparse = 2 + r.nextInt(6);
        for (int i = 0; i < people && lines.size() < 14; i++) {
            if (r.nextInt(sparse) > 0) {
                int ring = Math.min(r.nextInt(rings), i);
                while (ring > 0 && those[ring - 1].isEmpty()) {
                    ring--;
                }
                lines.add("up " + i + " ring " + ring + (ring > 0 ? " on " + some(r, those[ring - 1]) : ""));
                those[ring] += (char) ('a' + i);
            }
        }
        if (lines.size() < 13 && r.nextInt(4) == 0) {
            lines.add("asleep " + r.nextInt(people));
        }
        if (lines.size() < 13) {
            extras(r, lines);
        }
        return join(r, lines);
    }

    private static void extras(Random r, List<String> lines) {
        if (r.nextInt(3) == 0) {
            lines.add("hour " + r.nextInt(24));
        }
        if (r.nextInt(4) == 0) {
            lines.add("day " + r.nextInt(1000));
        }
        if (r.nextInt(3) == 0) {
            lines.add("need " + r.nextInt(9));
        }
    }

    private static String some(Random r, String of) {
        StringBuilder some = new StringBuilder();
        for (char c : of.toCharArray()) {
            if (r.nextInt(4) > 0) {
                some.insert(r.nextInt(some.length() + 1), c);
            }
        }
        return some.length() == 0 ? of : some.toString();
    }

    /** More lines for a tower that there is. */
    static String moreTower(Random r, PlainTower plain) {
        List<String> lines = new ArrayList<>();
        int people = plain.now.people.size();
        String[] those = {"", "", "", "", "", ""};
        StringBuilder down = new StringBuilder();
        for (PlainTower.Person p : plain.now.people) {
            if (p.up) {
                those[p.ring] += (char) ('a' + p.number);
            } else {
                down.append((char) ('a' + p.number));
            }
        }
        int many = r.nextInt(6);
        for (int i = 0; i < many; i++) {
            int kind = r.nextInt(6);
            if (kind == 0 && (people < 8 || r.nextInt(6) == 0)) {
                lines.add(person(r, r.nextInt(3)));
                down.append((char) ('a' + people));
                people++;
            } else if (kind < 4 && down.length() > 0) {
                int at = r.nextInt(down.length());
                char one = down.charAt(at);
                down.deleteCharAt(at);
                int ring = r.nextInt(5);
                while (ring > 0 && those[ring - 1].isEmpty()) {
                    ring--;
                }
                lines.add("up " + (one - 'a') + " ring " + ring + (ring > 0 ? " on " + some(r, those[ring - 1]) : ""));
                those[ring] += one;
            } else if (kind == 4) {
                lines.add("asleep " + r.nextInt(Math.max(1, people)));
            } else {
                extras(r, lines);
            }
        }
        return join(r, lines);
    }

    static String law(Random r) {
        List<String> lines = new ArrayList<>();
        int many = r.nextInt(15) == 0 ? 11 + r.nextInt(3) : r.nextInt(7);
        boolean gentle = r.nextBoolean();
        for (int i = 0; i < many; i++) {
            String[] kinds = {"fade ", "mend ", "drowse "};
            int amount = !gentle && r.nextInt(3) == 0 ? r.nextInt(101) : r.nextInt(12);
            String condition = r.nextInt(4) == 0 ? "" : " if " + any(r, r.nextInt(5) == 0 ? 7 : 3);
            lines.add(kinds[r.nextInt(3)] + amount + condition);
        }
        return join(r, lines);
    }

    private static String any(Random r, int deep) {
        return all(r, deep) + (r.nextInt(5) == 0 ? " or " + all(r, deep) : "");
    }

    private static String all(Random r, int deep) {
        return atom(r, deep) + (r.nextInt(5) == 0 ? " and " + atom(r, deep) : "");
    }

    private static String atom(Random r, int deep) {
        int kind = r.nextInt(deep > 5 ? 6 : 12);
        if (deep > 0 && kind < 2) {
            return "not " + atom(r, deep - 1);
        }
        if (deep > 0 && kind < 5) {
            return "(" + any(r, deep - 1) + ")";
        }
        switch (kind) {
            case 6: return "asleep";
            case 7: return "down";
            case 8: return "top";
            default: return sum(r) + (r.nextBoolean() ? " < " : ">") + sum(r);
        }
    }

    private static String sum(Random r) {
        return part(r) + (r.nextInt(4) == 0 ? "+" + part(r) : "");
    }

    private static String part(Random r) {
        String[] names = {"person", "ring", "borne", "strength", "weight", "awake", "hour", "borne", "awake"};
        return r.nextInt(3) == 0 ? String.valueOf(r.nextInt(r.nextInt(4) == 0 ? 1000 : 60)) : names[r.nextInt(9)];
    }

    /** A text with some bytes or things other than they were. */
    static String bent(Random r, String text) {
        StringBuilder bent = new StringBuilder(text);
        String signs = " ;()<>+abczupon0123456789";
        String[] things = {"person", "up", "asleep", "need ", "on", "ring ", "if ", "not ", "(", ")", "and ", "or ",
            "1000", "99", "0", ";", "fade 3", "top"};
        int times = 1 + r.nextInt(2);
        for (int i = 0; i < times; i++) {
            int at = r.nextInt(bent.length() + 1);
            switch (r.nextInt(5)) {
                case 0: bent.insert(at, signs.charAt(r.nextInt(signs.length()))); break;
                case 1: bent.insert(at, things[r.nextInt(things.length)]); break;
                case 2: bent.setLength(at); break;
                case 3:
                    if (at < bent.length()) {
                        bent.deleteCharAt(at);
                    }
                    break;
                default:
                    if (at < bent.length()) {
                        bent.setCharAt(at, r.nextInt(3) == 0 ? (char) r.nextInt(256)
                                : signs.charAt(r.nextInt(signs.length())));
                    }
            }
        }
        return cut(bent.toString());
    }
}
