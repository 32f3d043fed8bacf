import java.lang.reflect.Constructor;
import java.lang.reflect.Field;
import java.lang.reflect.InvocationTargetException;
import java.lang.reflect.Method;
import java.lang.reflect.Modifier;
import java.nio.file.Files;
import java.nio.file.Path;
import java.util.ArrayList;
import java.util.Arrays;
import java.util.List;
import java.util.Random;
import java.util.Set;
import java.util.TreeSet;
import java.util.stream.Collectors;

/** The face is the document's, member by member, and no call throws what the document does not name there. */
public final class FaceTest {
    private static int wrong = 0;

    private static void say(String what) {
        wrong++;
        System.out.println(what);
    }

    public static void main(String[] args) throws Exception {
        Set<String> due = documented();
        Set<String> got = members();
        for (String member : due) {
            if (!got.contains(member)) {
                say("the face lacks " + member);
            }
        }
        for (String member : got) {
            if (!due.contains(member)) {
                say("the face has " + member + ", which the document has not");
            }
        }
        hiddenNames();
        for (int seed = 0; seed < 300; seed++) {
            wildCalls(new Random(seed));
        }
        System.out.println("FaceTest: " + due.size() + " members, " + wrong + " wrong");
        if (wrong != 0 || due.size() < 60) {
            System.exit(1);
        }
    }

    /** The members in the document's block of Java. */
    private static Set<String> documented() throws Exception {
        Set<String> members = new TreeSet<>();
        boolean face = false;
        for (String line : Files.readAllLines(Path.of("../shared/DOC.md"))) {
            face = face && !line.equals("}") || line.startsWith("public final class WakeTower");
            String member = line.trim();
            if (face && member.startsWith("public ") && !member.contains("class")) {
                members.add(member.replaceAll("(int|boolean) [a-z]+(?=[,)])", "$1").replace(";", ""));
            }
        }
        return members;
    }

    private static Set<String> members() throws Exception {
        Set<String> members = new TreeSet<>();
        for (Field f : WakeTower.class.getDeclaredFields()) {
            if (!Modifier.isPrivate(f.getModifiers())) {
                members.add(Modifier.toString(f.getModifiers()) + " " + f.getType() + " " + f.getName() + " = "
                        + f.getInt(null));
            }
        }
        for (Constructor<?> c : WakeTower.class.getDeclaredConstructors()) {
            members.add(Modifier.toString(c.getModifiers()) + " WakeTower(" + types(c.getParameterTypes()) + ")");
        }
        for (Method m : WakeTower.class.getDeclaredMethods()) {
            if (!Modifier.isPrivate(m.getModifiers())) {
                String thrown = m.getExceptionTypes().length == 0 ? "" : " throws " + types(m.getExceptionTypes());
                members.add(Modifier.toString(m.getModifiers()) + " " + m.getReturnType().getSimpleName() + " "
                        + m.getName() + "(" + types(m.getParameterTypes()) + ")" + thrown);
            }
        }
        return members;
    }

    private static String types(Class<?>[] types) {
        return Arrays.stream(types).map(Class::getSimpleName).collect(Collectors.joining(", "));
    }

    /** No private method, here or in a class inside, bears the name of a public one. */
    private static void hiddenNames() {
        Set<String> face = new TreeSet<>();
        for (Method m : WakeTower.class.getDeclaredMethods()) {
            if (Modifier.isPublic(m.getModifiers())) {
                face.add(m.getName());
            }
        }
        List<Class<?>> all = new ArrayList<>(List.of(WakeTower.class.getDeclaredClasses()));
        for (Class<?> c : all) {
            for (Method m : c.getDeclaredMethods()) {
                if (face.contains(m.getName())) {
                    say(c.getSimpleName() + "." + m.getName() + " bears the name of a public one");
                }
            }
        }
        for (Method m : WakeTower.class.getDeclaredMethods()) {
            if (Modifier.isPrivate(m.getModifiers()) && face.contains(m.getName())) {
                say(m.getName() + " is private and public");
            }
        }
    }

    /** Calls with any numbers, in a tower of some people: each answers, or throws what it declares. */
    private static void wildCalls(Random random) throws Exception {
        WakeTower tower = new WakeTower();
        List<Method> methods = new ArrayList<>();
        for (Method m : WakeTower.class.getDeclaredMethods()) {
            if (Modifier.isPublic(m.getModifiers())) {
                methods.add(m);
            }
        }
        methods.sort((a, b) -> a.getName().compareTo(b.getName()));
        for (int call = 0; call < 500; call++) {
            Method m = methods.get(random.nextInt(methods.size()));
            if (random.nextInt(12) == 0) {
                feed(tower, random.nextInt(3) > 0 ? TextMaker.firstTower(random) : TextMaker.law(random));
                m = WakeTower.class.getDeclaredMethod(random.nextInt(3) > 0 ? "tower" : "law");
            }
            Object[] arguments = new Object[m.getParameterCount()];
            for (int i = 0; i < arguments.length; i++) {
                arguments[i] = m.getParameterTypes()[i] == boolean.class ? (Object) random.nextBoolean() : wild(random);
            }
            try {
                m.invoke(tower, arguments);
            } catch (InvocationTargetException e) {
                if (!Arrays.asList(m.getExceptionTypes()).contains(e.getCause().getClass())) {
                    say(m.getName() + Arrays.toString(arguments) + " threw " + e.getCause());
                }
            }
        }
    }

    private static Object wild(Random random) {
        int[] edges = {Integer.MIN_VALUE, Integer.MAX_VALUE, -1, 0, 1, 8, 32, 60, 256, 400};
        switch (random.nextInt(3)) {
            case 0: return edges[random.nextInt(edges.length)];
            case 1: return random.nextInt(8);
            default: return random.nextInt();
        }
    }

    private static void feed(WakeTower tower, String text) {
        tower.end(0);
        for (int from = 0; from < text.length(); from += 20) {
            int[] n = new int[5];
            for (int i = 0; i < 20 && from + i < text.length(); i++) {
                n[i / 4] |= text.charAt(from + i) << 24 - 8 * (i % 4);
            }
            tower.feed(n[0], n[1], n[2], n[3], n[4]);
        }
        tower.end(text.length());
    }
}
