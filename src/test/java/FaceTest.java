import java.io.IOException;
import java.lang.reflect.Array;
import java.lang.reflect.Field;
import java.lang.reflect.Member;
import java.lang.reflect.Method;
import java.lang.reflect.Modifier;
import java.nio.file.Files;
import java.nio.file.Path;
import java.util.ArrayDeque;
import java.util.Collections;
import java.util.Deque;
import java.util.IdentityHashMap;
import java.util.Set;
import java.util.TreeSet;
import java.util.regex.Matcher;
import java.util.regex.Pattern;

/** "The public face": the class, its constant, constructor and methods, and no more; and what an object takes of the room. */
public final class FaceTest {
    private static final Due due = new Due();
    private static final Pattern METHOD = Pattern.compile("    public (int|long) (\\w+)\\((.*)\\);");

    private static final int MOST_OBJECTS = 300;
    private static final int MOST_ELEMENTS = 200_000;

    public static void main(String[] args) throws IOException, IllegalAccessException {
        classAndConstant();
        methods();
        nothingElse();
        theRoomItTakes();
        due.end();
    }

    private static void classAndConstant() throws IllegalAccessException {
        Class<?> face = BloomRooms.class;
        due.is("public and final", face.getModifiers(), Modifier.PUBLIC | Modifier.FINAL);
        due.is("without a package", face.getPackageName().length(), 0);
        due.is("public fields", face.getFields().length, 1);
        Field none = face.getFields()[0];
        due.is("NONE", none.getName().equals("NONE") ? none.getInt(null) : 0, -1);
        due.is("NONE is an int", none.getType() == int.class ? 1 : 0, 1);
        due.is("NONE is a constant", none.getModifiers(), Modifier.PUBLIC | Modifier.STATIC | Modifier.FINAL);
        due.is("constructors", face.getDeclaredConstructors().length, 1);
        due.is("a public constructor", face.getConstructors().length, 1);
        due.is("of nothing", face.getConstructors()[0].getParameterCount(), 0);
    }

    /** As the document writes them. */
    private static void methods() throws IOException {
        Set<String> wanted = new TreeSet<>();
        for (String line : Files.readAllLines(Path.of("../shared/DOC.md"))) {
            Matcher m = METHOD.matcher(line);
            if (m.matches()) {
                wanted.add(m.group(1) + " " + m.group(2) + "(" + m.group(3).replaceAll(" \\w+(?=,|$)", "") + ")");
            }
        }
        due.is("methods of the document", wanted.size(), 44);
        Set<String> there = new TreeSet<>();
        for (Method method : BloomRooms.class.getDeclaredMethods()) {
            if (Modifier.isPublic(method.getModifiers())) {
                StringBuilder types = new StringBuilder();
                for (Class<?> type : method.getParameterTypes()) {
                    types.append(types.length() == 0 ? "" : ", ").append(type.getName());
                }
                there.add(method.getReturnType().getName() + " " + method.getName() + "(" + types + ")");
                due.is(method.getName() + " is public alone", method.getModifiers(), Modifier.PUBLIC);
            }
        }
        for (String one : wanted) {
            due.is(one, there.contains(one) ? 1 : 0, 1);
        }
        due.is("methods", there.size(), wanted.size());
    }

    private static void nothingElse() {
        for (Member member : BloomRooms.class.getDeclaredFields()) {
            isPrivate(member);
        }
        Set<String> shown = new TreeSet<>();
        for (Method method : BloomRooms.class.getMethods()) {
            shown.add(method.getName());
        }
        for (Method method : BloomRooms.class.getDeclaredMethods()) {
            isPrivate(method);
            boolean bearsPublicName = !Modifier.isPublic(method.getModifiers()) && shown.contains(method.getName());
            due.is(method.getName() + " bears a public name", bearsPublicName ? 1 : 0, 0);
        }
        for (Class<?> inside : BloomRooms.class.getDeclaredClasses()) {
            due.is(inside.getName() + " is static", Modifier.isStatic(inside.getModifiers()) ? 1 : 0, 1);
            due.is(inside.getName() + " isn't shown", inside.getModifiers() & (Modifier.PUBLIC | Modifier.PROTECTED), 0);
        }
    }

    private static void isPrivate(Member member) {
        boolean open = Modifier.isPublic(member.getModifiers());
        due.is(member.getName() + " is public or private", open || Modifier.isPrivate(member.getModifiers()) ? 1 : 0, 1);
    }

    /** All calls of a run live in one room: an object takes the same few things of it, whatever was called. */
    private static void theRoomItTakes() throws IllegalAccessException {
        BloomRooms x = Schools.full();
        Set<Object> before = reached(x);
        Seen.of(x);
        Set<Object> after = reached(x);
        due.is("objects and arrays after many calls", after.size(), before.size());
        due.is("the same ones", after.containsAll(before) ? 1 : 0, 1);
        int elements = 0;
        for (Object one : before) {
            elements += one.getClass().isArray() ? Array.getLength(one) : one.getClass().getDeclaredFields().length;
        }
        due.is(before.size() + " objects and arrays", before.size() <= MOST_OBJECTS ? 1 : 0, 1);
        due.is(elements + " fields and elements", elements <= MOST_ELEMENTS ? 1 : 0, 1);
    }

    private static Set<Object> reached(Object from) throws IllegalAccessException {
        Set<Object> all = Collections.newSetFromMap(new IdentityHashMap<>());
        Deque<Object> open = new ArrayDeque<>();
        open.add(from);
        while (!open.isEmpty()) {
            Object one = open.remove();
            if (!all.add(one)) {
                continue;
            }
            if (one instanceof Object[] many) {
                Collections.addAll(open, many);
            } else if (!one.getClass().isArray()) {
                for (Field field : one.getClass().getDeclaredFields()) {
                    field.setAccessible(true);
                    if (!field.getType().isPrimitive() && !Modifier.isStatic(field.getModifiers())) {
                        open.add(field.get(one));
                    }
                }
            }
        }
        return all;
    }
}
