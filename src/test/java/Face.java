import java.io.IOException;
import java.lang.reflect.Constructor;
import java.lang.reflect.Field;
import java.lang.reflect.Member;
import java.lang.reflect.Method;
import java.lang.reflect.Modifier;
import java.nio.file.Files;
import java.nio.file.Path;
import java.util.ArrayList;
import java.util.Arrays;
import java.util.Collections;
import java.util.List;
import java.util.Set;
import java.util.TreeSet;

/** The face of the class is the document's and no more; what is inside is as rules 1 to 5 let. */
public final class Face {
    private static final int MOST_FIELDS = 20;
    private static final Path DOCUMENT = Path.of("../shared/DOC.md");
    private static final Check CHECK = new Check();

    public static void main(String[] args) throws IOException {
        Class<?> face = WalledIn.class;
        CHECK.due("public and final", face.getModifiers(), Modifier.PUBLIC | Modifier.FINAL);
        CHECK.due("above it is Object alone", face.getSuperclass() == Object.class
            && face.getInterfaces().length == 0, true);
        CHECK.due("members", members(face).size(), 31);
        if (Files.isReadable(DOCUMENT)) {
            compare(members(face), documented());
        }
        looksInside(face);
        CHECK.endWith("face");
    }

    private static void compare(Set<String> got, Set<String> want) {
        for (String member : difference(got, want)) {
            CHECK.due("the document has " + member, false, true);
        }
        for (String member : difference(want, got)) {
            CHECK.due("the class has " + member, false, true);
        }
    }

    private static List<String> difference(Set<String> all, Set<String> without) {
        List<String> left = new ArrayList<>(all);
        left.removeAll(without);
        return left;
    }

    /** The lines of the document's public face, names of parameters aside. */
    private static Set<String> documented() throws IOException {
        String doc = Files.readString(DOCUMENT);
        int from = doc.indexOf("public final class WalledIn {");
        String[] lines = doc.substring(from, doc.indexOf("\n}", from)).split("\n");
        Set<String> members = new TreeSet<>();
        for (int i = 1; i < lines.length; i++) {
            String line = lines[i].trim().replaceAll(" (\\w+)(?=[,)])", "").replace(", ", ",");
            members.add(line.replaceAll(" = .*", "").replace(";", ""));
        }
        return members;
    }

    private static Set<String> members(Class<?> face) {
        List<Member> all = new ArrayList<>();
        Collections.addAll(all, face.getDeclaredConstructors());
        Collections.addAll(all, face.getDeclaredMethods());
        Collections.addAll(all, face.getDeclaredFields());
        Set<String> members = new TreeSet<>();
        for (Member member : all) {
            if (!Modifier.isPrivate(member.getModifiers()) && !member.isSynthetic()) {
                members.add(told(member));
            }
        }
        return members;
    }

    private static String told(Member member) {
        String how = Modifier.toString(member.getModifiers());
        if (member instanceof Constructor<?> c) {
            return how + " " + c.getName() + types(c.getParameterTypes());
        }
        if (member instanceof Method m) {
            return how + " " + m.getReturnType() + " " + m.getName()
                + types(m.getParameterTypes());
        }
        return how + " " + ((Field) member).getType() + " " + member.getName();
    }

    private static String types(Class<?>[] types) {
        return Arrays.toString(types).replace('[', '(').replace(']', ')').replace(", ", ",");
    }

    private static void looksInside(Class<?> face) {
        looksAtFields(face);
        for (Class<?> inside : face.getDeclaredClasses()) {
            CHECK.due(inside + " is static", Modifier.isStatic(inside.getModifiers()), true);
            CHECK.due(inside + " has no class inside", inside.getDeclaredClasses().length, 0);
            looksAtFields(inside);
        }
    }

    private static void looksAtFields(Class<?> owner) {
        Set<Class<?>> constants = Set.of(int.class, long.class, boolean.class, char.class,
            String.class, int[].class, long[].class, char[].class, byte[].class);
        int fields = 0;
        for (Field field : owner.getDeclaredFields()) {
            if (Modifier.isStatic(field.getModifiers())) {
                CHECK.due(field + " is final", Modifier.isFinal(field.getModifiers()), true);
                CHECK.due(field + " is a constant", constants.contains(field.getType()), true);
            } else {
                fields++;
            }
        }
        CHECK.due(owner + " has " + fields + " fields", fields <= MOST_FIELDS, true);
    }
}
