import java.lang.reflect.Constructor;
import java.lang.reflect.Field;
import java.lang.reflect.Method;
import java.lang.reflect.Modifier;
import java.nio.file.Files;
import java.nio.file.Path;
import java.util.ArrayList;
import java.util.Collections;
import java.util.List;

/** The public face, as the document tells it, and rules of the language that can be read off the file. */
public final class FaceTest {
    private static final String[] FACE = {
        "long adler()",
        "long beside(int, int) IndexOutOfBoundsException NoSuchElementException",
        "int best(int, int) IllegalArgumentException",
        "int bits(int, int) IndexOutOfBoundsException IllegalArgumentException",
        "int byteAt(int) IndexOutOfBoundsException",
        "long changed(int, int) IndexOutOfBoundsException IllegalArgumentException",
        "int check(char) IllegalArgumentException NoSuchElementException",
        "int chunkEnd(int, int, int) IllegalArgumentException IndexOutOfBoundsException",
        "int chunks(int, int) IllegalArgumentException",
        "int clear()",
        "long climbed(int, int) IndexOutOfBoundsException",
        "int common(int, int, int) IndexOutOfBoundsException",
        "int digit(int) IllegalArgumentException IllegalStateException",
        "int divide(int, int, int, int) IndexOutOfBoundsException IllegalArgumentException ArithmeticException",
        "int drop(int) IndexOutOfBoundsException",
        "int factor(int, int) IndexOutOfBoundsException UnsupportedOperationException NoSuchElementException",
        "int fletcher()",
        "int forge(int, long) IndexOutOfBoundsException IllegalArgumentException",
        "int insert(int, int) IndexOutOfBoundsException IllegalArgumentException IllegalStateException",
        "boolean isSeen(int) IndexOutOfBoundsException ArithmeticException",
        "boolean isSound()",
        "int join(int, int, int, boolean) IndexOutOfBoundsException IllegalStateException",
        "long joined(int) IndexOutOfBoundsException",
        "int kind(int, int, int, int, int) IllegalArgumentException",
        "long librarySum(int, int) IndexOutOfBoundsException",
        "int meant() NoSuchElementException",
        "int nextWare(int) IndexOutOfBoundsException",
        "int ofKind(int) IndexOutOfBoundsException",
        "int order(int) IndexOutOfBoundsException UnsupportedOperationException NoSuchElementException",
        "int polynomial(int, int, int) IndexOutOfBoundsException",
        "int put(int, int) IndexOutOfBoundsException IllegalArgumentException",
        "int rolling(int, int) IndexOutOfBoundsException IllegalArgumentException NoSuchElementException",
        "long root() NoSuchElementException",
        "int shortest(int) IllegalArgumentException",
        "int stays(int, int, int, int) IllegalArgumentException IndexOutOfBoundsException",
        "long sum(int, int) IndexOutOfBoundsException",
        "int type(int, int) IllegalArgumentException IllegalStateException",
        "int undo() NoSuchElementException",
        "int unseen(char, char) IllegalArgumentException NoSuchElementException",
        "long unseenSlip(int) IllegalArgumentException NoSuchElementException",
        "int ware() NoSuchElementException UnsupportedOperationException IllegalStateException",
        "int wipe()",
        "long zeros(int) IllegalArgumentException",
    };
    private static final String[] RULED_OUT = {
        "\ntry ", " try ", "catch", "finally", "->", "::", "synchronized", "assert ", "double", "float", "String",
        "java.util.BitSet", "java.util.zip", "TreeMap", "@", "static {", "Exact(", " + \"", "\" + ",
    };

    private final Due due = new Due();

    public static void main(String[] arguments) throws Exception {
        new FaceTest().run();
    }

    private void run() throws Exception {
        Class<?> office = CheckmarkOffice.class;
        due.compare("public final", Modifier.toString(office.getModifiers()));
        List<String> face = new ArrayList<>();
        List<String> names = new ArrayList<>();
        for (Method method : office.getDeclaredMethods()) {
            if (!Modifier.isPrivate(method.getModifiers())) {
                due.compare("public", Modifier.toString(method.getModifiers()));
                face.add(told(method));
                names.add(method.getName());
            }
        }
        Collections.sort(face, (one, other) -> nameIn(one).compareTo(nameIn(other)));
        due.compare(String.join("\n", FACE), String.join("\n", face));
        hidesTheRest(office, names);
        fileKeepsRules();
        due.end();
    }

    private void hidesTheRest(Class<?> office, List<String> names) {
        due.is(1, () -> office.getDeclaredConstructors().length);
        for (Constructor<?> constructor : office.getDeclaredConstructors()) {
            due.compare("public", Modifier.toString(constructor.getModifiers()));
            due.is(0, () -> constructor.getParameterCount());
        }
        for (Field field : office.getDeclaredFields()) {
            due.is(true, () -> Modifier.isPrivate(field.getModifiers()) ? 1 : 0);
        }
        due.is(true, () -> office.getDeclaredClasses().length <= 11 ? 1 : 0);
        for (Class<?> inside : office.getDeclaredClasses()) {
            due.is(true, () -> Modifier.isStatic(inside.getModifiers()) ? 1 : 0);
            for (Method method : inside.getDeclaredMethods()) {
                due.compare("another name", names.contains(method.getName()) ? method.toString() : "another name");
            }
        }
        for (Method method : office.getDeclaredMethods()) {
            if (Modifier.isPrivate(method.getModifiers())) {
                due.compare("another name", names.contains(method.getName()) ? method.toString() : "another name");
            }
        }
    }

    private void fileKeepsRules() throws Exception {
        String text = Files.readString(Path.of("src/main/java/CheckmarkOffice.java"));
        for (String part : RULED_OUT) {
            due.compare("no " + part, (text.contains(part) ? "a " : "no ") + part);
        }
        for (String line : text.split("\n")) {
            if (line.startsWith("import ")) {
                due.compare("import java.util.NoSuchElementException;", line);
            }
        }
        handsOutNothingBeingMade(text);
    }

    /** A field begins with an object that is made from constants alone, and so from no part of what is being made. */
    private void handsOutNothingBeingMade(String text) {
        int found = 0;
        for (String line : text.split("\n")) {
            if (line.matches(" +private .* = new [A-Z]\\w*\\(.*\\);")) {
                String arguments = line.substring(line.lastIndexOf('(') + 1, line.lastIndexOf(')'));
                due.compare("constants alone", arguments.matches("[A-Z0-9_ ,+*]*") ? "constants alone" : line);
                found++;
            }
        }
        due.compare("some fields", found > 0 ? "some fields" : "no fields");
    }

    private static String told(Method method) {
        StringBuilder told = new StringBuilder(method.getReturnType().getName());
        told.append(' ').append(method.getName()).append('(');
        for (int index = 0; index < method.getParameterCount(); index++) {
            told.append(index == 0 ? "" : ", ").append(method.getParameterTypes()[index].getName());
        }
        told.append(')');
        for (Class<?> thrown : method.getExceptionTypes()) {
            told.append(' ').append(thrown.getSimpleName());
        }
        return told.toString();
    }

    private static String nameIn(String told) {
        return told.substring(told.indexOf(' ') + 1, told.indexOf('('));
    }
}
