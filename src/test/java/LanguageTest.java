import java.io.IOException;
import java.lang.reflect.Field;
import java.lang.reflect.Method;
import java.lang.reflect.Modifier;
import java.nio.file.Files;
import java.nio.file.Path;
import java.util.ArrayList;
import java.util.Collections;
import java.util.HashSet;
import java.util.List;
import java.util.Set;
import java.util.regex.Matcher;
import java.util.regex.Pattern;

/** What can be seen of the rules of LANGUAGE.md without reading; the tests run at the project's root. */
final class LanguageTest {
    private static final String FACE = "append(int)int begin()int checksum()long clearText()int darkWith(int,int)int "
        + "faultDepth()int faultPosition()int forecast(int)int makeReel(int)int mend(int,int)int pass(int)int "
        + "program(int)int projector(int,int)int reel(int,int)int restore(int)int save(int)int set(int,int)int "
        + "setProgram()int splice(int,int,int)int spliceAt(int,int,boolean)int task(int,int)int tell(int)int";

    static void rule01TheFaceIsThatOfTheDocument() {
        List<String> face = new ArrayList<>();
        for (Method method : ReelChanger.class.getDeclaredMethods()) {
            if (Modifier.isPrivate(method.getModifiers()) || method.isSynthetic()) {
                continue;
            }
            List<String> types = new ArrayList<>();
            for (Class<?> type : method.getParameterTypes()) {
                types.add(type.getName());
            }
            face.add(method.getName() + "(" + String.join(",", types) + ")" + method.getReturnType());
        }
        Collections.sort(face);
        same("methods", String.join(" ", face), FACE);
        List<String> constants = new ArrayList<>();
        for (Field field : ReelChanger.class.getDeclaredFields()) {
            if (!Modifier.isPrivate(field.getModifiers())) {
                constants.add(field.getName());
            }
        }
        same("constants", String.join(" ", constants), "BAD_INDEX BAD_VALUE NOT_POSSIBLE FULL NONE EMPTY READY STARTING "
            + "SHOWING RUN_OUT BROKEN CLEAR THREAD REPAIR");
        Due.due("constructors", ReelChanger.class.getConstructors().length, 1);
    }

    static void rule01NoInnerMethodBearsAPublicName() {
        Set<String> names = new HashSet<>();
        for (Method method : ReelChanger.class.getMethods()) {
            if (method.getDeclaringClass() == ReelChanger.class) {
                names.add(method.getName());
            }
        }
        Set<String> seen = new HashSet<>();
        for (Class<?> inner : ReelChanger.class.getDeclaredClasses()) {
            Due.due("static: " + inner, inner.getModifiers() & Modifier.STATIC, Modifier.STATIC);
            Due.due("not public: " + inner, inner.getModifiers() & (Modifier.PUBLIC | Modifier.PROTECTED), 0);
            for (Method method : inner.getDeclaredMethods()) {
                seen.add(method.getName());
            }
        }
        for (Method method : ReelChanger.class.getDeclaredMethods()) {
            if (Modifier.isPrivate(method.getModifiers())) {
                seen.add(method.getName());
            }
        }
        seen.retainAll(names);
        same("names that stand twice", seen.toString(), "[]");
    }

    static void rule02And06NoForbiddenWord() throws IOException {
        Matcher found = Pattern.compile("\\b(import|package|throw|throws|try|catch|synchronized|assert|equals|hashCode"
            + "|toString|protected|native|volatile|transient|var|goto|System\\.(?!arraycopy)\\w+|\\w+Exact|Object)\\b"
            + "|->|::").matcher(code());
        Due.due(found.find() ? "forbidden: " + found.group() : "no forbidden word", found.reset().find() ? 1 : 0, 0);
    }

    static void rule05StaticFieldsAreFinal() {
        List<Class<?>> classes = new ArrayList<>(List.of(ReelChanger.class.getDeclaredClasses()));
        classes.add(ReelChanger.class);
        for (Class<?> one : classes) {
            int own = 0;
            for (Field field : one.getDeclaredFields()) {
                boolean isStatic = Modifier.isStatic(field.getModifiers());
                Due.due("final: " + field, isStatic && !Modifier.isFinal(field.getModifiers()) ? 1 : 0, 0);
                own += isStatic ? 0 : 1;
            }
            Due.due("some twenty fields: " + one, own <= 20 ? 1 : 0, 1);
        }
        Due.due("some twelve classes", classes.size() <= 12 ? 1 : 0, 1);
    }

    /** Any arguments, in a new room, in a show, in one that has broken, and behind its end. */
    static void rule07NoCallThrows() throws ReflectiveOperationException {
        int[] values = {Integer.MIN_VALUE, Integer.MIN_VALUE + 1, Due.NONE, -1, 0, 1, 2, 6, 8, 9, 10, 12, 50, 60, 99, 100,
            127, 2000, 3000, Integer.MAX_VALUE - 1, Integer.MAX_VALUE};
        for (Method method : ReelChanger.class.getMethods()) {
            if (method.getDeclaringClass() == ReelChanger.class) {
                for (ReelChanger room : rooms()) {
                    callAll(room, method, new Object[method.getParameterCount()], 0, values);
                    room.checksum();
                }
            }
        }
    }

    private static List<ReelChanger> rooms() {
        ReelChanger broken = Due.withProgram("010", 100, 120);
        broken.splice(1, 3, 1);
        broken.begin();
        Due.passTo(broken, 83);
        ReelChanger over = Due.showing("01", 100, 120);
        over.pass(2000);
        return List.of(new ReelChanger(), Due.showing("(01)x6", 100, 120), broken, over);
    }

    private static void callAll(ReelChanger room, Method method, Object[] arguments, int at, int[] values)
            throws ReflectiveOperationException {
        if (at == arguments.length) {
            method.invoke(room, arguments);
            return;
        }
        for (int value : values) {
            boolean isFlag = method.getParameterTypes()[at] == boolean.class;
            arguments[at] = isFlag ? (Object) (value % 2 == 0) : (Object) value;
            callAll(room, method, arguments, at + 1, values);
        }
    }

    /** The program without its comments and signs in quotes. */
    private static String code() throws IOException {
        String text = Files.readString(Path.of("src/main/java/ReelChanger.java"));
        return text.replaceAll("(?s)/\\*.*?\\*/", " ").replaceAll("//[^\n]*", " ").replaceAll("'.'", "' '");
    }

    private static void same(String what, String got, String want) {
        if (!got.equals(want)) {
            throw new AssertionError(what + " are " + got + ", due are " + want);
        }
    }
}
