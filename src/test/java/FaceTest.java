import java.io.IOException;
import java.lang.reflect.Constructor;
import java.lang.reflect.Field;
import java.lang.reflect.Method;
import java.lang.reflect.Modifier;
import java.nio.file.Files;
import java.nio.file.Path;
import java.util.Arrays;
import java.util.TreeSet;

/** The public face: what the document names, and nothing beside it that is not private. */
public final class FaceTest {
    private static final String[] FACE = {
        "public static final int NONE",
        "public ShortenPrograms(int)",
        "public int feed(int) UnsupportedOperationException",
        "public void begin() IllegalStateException",
        "public int asked(int) IllegalStateException IndexOutOfBoundsException",
        "public int size() IllegalStateException",
        "public int judge(int) IllegalStateException IllegalArgumentException",
        "public int at(int) IndexOutOfBoundsException",
        "public int from(int) IndexOutOfBoundsException",
        "public int known(int,int,int,int) IndexOutOfBoundsException IllegalArgumentException",
        "public int count(int)",
    };

    public static void main(String[] args) throws IOException {
        TreeSet<String> face = new TreeSet<>();
        for (Field field : ShortenPrograms.class.getDeclaredFields()) {
            if (isSeen(field.getModifiers())) {
                face.add(Modifier.toString(field.getModifiers()) + " " + field.getType() + " " + field.getName());
            }
        }
        for (Constructor<?> made : ShortenPrograms.class.getDeclaredConstructors()) {
            face.add(Modifier.toString(made.getModifiers()) + " ShortenPrograms" + types(made.getParameterTypes())
                + thrown(made.getExceptionTypes()));
        }
        for (Method method : ShortenPrograms.class.getDeclaredMethods()) {
            if (isSeen(method.getModifiers())) {
                face.add(Modifier.toString(method.getModifiers()) + " " + method.getReturnType() + " "
                    + method.getName() + types(method.getParameterTypes()) + thrown(method.getExceptionTypes()));
            }
        }
        Checks.due("the face", face.toString(), new TreeSet<>(Arrays.asList(FACE)).toString());
        if (args.length > 0 && Files.exists(Path.of(args[0]))) {
            Checks.due("the face in the document", told(Files.readString(Path.of(args[0]))).toString(), face.toString());
        }
        Checks.due("the class", Modifier.toString(ShortenPrograms.class.getModifiers()), "public final");
        Checks.due("NONE", ShortenPrograms.NONE, -1);
        Checks.end("FaceTest");
    }

    /** The members in the document's code block, in the form that FACE has. */
    private static TreeSet<String> told(String document) {
        TreeSet<String> told = new TreeSet<>();
        for (String line : document.split("\\R")) {
            if (line.startsWith("    public ")) {
                told.add(line.trim().replaceAll("( = .*)?;$", "").replaceAll("int \\w+(?=[,)])", "int")
                    .replace(" throws ", " ").replace("int, ", "int,").replace("Exception, ", "Exception "));
            }
        }
        return told;
    }

    private static boolean isSeen(int modifiers) {
        return !Modifier.isPrivate(modifiers);
    }

    private static String types(Class<?>[] types) {
        StringBuilder text = new StringBuilder("(");
        for (int i = 0; i < types.length; i++) {
            text.append(i == 0 ? "" : ",").append(types[i].getName());
        }
        return text.append(")").toString();
    }

    private static String thrown(Class<?>[] types) {
        StringBuilder text = new StringBuilder();
        for (Class<?> type : types) {
            text.append(" ").append(type.getSimpleName());
        }
        return text.toString();
    }
}
