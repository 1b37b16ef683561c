import java.io.IOException;
import java.lang.reflect.Constructor;
import java.lang.reflect.Field;
import java.lang.reflect.Method;
import java.lang.reflect.Modifier;
import java.nio.charset.StandardCharsets;
import java.nio.file.Files;
import java.nio.file.Path;
import java.util.Set;
import java.util.TreeSet;
import java.util.regex.Matcher;
import java.util.regex.Pattern;

/** The document's public face, and the rules of LANGUAGE.md that can be seen in class and source. */
public final class FaceTest {
    private static final Check CHECK = new Check("FaceTest");
    private static final String[] FACE = {
        "int terms(int,int)", "int mast(int,int,int,int,boolean,int)", "int abroad(int,int,int,int,int)",
        "int area(int,int,int,int,int)", "int poor(int)", "int aim(int,int)", "int turn()",
        "int strength(int,int)", "int plan(int,long)", "int weekOf(int)", "int channels()",
        "int channelOf(int)", "int feed(int,int,int,int,int)", "int end(int)", "int law()", "int fault()",
        "int deliver(int)", "int go()", "boolean fail(int,boolean)", "int on(int)", "int picture(int)",
        "int snow(int)", "int hurt(int)", "int blame(int)", "int mastOf(int,int)", "int areaOf(int,int)",
        "int count(int)", "int row(int,int,int)", "boolean tear(int)", "int write(int,int,long)",
        "int paste(int,int,int,int,int)"};

    public static void main(String[] args) throws IOException {
        face();
        classesInside();
        source();
        CHECK.finish();
    }

    private static void face() {
        int modifiers = MastMove.class.getModifiers();
        CHECK.due("the class is public and final", Modifier.isPublic(modifiers) && Modifier.isFinal(modifiers), true);
        CHECK.due("NONE", MastMove.NONE, -1);
        Set<String> due = new TreeSet<>(Set.of(FACE));
        Set<String> names = new TreeSet<>();
        Set<String> seen = new TreeSet<>();
        for (Method method : MastMove.class.getDeclaredMethods()) {
            if (!Modifier.isPrivate(method.getModifiers())) {
                seen.add(signature(method));
                names.add(method.getName());
            }
        }
        CHECK.due("the face " + seen, seen.equals(due), true);
        for (Method method : MastMove.class.getDeclaredMethods()) {
            if (Modifier.isPrivate(method.getModifiers())) {
                CHECK.due("a public name for " + method, names.contains(method.getName()), false);
            }
        }
        for (Field field : MastMove.class.getDeclaredFields()) {
            CHECK.due("only NONE is seen: " + field, Modifier.isPrivate(field.getModifiers()), !field.getName().equals("NONE"));
        }
        Constructor<?>[] constructors = MastMove.class.getDeclaredConstructors();
        CHECK.due("one constructor", constructors.length, 1);
        CHECK.due("it is public", Modifier.isPublic(constructors[0].getModifiers()), true);
        CHECK.due("without parameters", constructors[0].getParameterCount(), 0);
    }

    private static String signature(Method method) {
        StringBuilder text = new StringBuilder(method.getReturnType() + " " + method.getName() + "(");
        for (Class<?> type : method.getParameterTypes()) {
            text.append(text.charAt(text.length() - 1) == '(' ? "" : ",").append(type);
        }
        return text.append(")").toString();
    }

    private static void classesInside() {
        Class<?>[] inside = MastMove.class.getDeclaredClasses();
        CHECK.due("at most twelve classes", inside.length < 12, true);
        for (Class<?> type : inside) {
            CHECK.due(type + " is static", Modifier.isStatic(type.getModifiers()), true);
            int fields = 0;
            for (Field field : type.getDeclaredFields()) {
                boolean isStatic = Modifier.isStatic(field.getModifiers());
                CHECK.due("static and not final: " + field, isStatic && !Modifier.isFinal(field.getModifiers()), false);
                fields += isStatic ? 0 : 1;
            }
            CHECK.due("at most twenty fields in " + type, fields <= 20, true);
        }
    }

    private static void source() throws IOException {
        String source = Files.readString(Path.of("src/main/java/MastMove.java"), StandardCharsets.ISO_8859_1);
        String code = source.replaceAll("(?s)/\\*.*?\\*/", "").replaceAll("//[^\n]*", "");
        Matcher banned = Pattern.compile("\\b(throw|throws|try|catch|synchronized|assert|package|native|volatile|var|Exact)\\b|->|::|Exact\\(").matcher(code);
        CHECK.due("a word that is not allowed: " + (banned.find() ? banned.group() : ""), banned.reset().find(), false);
        Matcher imports = Pattern.compile("(?m)^import .*$").matcher(code);
        while (imports.find()) {
            CHECK.due(imports.group(), imports.group().equals("import java.util.Arrays;"), true);
        }
    }
}
