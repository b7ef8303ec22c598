import java.io.IOException;
import java.lang.reflect.Constructor;
import java.lang.reflect.Field;
import java.lang.reflect.Method;
import java.lang.reflect.Modifier;
import java.nio.file.Files;
import java.nio.file.Path;
import java.util.Set;
import java.util.TreeSet;
import java.util.regex.Matcher;
import java.util.regex.Pattern;

/** The public face of the document, and rules of LANGUAGE.md that can be seen from outside. */
public final class FaceTest {
    private static final String FACE = "anchor(int,int)int anchorOf(int,int)int ship(int,int)int of(int,int)int set(int,int,int)int "
            + "hang(int,int)int turn(int,int)int as(int,int)int odds(int,int)int hour(int)int hours(int,int)int adrift()int lost()int "
            + "now(int)int would(int)int holds()int when(int)int who(int)int sure()int free()int ahead(int)int place(int,int)int "
            + "best(int)int cut(int)int canCut(int,int)int matters()int bears(int,int)int weakest(int)int kind(int)int stronger()int "
            + "feed(int,int)int wipe()int text()int sheet(int,int,int)int write(int,int,long)long copy(int,int,int,int,int)int "
            + "lays(int)int dawn(int)int read(int)int image()int undo()int tear()int count(int)int status(int)int";

    public static void main(String[] args) throws IOException {
        members();
        classesInside();
        source(Files.readString(Path.of(args.length > 0 ? args[0] : "src/main/java/AnchorString.java")));
        Due.end();
    }

    private static String signature(Method m) {
        StringBuilder b = new StringBuilder(m.getName()).append('(');
        for (Class<?> c : m.getParameterTypes()) {
            b.append(b.charAt(b.length() - 1) == '(' ? "" : ",").append(c.getSimpleName());
        }
        return b.append(')').append(m.getReturnType().getSimpleName()).toString();
    }

    private static void members() {
        int wanted = Modifier.PUBLIC | Modifier.FINAL;
        Due.due("rule 1 the class is public and final", AnchorString.class.getModifiers() & wanted, wanted);
        Due.same("rule 1 it is without a package", AnchorString.class.getPackageName(), "");
        Set<String> face = new TreeSet<>(Set.of(FACE.split(" ")));
        Set<String> seen = new TreeSet<>();
        for (Method m : AnchorString.class.getDeclaredMethods()) {
            if (!Modifier.isPrivate(m.getModifiers()) && !m.isSynthetic()) {
                seen.add(signature(m));
                Due.due("rule 1 " + m, m.getModifiers(), Modifier.PUBLIC);
            }
        }
        Due.same("rule 1 methods", seen.toString(), face.toString());
        Constructor<?>[] made = AnchorString.class.getDeclaredConstructors();
        Due.due("rule 1 one constructor", made.length, 1);
        Due.due("rule 1 public, of nothing", made[0].getParameterCount() + made[0].getModifiers(), Modifier.PUBLIC);
        for (Field f : AnchorString.class.getDeclaredFields()) {
            Due.due("rule 1 " + f, Modifier.isPrivate(f.getModifiers()) ? 1 : 0, 1);
        }
    }

    private static void classesInside() {
        Class<?>[] inside = AnchorString.class.getDeclaredClasses();
        Due.due("rule 11 at most twelve classes", inside.length < 12 ? 1 : 0, 1);
        look(AnchorString.class);
        for (Class<?> c : inside) {
            Due.due("rule 2 " + c, Modifier.isStatic(c.getModifiers()) ? 1 : 0, 1);
            look(c);
        }
    }

    private static void look(Class<?> c) {
        int fields = 0;
        for (Field f : c.getDeclaredFields()) {
            if (Modifier.isStatic(f.getModifiers())) {
                Due.due("rule 5 " + f, Modifier.isFinal(f.getModifiers()) ? 1 : 0, 1);
            } else {
                fields++;
            }
        }
        Due.due("rule 11 fields of " + c, fields <= 20 ? 1 : 0, 1);
        for (Method m : c.getDeclaredMethods()) {
            Due.due("rule 11 " + m, m.getParameterCount() <= 7 ? 1 : 0, 1);
            boolean isFace = c == AnchorString.class && Modifier.isPublic(m.getModifiers());
            Due.due("rule 1 the name of " + m, !isFace && (" " + FACE).contains(" " + m.getName() + "(") ? 1 : 0, 0);
        }
    }

    private static void source(String text) {
        String code = text.replaceAll("(?s)/\\*.*?\\*/", " ").replaceAll("//[^\n]*", " ")
                .replaceAll("\"[^\"\n]*\"", "\"\"").replaceAll("'.'", "' '");
        String banned = "throw|throws|try|catch|finally|synchronized|assert|Object|System\\.(?!arraycopy)\\w+|hashCode|toString"
                + "|Thread|Random|Exact|Float|Double|var|->|::|@\\w+";
        Matcher m = Pattern.compile("(?<!\\w)(" + banned + ")(?!\\w)").matcher(code);
        while (m.find()) {
            Due.same("rule 6 no such word", m.group(), "");
        }
        m = Pattern.compile("import ([\\w.*]+)").matcher(code);
        while (m.find()) {
            Due.same("rule 4 imports", m.group(1), "java.util.Arrays");
        }
        m = Pattern.compile("new (\\w+)").matcher(code);
        while (m.find()) {
            Due.due("rule 3 new " + m.group(1), "int long Roadstead Tape Teller Sheet".contains(m.group(1)) ? 1 : 0, 1);
        }
        int made = code.substring(code.indexOf("public AnchorString()"), code.indexOf("private static final class Roadstead"))
                .split("new ").length - 1;
        Due.due("rule 12 calls make nothing, the constructor the sheets alone", made, 1);
    }
}
