import java.lang.reflect.Constructor;
import java.lang.reflect.Field;
import java.lang.reflect.Method;
import java.lang.reflect.Modifier;
import java.util.Set;
import java.util.TreeSet;

/** The public face of the document, and rule 1 of LANGUAGE.md. */
public final class FaceTest {
    private static final String FACE = "anchor(int,int)int anchorOf(int,int)int ship(int,int)int of(int,int)int set(int,int,int)int "
            + "hang(int,int)int turn(int,int)int as(int,int)int odds(int,int)int hour(int)int hours(int,int)int adrift()int lost()int "
            + "now(int)int would(int)int holds()int when(int)int who(int)int sure()int free()int ahead(int)int place(int,int)int "
            + "best(int)int cut(int)int canCut(int,int)int matters()int bears(int,int)int weakest(int)int kind(int)int stronger()int "
            + "feed(int,int)int wipe()int text()int sheet(int,int,int)int write(int,int,long)long copy(int,int,int,int,int)int "
            + "lays(int)int dawn(int)int read(int)int image()int undo()int tear()int count(int)int status(int)int";

    public static void main(String[] args) {
        members();
        classesInside();
        Due.end();
    }

    private static String signature(Method m) {
        StringBuilder b = new StringBuilder(m.getName()).append('(');
        for (Class<?> c : m.getParameterTypes()) {
            b.append(b.charAt(b.length() - 1) == '(' ? "" : ",").append(c.getSimpleName());
        }
        return b.append(')').append(m.getReturnType().getSimpleName()).toString();
    }

    private static void members() {
        int wanted = Modifier.PUBLIC | Modifier.FINAL;
        Due.due("rule 1 the class is public and final", AnchorString.class.getModifiers() & wanted, wanted);
        Due.same("rule 1 it is without a package", AnchorString.class.getPackageName(), "");
        Set<String> face = new TreeSet<>(Set.of(FACE.split(" ")));
        Set<String> seen = new TreeSet<>();
        for (Method m : AnchorString.class.getDeclaredMethods()) {
            if (!Modifier.isPrivate(m.getModifiers()) && !m.isSynthetic()) {
                seen.add(signature(m));
                Due.due("rule 1 " + m, m.getModifiers(), Modifier.PUBLIC);
            }
        }
        Due.same("rule 1 methods", seen.toString(), face.toString());
        Constructor<?>[] made = AnchorString.class.getDeclaredConstructors();
        Due.due("rule 1 one constructor", made.length, 1);
        Due.due("rule 1 public, of nothing", made[0].getParameterCount() + made[0].getModifiers(), Modifier.PUBLIC);
        for (Field f : AnchorString.class.getDeclaredFields()) {
            Due.due("rule 1 " + f, Modifier.isPrivate(f.getModifiers()) ? 1 : 0, 1);
        }
    }

    private static void classesInside() {
        look(AnchorString.class);
        for (Class<?> c : AnchorString.class.getDeclaredClasses()) {
            Due.due("rule 1 " + c, c.getModifiers() & (Modifier.STATIC | Modifier.PUBLIC | Modifier.PROTECTED), Modifier.STATIC);
            look(c);
        }
    }

    /** "No private method bears the name of a public one." */
    private static void look(Class<?> c) {
        for (Method m : c.getDeclaredMethods()) {
            boolean isFace = c == AnchorString.class && Modifier.isPublic(m.getModifiers());
            Due.due("rule 1 the name of " + m, !isFace && (" " + FACE).contains(" " + m.getName() + "(") ? 1 : 0, 0);
        }
    }
}
