import java.lang.reflect.Constructor;
import java.lang.reflect.Field;
import java.lang.reflect.Method;
import java.lang.reflect.Modifier;
import java.util.Arrays;
import java.util.Set;
import java.util.TreeSet;

/** The class shows the document's face and nothing else. */
public final class FaceTest {
    private static final String FACE = "int feed(int,int,int,int,int)|boolean end(int)|int bank()|int fault()|int cell(int,int)"
            + "|int owner(int,int)|int gust(int,int)|int comes(int,int,int,int)|int faces(int,int)|int gains(int,int,int)"
            + "|int blow(int)|int set(int)|int fell(int)|boolean oil(int)|boolean point(int,int)|int undo()|int now(int)"
            + "|int fence(int)|int more()|int has(int,int)|int rests(int)|int oiled()|int oiledAt(int)|int suit(int,int)"
            + "|int worth(int)|int drawn(int,int,int)|int odds(int,int,int)|int richest()|int best(int,int)|int plan()"
            + "|int judge(int)|int judged(int)|int sentence()|int said(int)|boolean image(int)|boolean restore(int)|int count(int)";

    public static void main(String[] args) {
        Calls c = new Calls();
        c.promise("face");
        Class<?> k = GaleBank.class;
        c.due("public and final", k.getModifiers(), Modifier.PUBLIC | Modifier.FINAL);
        c.due("NONE", GaleBank.NONE, -1);

        Set<String> shown = new TreeSet<>();
        Set<String> names = new TreeSet<>();
        for (Method m : k.getDeclaredMethods()) {
            if (!Modifier.isPrivate(m.getModifiers())) {
                StringBuilder s = new StringBuilder(m.getReturnType() + " " + m.getName() + "(");
                for (Class<?> p : m.getParameterTypes()) {
                    s.append(s.charAt(s.length() - 1) == '(' ? "" : ",").append(p);
                }
                shown.add(s + ")");
                names.add(m.getName());
                c.due(m.getName() + " is public", m.getModifiers(), Modifier.PUBLIC);
            }
        }
        c.due("the methods " + shown, shown.equals(new TreeSet<>(Arrays.asList(FACE.split("\\|")))), true);
        for (Method m : k.getDeclaredMethods()) {
            if (Modifier.isPrivate(m.getModifiers())) {
                c.due("a private method named " + m.getName(), names.contains(m.getName()), false);
            }
        }

        for (Field f : k.getDeclaredFields()) {
            if (!Modifier.isPrivate(f.getModifiers())) {
                c.due("a field shown: " + f.getName(), f.getName().equals("NONE"), true);
            }
            if (Modifier.isStatic(f.getModifiers())) {
                c.due("static and final: " + f.getName(), Modifier.isFinal(f.getModifiers()), true);
            }
        }
        Constructor<?>[] makers = k.getDeclaredConstructors();
        c.due("constructors", makers.length, 1);
        c.due("its parameters", makers[0].getParameterCount(), 0);
        c.due("classes inside", k.getDeclaredClasses().length < 12, true);
        for (Class<?> inside : k.getDeclaredClasses()) {
            c.due(inside + " is static", Modifier.isStatic(inside.getModifiers()), true);
            c.due(inside + " is shown", Modifier.isPublic(inside.getModifiers()) || Modifier.isProtected(inside.getModifiers()), false);
        }
        c.finish();
    }
}
