import java.lang.reflect.Constructor;
import java.lang.reflect.Field;
import java.lang.reflect.Method;
import java.lang.reflect.Modifier;
import java.util.Arrays;
import java.util.Set;
import java.util.TreeSet;

/** The public face is the document's, and nothing else is seen from outside (LANGUAGE.md, rules 1, 2, 5, 11). */
public final class FaceTest {
  private static final Check CHECK = new Check("FaceTest");
  private static final String[] FACE = {"int letter(int)", "int program()", "int global(int)", "int sets(int,int)",
      "int run()", "int ended(int)", "int code(int)", "int cache(int,int)", "int thinks(int)", "int with(int,int,int)",
      "int solve(int,int)", "int fewest(int,int)", "int pure()", "int changes()", "int again(int,int)",
      "long likely(int,int)", "long mean(int,int)", "int whatIs(int)", "int row(int)", "int judge()", "int clear()",
      "int lots(int,int,int)", "int image()", "int on()", "int count(int)"};

  public static void main(String[] args) {
    Class<?> c = ClosuresThatBounce.class;
    CHECK.holds("the class is public and final",
        Modifier.isPublic(c.getModifiers()) && Modifier.isFinal(c.getModifiers()));
    Set<String> seen = new TreeSet<>();
    Set<String> names = new TreeSet<>();
    for (Method m : c.getDeclaredMethods()) {
      if (!Modifier.isPrivate(m.getModifiers())) {
        seen.add(spelled(m));
        names.add(m.getName());
        CHECK.holds(m.getName() + " is public", Modifier.isPublic(m.getModifiers()));
      }
    }
    CHECK.holds("the methods are those of the document: " + seen, seen.equals(new TreeSet<>(Arrays.asList(FACE))));
    Constructor<?>[] made = c.getDeclaredConstructors();
    CHECK.holds("one constructor", made.length == 1 && Modifier.isPublic(made[0].getModifiers())
        && made[0].getParameterCount() == 0);
    inside(c, names);
    CHECK.holds("at most twelve classes", c.getDeclaredClasses().length <= 12);
    for (Class<?> inner : c.getDeclaredClasses()) {
      CHECK.holds(inner.getName() + " is static and not public", Modifier.isStatic(inner.getModifiers())
          && !Modifier.isPublic(inner.getModifiers()) && !Modifier.isProtected(inner.getModifiers()));
      inside(inner, names);
    }
    CHECK.finish();
  }

  private static String spelled(Method m) {
    StringBuilder s = new StringBuilder(m.getReturnType() + " " + m.getName() + "(");
    for (Class<?> p : m.getParameterTypes()) {
      s.append(s.charAt(s.length() - 1) == '(' ? "" : ",").append(p);
    }
    return s.append(")").toString();
  }

  private static void inside(Class<?> c, Set<String> publicNames) {
    int fields = 0;
    for (Field f : c.getDeclaredFields()) {
      boolean fixed = Modifier.isStatic(f.getModifiers());
      fields += fixed ? 0 : 1;
      CHECK.holds(f + ": what is static is final", !fixed || Modifier.isFinal(f.getModifiers()));
      CHECK.holds(f + ": is not public", !Modifier.isPublic(f.getModifiers()));
      CHECK.holds(f + ": of the class of the document: private",
          c != ClosuresThatBounce.class || Modifier.isPrivate(f.getModifiers()));
    }
    CHECK.holds(c + " has at most twenty fields", fields <= 20);
    for (Method m : c.getDeclaredMethods()) {
      boolean ofFace = c == ClosuresThatBounce.class && Modifier.isPublic(m.getModifiers());
      CHECK.holds(m + " bears a name of its own", ofFace || !publicNames.contains(m.getName()));
      CHECK.holds(m + " takes at most seven", m.getParameterCount() <= 7);
    }
  }
}
