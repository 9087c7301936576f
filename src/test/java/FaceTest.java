import java.lang.reflect.Constructor;
import java.lang.reflect.Field;
import java.lang.reflect.Method;
import java.lang.reflect.Modifier;
import java.util.Arrays;
import java.util.Set;
import java.util.TreeSet;

/** The face of the class is the document's and no more. */
public final class FaceTest {
  private static final String[] FACE = {
    "void clear()", "int set()", "int point(int, int, int)", "int points(int)", "int kind(int)",
    "int corners(int)", "int corner(int, int)", "int beside(int)", "int area(int)", "int border(int)",
    "int inside(int)", "int grown(int, int)", "int wide(int)", "int width(int)", "int circle(int, int)",
    "int sum(int, int)", "int turned(int)", "int meets(int, int)", "int apart(int, int)",
    "int holds(int, int, int)", "int supports(int, int, int)", "int mixed(int, int)", "int nearest(int)",
    "int within(int, int)", "long first()", "long second()", "int told(int)",
  };
  private static int wrong = 0;

  public static void main(String[] args) {
    expect("the class is public and final",
        Modifier.isPublic(HullSums.class.getModifiers()) && Modifier.isFinal(HullSums.class.getModifiers()));
    looksAtMethods();
    looksAtFields();
    looksAtConstructors();
    for (Class<?> inner : HullSums.class.getDeclaredClasses()) {
      expect(inner + " is static and not public",
          Modifier.isStatic(inner.getModifiers()) && !Modifier.isPublic(inner.getModifiers())
              && !Modifier.isProtected(inner.getModifiers()));
    }
    System.out.println(wrong == 0 ? "the face is as due" : wrong + " things are not as due");
    if (wrong != 0) System.exit(1);
  }

  private static void expect(String what, boolean holds) {
    if (!holds) {
      wrong++;
      System.out.println("not so: " + what);
    }
  }

  private static void looksAtMethods() {
    Set<String> open = new TreeSet<>();
    Set<String> names = new TreeSet<>();
    for (Method m : HullSums.class.getDeclaredMethods()) {
      if (Modifier.isPrivate(m.getModifiers())) continue;
      open.add(told(m));
      names.add(m.getName());
      expect(m + " is public and no static one",
          Modifier.isPublic(m.getModifiers()) && !Modifier.isStatic(m.getModifiers()));
    }
    expect("the open methods are " + Arrays.toString(FACE) + ", not " + open,
        open.equals(new TreeSet<>(Arrays.asList(FACE))));
    for (Method m : HullSums.class.getDeclaredMethods()) {
      expect("no private method is named " + m.getName(),
          !Modifier.isPrivate(m.getModifiers()) || !names.contains(m.getName()));
    }
  }

  private static String told(Method m) {
    StringBuilder s = new StringBuilder();
    for (Class<?> c : m.getParameterTypes()) s.append(s.length() == 0 ? "" : ", ").append(c.getName());
    return m.getReturnType().getName() + " " + m.getName() + "(" + s + ")";
  }

  private static void looksAtFields() {
    for (Field f : HullSums.class.getDeclaredFields()) {
      expect(f + " is private", Modifier.isPrivate(f.getModifiers()));
      expect(f + " is final, being static",
          !Modifier.isStatic(f.getModifiers()) || Modifier.isFinal(f.getModifiers()));
    }
  }

  private static void looksAtConstructors() {
    Constructor<?>[] all = HullSums.class.getDeclaredConstructors();
    expect("one public constructor without parameters", all.length == 1
        && Modifier.isPublic(all[0].getModifiers()) && all[0].getParameterCount() == 0);
  }
}
