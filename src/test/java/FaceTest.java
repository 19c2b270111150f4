import java.lang.reflect.Constructor;
import java.lang.reflect.Field;
import java.lang.reflect.Method;
import java.lang.reflect.Modifier;
import java.util.Arrays;
import java.util.Set;
import java.util.TreeSet;

/** The class has the document's face, and nothing else that can be seen from outside. */
public final class FaceTest {
  private static final Checks CHECKS = new Checks();
  private static final String INDEX = " IndexOutOfBoundsException";
  private static final String COINS = " IllegalArgumentException";

  public static void main(String[] args) {
    Set<String> due = new TreeSet<>(Arrays.asList(
        "int come() IllegalStateException",
        "int bid(int, int, int)" + INDEX + COINS,
        "int rent(int)" + COINS,
        "int leave(int)" + INDEX,
        "int told(int, int)" + INDEX,
        "int offer(int, int)" + INDEX,
        "int count(int)" + INDEX,
        "boolean envies(int, int)" + INDEX,
        "int gap(int, int)" + INDEX,
        "int chain()",
        "int would(int, int, int)" + INDEX + COINS,
        "int needs(int, int)" + INDEX,
        "int without(int)" + INDEX,
        "double mean()",
        "long digest()"));
    Set<String> found = new TreeSet<>();
    Set<String> publicNames = new TreeSet<>();
    for (Method method : RentHarmony.class.getDeclaredMethods()) {
      if (!Modifier.isPrivate(method.getModifiers())) {
        found.add(written(method));
        publicNames.add(method.getName());
        CHECKS.due(method.getName() + " is public and no more", Modifier.PUBLIC, method.getModifiers());
      }
    }
    CHECKS.due("the methods", due, found);
    for (Method method : RentHarmony.class.getDeclaredMethods()) {
      if (Modifier.isPrivate(method.getModifiers())) {
        CHECKS.due(method.getName() + " bears a public name", false, publicNames.contains(method.getName()));
      }
    }
    for (Field field : RentHarmony.class.getDeclaredFields()) {
      CHECKS.due(field.getName() + " is private", true, Modifier.isPrivate(field.getModifiers()));
    }
    CHECKS.due("the constructors", 1, RentHarmony.class.getDeclaredConstructors().length);
    for (Constructor<?> constructor : RentHarmony.class.getDeclaredConstructors()) {
      CHECKS.due("the constructor", "public RentHarmony()", constructor.toString());
    }
    CHECKS.due("the class", Modifier.PUBLIC | Modifier.FINAL, RentHarmony.class.getModifiers());
    for (Class<?> inside : RentHarmony.class.getDeclaredClasses()) {
      CHECKS.due(inside.getName() + " is static", true, Modifier.isStatic(inside.getModifiers()));
      CHECKS.due(inside.getName() + " is public", false, Modifier.isPublic(inside.getModifiers()));
    }
    CHECKS.end();
  }

  private static String written(Method method) {
    StringBuilder text = new StringBuilder();
    text.append(method.getReturnType().getSimpleName()).append(' ').append(method.getName()).append('(');
    for (Class<?> type : method.getParameterTypes()) {
      text.append(text.charAt(text.length() - 1) == '(' ? "" : ", ").append(type.getSimpleName());
    }
    text.append(')');
    for (Class<?> thrown : method.getExceptionTypes()) {
      text.append(' ').append(thrown.getSimpleName());
    }
    return text.toString();
  }
}
