import java.lang.reflect.Constructor;
import java.lang.reflect.Method;
import java.lang.reflect.Modifier;
import java.util.ArrayList;
import java.util.Collections;
import java.util.HashSet;
import java.util.List;
import java.util.Set;

/** The public face, and that the class shows nothing besides it. */
final class FaceTest {
  private static final String NO_FIELD = " throws IndexOutOfBoundsException";
  private static final String ILLEGAL = " throws IllegalArgumentException";
  private static final String BOTH = " throws IndexOutOfBoundsException,IllegalArgumentException";
  private static final String[] FACE = {
    "int reset(int,int)" + ILLEGAL,
    "int set(int,int,int)" + BOTH,
    "int tilt(int,int,int)" + ILLEGAL,
    "int hill(int,int,int,int)" + BOTH,
    "int dig(int,int,int,int,int)" + BOTH,
    "int smooth()",
    "int wear(int)" + ILLEGAL,
    "int fill()",
    "int setBrook(int)" + ILLEGAL,
    "int map(int)" + ILLEGAL,
    "int height(int,int)" + NO_FIELD,
    "int water(int,int,int)" + BOTH,
    "int basins()",
    "int pits()",
    "int mostRank()",
    "int longestStream()",
    "int level(int,int)" + NO_FIELD,
    "int lakes()",
    "int lake(int,int,int)" + BOTH,
    "int volume()",
    "int contour(int,int)" + ILLEGAL,
    "boolean sees(int,int,int,int,int)" + BOTH,
    "int seen(int,int,int)" + BOTH,
    "int takes(int,int,int,int)" + NO_FIELD,
    "int way(int,int,int,int,int)" + BOTH,
    "double steepness()",
    "int volumeWith(int,int,int)" + BOTH,
    "int endsWith(int,int,int)" + BOTH,
    "int lookout(int,int)" + BOTH,
    "long digest()",
  };

  public static void main(String[] args) {
    Class<?> type = WatershedMap.class;
    Due.is("the class", Modifier.toString(type.getModifiers()), "public final");
    constructors(type);
    methods(type);
    fields(type);
    Due.end();
  }

  private static void constructors(Class<?> type) {
    Constructor<?>[] constructors = type.getDeclaredConstructors();
    Due.is("constructors", constructors.length, 1);
    Due.is("the constructor", constructors[0].toString(), "public WatershedMap()");
  }

  private static void methods(Class<?> type) {
    List<String> shown = new ArrayList<>();
    Set<String> names = new HashSet<>();
    for (Method method : type.getDeclaredMethods()) {
      if (!Modifier.isPrivate(method.getModifiers()) && !method.isSynthetic()) {
        shown.add(told(method));
        names.add(method.getName());
      }
    }
    List<String> due = new ArrayList<>(List.of(FACE));
    due.replaceAll(line -> "public " + line);
    Collections.sort(due);
    Collections.sort(shown);
    Due.is("the methods", shown.toString(), due.toString());
    for (Method method : type.getDeclaredMethods()) {
      boolean hidden = Modifier.isPrivate(method.getModifiers());
      Due.is("a private method named " + method.getName(), hidden && names.contains(method.getName()), false);
    }
  }

  private static String told(Method method) {
    return method.toString().replace("WatershedMap.", "").replace("java.lang.", "");
  }

  private static void fields(Class<?> type) {
    for (java.lang.reflect.Field field : type.getDeclaredFields()) {
      Due.is("private: " + field.getName(), Modifier.isPrivate(field.getModifiers()), true);
    }
    for (Class<?> inside : type.getDeclaredClasses()) {
      Due.is("static: " + inside.getName(), Modifier.isStatic(inside.getModifiers()), true);
    }
  }
}
