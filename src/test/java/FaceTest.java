import java.io.IOException;
import java.lang.reflect.Constructor;
import java.lang.reflect.Field;
import java.lang.reflect.Method;
import java.lang.reflect.Modifier;
import java.nio.file.Files;
import java.nio.file.Path;
import java.util.Set;
import java.util.TreeSet;

/** The public face, and rules of LANGUAGE.md that can be read off the class and its source. */
public final class FaceTest {
  private static final Path SOURCE = Path.of("src/main/java/MeridianSeries.java");

  private static final String INDEX = " throws IndexOutOfBoundsException";
  private static final String ARGUMENT = " throws IllegalArgumentException";
  private static final String INDEX_ARGUMENT = INDEX + ",IllegalArgumentException";
  private static final String ARGUMENT_STATE = ARGUMENT + ",IllegalStateException";

  private static final String[] FACE = {
    "int addRule(int,int,int,int,boolean,int,int)" + INDEX_ARGUMENT + ",IllegalStateException",
    "int addSeries(int,int)" + ARGUMENT_STATE, "int ask(int,int)" + INDEX_ARGUMENT,
    "int bits(int,int)" + INDEX, "int bitsWith(int,int,int)" + INDEX_ARGUMENT,
    "int blocks(int)" + INDEX, "int buckets(int,boolean)" + INDEX, "long digest()",
    "int event(int,int)" + INDEX_ARGUMENT, "int events()", "int firesIn(int)" + ARGUMENT,
    "int gaps(int,int)" + INDEX_ARGUMENT, "int goOn(int)" + ARGUMENT, "int inRow(int)" + INDEX,
    "int items(int)" + INDEX, "int lastAt(int,int)" + INDEX_ARGUMENT, "int late()", "int now()",
    "int ofBucket(int,boolean,int,int)" + INDEX_ARGUMENT,
    "int over(boolean,int,int,int)" + ARGUMENT, "int point(int,int,int,boolean)" + INDEX,
    "int put(int,int,int)" + INDEX_ARGUMENT,
    "int putRow(int,int,int,int,int,int)" + INDEX_ARGUMENT, "double ratio()",
    "int seenBy(int)" + INDEX, "int series()", "int setKeep(int,int)" + ARGUMENT,
    "int setQuery(int,int,int,int)" + ARGUMENT, "int setSpan(int)" + ARGUMENT,
    "int setWidths(int,int)" + ARGUMENT_STATE, "int size(int,int)" + INDEX,
    "int stateOf(int)" + INDEX, "int word(int,int,int)" + INDEX, "int wouldRoll(int)" + ARGUMENT
  };

  private static final String[] NOT_ALLOWED = {
    "->", "::", "@", "catch", "finally", "null", "static {", "synchronized", "assert", "while (",
    "System.", "hashCode", "toString", "equals", "getClass", "Exact(", "import java.io", "protected"
  };

  private static int wrong = 0;

  public static void main(String[] args) throws IOException {
    face();
    nestedClasses();
    source();
    System.out.println(wrong == 0 ? "face: as the document has it" : "face: " + wrong + " wrong");
    if (wrong != 0) {
      System.exit(1);
    }
  }

  private static void need(boolean isGood, String what) {
    if (!isGood) {
      wrong++;
      System.out.println(what);
    }
  }

  private static String textOf(Method method) {
    String called = method.getName() + "(" + namesOf(method.getParameterTypes()) + ")";
    String thrown = namesOf(method.getExceptionTypes());
    String face = method.getReturnType().getSimpleName() + " " + called;
    return thrown.isEmpty() ? face : face + " throws " + thrown;
  }

  private static String namesOf(Class<?>[] types) {
    StringBuilder text = new StringBuilder();
    for (Class<?> type : types) {
      text.append(text.length() == 0 ? "" : ",").append(type.getSimpleName());
    }
    return text.toString();
  }

  private static void face() {
    int modifiers = MeridianSeries.class.getModifiers();
    need(Modifier.isPublic(modifiers) && Modifier.isFinal(modifiers), "the class is not public and final");
    Set<String> found = new TreeSet<>();
    Set<String> names = new TreeSet<>();
    for (Method method : MeridianSeries.class.getDeclaredMethods()) {
      if (Modifier.isPublic(method.getModifiers())) {
        found.add(textOf(method));
        names.add(method.getName());
      } else {
        need(Modifier.isPrivate(method.getModifiers()), method + " is not private");
      }
    }
    need(found.equals(new TreeSet<>(Set.of(FACE))), "the face is " + found);
    for (Method method : MeridianSeries.class.getDeclaredMethods()) {
      boolean isPrivate = Modifier.isPrivate(method.getModifiers());
      need(!isPrivate || !names.contains(method.getName()), method + " bears a public one's name");
    }
    for (Field field : MeridianSeries.class.getDeclaredFields()) {
      need(Modifier.isPrivate(field.getModifiers()), field + " is not private");
      checkStatic(field);
    }
    Constructor<?>[] constructors = MeridianSeries.class.getDeclaredConstructors();
    need(constructors.length == 1 && constructors[0].getParameterCount() == 0, "constructors");
  }

  private static void checkStatic(Field field) {
    if (Modifier.isStatic(field.getModifiers())) {
      boolean isPlain = field.getType().isPrimitive() || field.getType() == String.class;
      need(Modifier.isFinal(field.getModifiers()) && isPlain, field + " is static state");
    }
  }

  private static void nestedClasses() {
    Class<?>[] nested = MeridianSeries.class.getDeclaredClasses();
    need(nested.length <= 12, "too many classes");
    for (Class<?> one : nested) {
      need(Modifier.isStatic(one.getModifiers()), one + " is not static");
      need(!Modifier.isPublic(one.getModifiers()), one + " is public");
      for (Field field : one.getDeclaredFields()) {
        checkStatic(field);
      }
      for (Method method : one.getDeclaredMethods()) {
        need(method.getParameterCount() <= 7, method + " has too many parameters");
      }
      for (Constructor<?> constructor : one.getDeclaredConstructors()) {
        need(constructor.getParameterCount() <= 7, constructor + " has too many parameters");
      }
    }
  }

  private static void source() throws IOException {
    String text = Files.readString(SOURCE);
    for (String word : NOT_ALLOWED) {
      need(!text.contains(word), "the source has " + word);
    }
    for (char sign : text.toCharArray()) {
      need(sign < 128, "the source has the sign " + sign);
    }
    for (String line : text.split("\n")) {
      boolean isAllowed = line.equals("import java.util.ArrayList;") || line.equals("import java.util.Arrays;");
      need(!line.startsWith("import") || isAllowed, line);
      need(!line.startsWith("package"), line);
    }
  }
}
