import java.lang.reflect.Constructor;
import java.lang.reflect.Field;
import java.lang.reflect.Method;
import java.lang.reflect.Modifier;
import java.util.Arrays;
import java.util.TreeSet;

/** The class has the face of the document, and no other member that can be seen. */
public final class FaceTest {
  private static final String I = "IndexOutOfBoundsException";
  private static final String A = "IllegalArgumentException";
  private static final String S = "IllegalStateException";
  private static final String[] METHODS = {
    "int leaf(int,int,int,int,int) " + I + " " + A + " " + S,
    "int sheets(int,int) " + I + " " + A + " " + S,
    "void light(int,int,int) " + I + " " + A,
    "int image(int,int,int,int,int) " + I + " " + A,
    "int unmix(int,int,int,boolean) " + I,
    "int give(int,int,int,int,int,int) " + I + " " + A + " " + S,
    "int type(int) " + A + " " + S,
    "int word() " + S,
    "int work() " + S,
    "int weight(int,int,int) " + I + " " + A,
    "int readings(int,int,int) " + I + " " + A,
    "int letter(int,int,int,int) " + I + " " + A,
    "int fact(int,int,int,boolean) " + I + " " + A + " " + S,
    "boolean hold(int,boolean) " + I,
    "int arrangements(int,boolean) " + I,
    "int places(int,boolean) " + I,
    "int joined(int,int) " + I + " " + A,
    "int hand(int,int,int,int,int) " + I + " " + A,
    "int handOf(int) " + I,
    "int date(int,int) " + I + " " + A + " " + S,
    "int dates(int) " + I,
    "int match(int,int,int,int,boolean) " + I + " " + A,
    "int edition(int,int) " + I,
    "int state(int,int,int,int) " + I + " " + A,
    "int rests(int) " + I,
    "int worth()",
  };
  private static final String[] CONSTANTS = {
    "NONE=-1", "HAIR=0", "FLESH=1", "SHEET=0", "NEXT=1", "AHEAD=2", "AT=3", "APART=4",
    "LOST=0", "BLANK=1", "SURE=2", "READ=3", "RESTORED=4", "DOUBTFUL=5",
  };

  public static void main(String[] args) throws IllegalAccessException {
    Due due = new Due("FaceTest");
    Class<?> face = Undertext.class;
    due.is("public final", "the class's modifiers", () -> Modifier.toString(face.getModifiers()));
    due.is(Object.class, "the class above it", face::getSuperclass);
    TreeSet<String> methods = new TreeSet<>();
    TreeSet<String> hidden = new TreeSet<>();
    for (Method each : face.getDeclaredMethods()) {
      if (Modifier.isPrivate(each.getModifiers())) hidden.add(each.getName());
      else methods.add(told(each));
    }
    due.is(new TreeSet<>(Arrays.asList(METHODS)), "the methods", () -> methods);
    for (String each : METHODS) {
      String name = each.substring(each.indexOf(' ') + 1, each.indexOf('('));
      due.is(false, "a private method named " + name, () -> hidden.contains(name));
    }
    TreeSet<String> constants = new TreeSet<>();
    for (Field each : face.getDeclaredFields()) {
      if (Modifier.isPrivate(each.getModifiers())) continue;
      due.is("public static final int", each.getName(), () -> Modifier.toString(each.getModifiers()) + " " + each.getType());
      constants.add(each.getName() + "=" + each.getInt(null));
    }
    due.is(new TreeSet<>(Arrays.asList(CONSTANTS)), "the constants", () -> constants);
    Constructor<?>[] constructors = face.getDeclaredConstructors();
    due.is("[public Undertext()]", "the constructors", () -> Arrays.toString(constructors));
    for (Class<?> each : face.getDeclaredClasses()) {
      int modifiers = each.getModifiers();
      due.is(true, each + " is static and hidden", () -> Modifier.isStatic(modifiers)
          && !Modifier.isPublic(modifiers) && !Modifier.isProtected(modifiers));
    }
    due.end();
  }

  private static String told(Method method) {
    StringBuilder text = new StringBuilder(method.getReturnType().toString());
    text.append(' ').append(method.getName()).append('(');
    String comma = "";
    for (Class<?> each : method.getParameterTypes()) {
      text.append(comma).append(each);
      comma = ",";
    }
    text.append(')');
    for (Class<?> each : method.getExceptionTypes()) text.append(' ').append(each.getSimpleName());
    if (!Modifier.isPublic(method.getModifiers())) text.append(" not public");
    if (Modifier.isStatic(method.getModifiers())) text.append(" static");
    return text.toString();
  }
}
