import java.lang.reflect.Constructor;
import java.lang.reflect.Field;
import java.lang.reflect.Member;
import java.lang.reflect.Method;
import java.lang.reflect.Modifier;
import java.util.Arrays;
import java.util.HashSet;
import java.util.Set;
import java.util.TreeSet;

/** The class has the document's public face, and no more than that. */
public final class FaceTest {
  private static final String[] FACE = {
    "int box(int,int) I",
    "int maybe(int,int,boolean) I",
    "int none(int) I",
    "int copy(int,int) I",
    "boolean isThere(int) I",
    "boolean isEmpty(int) I",
    "String number(int) I",
    "int orElse(int,int) I",
    "boolean areAlike(int,int) I",
    "int visit(int) I",
    "int visitElse(int) I",
    "int map(int,int,int) IA",
    "int filter(int,int,int) IA",
    "int bind(int,int) I",
    "int orBox(int,int) I",
    "int orArrow(int,int,int) I",
    "int orAsk(int,int,int) I",
    "int plain(int,int,int) IA",
    "int copyArrow(int,int) I",
    "int then(int,int,int) I",
    "int otherwise(int,int,int) I",
    "int when(int,int,int,int) IA",
    "int mapped(int,int,int,int) IA",
    "int power(int,int,int) IA",
    "int lay(int,int) I",
    "int lift(int) I",
    "String ask(int,int) I",
    "int askInto(int,int,int) I",
    "String trace() ",
    "int traced() ",
    "int parts(int) I",
    "int deep(int) I",
    "String text(int) I",
    "int domain(int,int,int) IA",
    "boolean areSame(int,int,int,int,boolean) IA",
    "boolean isUnit(int,int) I",
    "boolean isJoined(int,int,int,int) I",
    "boolean isMapped(int,int,int,int,int) IA",
    "int house(int) A",
    "int knock() ",
    "boolean isSound() ",
    "long digest() ",
  };

  private static int wrong = 0;

  private static void due(String what, Object got, Object want) {
    if (!want.equals(got)) {
      wrong++;
      System.out.println(what + " is " + got + ", due is " + want);
    }
  }

  private static String face(Method method) {
    StringBuilder out = new StringBuilder();
    out.append(method.getReturnType().getSimpleName()).append(' ').append(method.getName());
    out.append('(');
    String between = "";
    for (Class<?> type : method.getParameterTypes()) {
      out.append(between).append(type.getSimpleName());
      between = ",";
    }
    out.append(") ");
    for (Class<?> type : method.getExceptionTypes()) {
      out.append(type == IndexOutOfBoundsException.class ? "I"
          : type == IllegalArgumentException.class ? "A" : type.getName());
    }
    return out.toString();
  }

  private static boolean isPrivate(Member member) {
    return Modifier.isPrivate(member.getModifiers());
  }

  public static void main(String[] args) {
    Class<?> type = Partarrows.class;
    due("public and final", type.getModifiers(), Modifier.PUBLIC | Modifier.FINAL);

    Set<String> faces = new TreeSet<>();
    Set<String> publicNames = new HashSet<>();
    for (Method method : type.getDeclaredMethods()) {
      if (!isPrivate(method) && !method.isSynthetic()) {
        due(method.getName() + " is public and not static", method.getModifiers(), Modifier.PUBLIC);
        faces.add(face(method));
        publicNames.add(method.getName());
      }
    }
    due("the methods", faces, new TreeSet<>(Arrays.asList(FACE)));

    for (Method method : type.getDeclaredMethods()) {
      due(method.getName() + " is private with a public one's name",
          isPrivate(method) && publicNames.contains(method.getName()), false);
    }
    for (Field field : type.getDeclaredFields()) {
      due("field " + field.getName() + " is private", isPrivate(field), true);
      due("field " + field.getName() + " is static but not final",
          Modifier.isStatic(field.getModifiers()) && !Modifier.isFinal(field.getModifiers()), false);
    }
    Constructor<?>[] constructors = type.getDeclaredConstructors();
    due("constructors", constructors.length, 1);
    due("the constructor is public", constructors[0].getModifiers(), Modifier.PUBLIC);
    due("the constructor's parameters", constructors[0].getParameterCount(), 0);
    for (Class<?> inside : type.getDeclaredClasses()) {
      due(inside.getName() + " is static", Modifier.isStatic(inside.getModifiers()), true);
      due(inside.getName() + " is public or protected",
          Modifier.isPublic(inside.getModifiers()) || Modifier.isProtected(inside.getModifiers()), false);
    }

    System.out.println(wrong == 0 ? "the face is as due" : wrong + " things are not as due");
    if (wrong != 0) System.exit(1);
  }
}
