import java.lang.reflect.Constructor;
import java.lang.reflect.Method;
import java.lang.reflect.Modifier;
import java.util.ArrayList;
import java.util.List;
import java.util.Set;
import java.util.TreeSet;

/** The public face: just what the document's face has, and no call that the machine ends by itself. */
public final class FaceTest {
  private static final String[] FACE = {
    "int token(int,int) IllegalArgumentException IllegalStateException",
    "int three(int,int,int,int,int,int) IllegalArgumentException IllegalStateException",
    "int drop() IllegalStateException",
    "int wipe()",
    "int run()",
    "int fresh()",
    "int knock()",
    "int tokens()",
    "int tokenAt(int,int) IndexOutOfBoundsException IllegalArgumentException",
    "int fault(int) IllegalArgumentException",
    "int items()",
    "int item(int,int) IndexOutOfBoundsException IllegalArgumentException",
    "int name(int,int) IndexOutOfBoundsException IllegalArgumentException",
    "int cost(int) IllegalArgumentException",
    "int done(int) IndexOutOfBoundsException",
    "int state(int) IllegalArgumentException",
    "int matrix(int,int) IndexOutOfBoundsException IllegalArgumentException",
    "int ring(int,int) IndexOutOfBoundsException IllegalArgumentException",
    "int point(int,int,int) IndexOutOfBoundsException IllegalArgumentException",
    "int form(int,int) IndexOutOfBoundsException IllegalArgumentException",
    "boolean has(int,int,int) IndexOutOfBoundsException IllegalArgumentException",
    "int dots(int) IllegalArgumentException",
    "int moved(int,int,int) IllegalArgumentException",
    "int inverse()",
    "int halves(int,int,int,int) IndexOutOfBoundsException IllegalArgumentException",
    "int figures()",
    "int figure(int,int) IndexOutOfBoundsException IllegalArgumentException",
    "int last(int,int) IndexOutOfBoundsException",
    "int dot(int,int) IndexOutOfBoundsException",
    "int row(int,int) IndexOutOfBoundsException",
    "int count(int) IndexOutOfBoundsException",
    "boolean bands(int) IllegalArgumentException",
    "int runs(int) IndexOutOfBoundsException",
    "int runAt(int,int) IndexOutOfBoundsException",
    "int page(int) IllegalArgumentException",
    "int lastDot(int,int) IndexOutOfBoundsException",
    "boolean isSound()",
    "long digest()",
  };
  private static final int[] EXTREMES = {
    Integer.MIN_VALUE, Integer.MIN_VALUE + 1, -100000, -1025, -401, -41, -2, -1, 0, 1, 2, 3, 4, 5, 6, 7, 9, 10, 15, 31, 32,
    33, 40, 41, 52, 53, 120, 400, 1024, 2000, 65536, Integer.MAX_VALUE - 1, Integer.MAX_VALUE
  };
  private static int asked;
  private static int wrong;
  private static long seed = 5;

  private static void yes(String what, boolean is) {
    asked++;
    if (!is) {
      wrong++;
      System.out.println(what);
    }
  }

  private static int below(int n) {
    seed = seed * 6364136223846793005L + 1442695040888963407L;
    return (int) ((seed >>> 33) % n);
  }

  private static String told(Method m) {
    List<String> parameters = new ArrayList<>();
    for (Class<?> p : m.getParameterTypes()) {
      parameters.add(p.getSimpleName());
    }
    StringBuilder s = new StringBuilder();
    s.append(m.getReturnType().getSimpleName()).append(' ').append(m.getName());
    s.append('(').append(String.join(",", parameters)).append(')');
    for (Class<?> e : m.getExceptionTypes()) {
      s.append(' ').append(e.getSimpleName());
    }
    return s.toString();
  }

  private static void faceIsTheDocuments() {
    Class<?> c = Plateroomprinter.class;
    yes("public and final", c.getModifiers() == (Modifier.PUBLIC | Modifier.FINAL));
    yes("no class above it", c.getSuperclass() == Object.class && c.getInterfaces().length == 0);
    Constructor<?>[] constructors = c.getDeclaredConstructors();
    yes("one constructor", constructors.length == 1 && constructors[0].getParameterCount() == 0);
    yes("it is public", Modifier.isPublic(constructors[0].getModifiers()));
    Set<String> due = new TreeSet<>(List.of(FACE));
    Set<String> names = new TreeSet<>();
    Set<String> got = new TreeSet<>();
    for (Method m : c.getDeclaredMethods()) {
      if (Modifier.isPublic(m.getModifiers())) {
        got.add(told(m));
        names.add(m.getName());
        yes("not static: " + m, !Modifier.isStatic(m.getModifiers()));
      }
    }
    yes("the face is " + got, got.equals(due));
    for (Method m : c.getDeclaredMethods()) {
      boolean hidden = Modifier.isPrivate(m.getModifiers()) || m.isSynthetic();
      yes("private: " + m, Modifier.isPublic(m.getModifiers()) || hidden);
      yes("a name of its own: " + m, Modifier.isPublic(m.getModifiers()) || !names.contains(m.getName()));
    }
    for (java.lang.reflect.Field f : c.getDeclaredFields()) {
      yes("private: " + f, Modifier.isPrivate(f.getModifiers()));
    }
    for (Class<?> inside : c.getDeclaredClasses()) {
      yes("static: " + inside, Modifier.isStatic(inside.getModifiers()));
      yes("some twenty fields: " + inside, fieldsOf(inside) <= 20);
      for (Method m : inside.getDeclaredMethods()) {
        yes("a name of its own: " + m, !names.contains(m.getName()));
        yes("at most seven parameters: " + m, m.getParameterCount() <= 7);
      }
    }
    yes("some twelve classes", c.getDeclaredClasses().length < 12);
    yes("some twenty fields", fieldsOf(c) <= 20);
  }

  private static int fieldsOf(Class<?> c) {
    int many = 0;
    for (java.lang.reflect.Field f : c.getDeclaredFields()) {
      many += Modifier.isStatic(f.getModifiers()) ? 0 : 1;
    }
    return many;
  }

  /** Whatever is asked, only what the face tells is thrown; an object may also be used far too long. */
  private static void nothingElseIsThrown() throws Exception {
    List<Method> calls = new ArrayList<>();
    for (Method m : Plateroomprinter.class.getDeclaredMethods()) {
      if (Modifier.isPublic(m.getModifiers())) {
        calls.add(m);
      }
    }
    calls.sort((a, b) -> a.getName().compareTo(b.getName()));
    for (int k = 0; k < 200; k++) {
      callSomething(new Plateroomprinter(), calls, 512);
    }
    callSomething(new Plateroomprinter(), calls, 20000);
  }

  private static void callSomething(Plateroomprinter x, List<Method> calls, int many) throws Exception {
    for (int k = 0; k < many; k++) {
      int choice = below(100);
      if (choice < 55) {
        writeSomething(x);
      } else if (choice < 60) {
        x.run();
      } else if (choice < 63) {
        x.wipe();
      } else {
        Method m = calls.get(below(calls.size()));
        boolean dear = m.getName().equals("digest") || m.getName().equals("isSound");
        if (!m.getName().equals("fresh") || below(20) == 0) {
          if (!dear || below(10) == 0) {
            ask(x, m);
          }
        }
      }
    }
    yes("sound at last", x.isSound());
  }

  private static void writeSomething(Plateroomprinter x) {
    try {
      int choice = below(10);
      if (choice < 4) {
        x.token(0, below(3) == 0 ? below(19999) - 9999 : below(20));
      } else if (choice < 8) {
        x.token(1, below(53));
      } else if (choice == 8) {
        x.token(below(2) == 0 ? 4 : 5, 0);
      } else {
        x.token(2 + below(2), below(10));
      }
    } catch (IllegalStateException e) {
      x.wipe();
    }
  }

  private static void ask(Plateroomprinter x, Method m) throws Exception {
    Object[] arguments = new Object[m.getParameterCount()];
    for (int k = 0; k < arguments.length; k++) {
      arguments[k] = below(3) == 0 ? EXTREMES[below(EXTREMES.length)] : below(8) - 1;
    }
    try {
      m.invoke(x, arguments);
      asked++;
    } catch (java.lang.reflect.InvocationTargetException e) {
      Class<?> thrown = e.getCause().getClass();
      boolean told = false;
      for (Class<?> may : m.getExceptionTypes()) {
        told |= may == thrown;
      }
      yes(m.getName() + " throws " + thrown, told);
    }
  }

  public static void main(String[] args) throws Exception {
    faceIsTheDocuments();
    nothingElseIsThrown();
    System.out.println(asked + " answers asked, " + wrong + " wrong");
    if (wrong != 0) {
      System.exit(1);
    }
  }
}
