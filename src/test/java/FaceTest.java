import java.lang.reflect.Constructor;
import java.lang.reflect.Field;
import java.lang.reflect.Method;
import java.lang.reflect.Modifier;
import java.util.Arrays;
import java.util.Set;
import java.util.TreeSet;

/** The class has the document's public face and nothing else that can be seen from outside. */
public final class FaceTest {
  private static final String[] FACE = {
    "public static final int CheckCodes.NONE",
    "public CheckCodes(int,int)",
    "public int CheckCodes.size(int)",
    "public int CheckCodes.column(int) throws java.lang.IndexOutOfBoundsException,java.lang.UnsupportedOperationException",
    "public boolean CheckCodes.address(int) throws java.lang.UnsupportedOperationException",
    "public boolean CheckCodes.plain()",
    "public int CheckCodes.check(long)",
    "public int CheckCodes.read(long,int) throws java.lang.IllegalArgumentException",
    "public long CheckCodes.word()",
    "public int CheckCodes.checkRead()",
    "public int CheckCodes.turned()",
    "public int CheckCodes.flips(int,int) throws java.lang.IndexOutOfBoundsException",
    "public int CheckCodes.table(int) throws java.lang.IndexOutOfBoundsException",
    "public boolean CheckCodes.bursts(int) throws java.lang.IllegalArgumentException",
    "public int CheckCodes.spare(int) throws java.lang.IndexOutOfBoundsException,java.lang.UnsupportedOperationException",
    "public int CheckCodes.spareOf(int) throws java.lang.IndexOutOfBoundsException",
    "public int CheckCodes.share(int) throws java.lang.IndexOutOfBoundsException",
  };

  private static int wrong = 0;

  private static void due(boolean holds, String what) {
    if (!holds) {
      wrong++;
      System.out.println(what);
    }
  }

  public static void main(String[] args) {
    Set<String> seen = new TreeSet<>();
    Set<String> publicNames = new TreeSet<>();
    for (Field f : CheckCodes.class.getDeclaredFields()) {
      if (!Modifier.isPrivate(f.getModifiers())) {
        seen.add(f.toString());
      }
    }
    for (Constructor<?> c : CheckCodes.class.getDeclaredConstructors()) {
      if (!Modifier.isPrivate(c.getModifiers())) {
        seen.add(c.toString());
      }
    }
    for (Method m : CheckCodes.class.getDeclaredMethods()) {
      if (!Modifier.isPrivate(m.getModifiers())) {
        seen.add(m.toString());
        publicNames.add(m.getName());
      }
    }
    Set<String> asked = new TreeSet<>(Arrays.asList(FACE));
    for (String s : asked) {
      due(seen.contains(s), "missing: " + s);
    }
    for (String s : seen) {
      due(asked.contains(s), "not in the document: " + s);
    }
    for (Method m : CheckCodes.class.getDeclaredMethods()) {
      due(!Modifier.isPrivate(m.getModifiers()) || !publicNames.contains(m.getName()),
          "a private method bears a public name: " + m);
    }
    for (Class<?> inside : CheckCodes.class.getDeclaredClasses()) {
      due(Modifier.isStatic(inside.getModifiers()), "not static: " + inside);
      due(!Modifier.isPublic(inside.getModifiers()), "public: " + inside);
    }
    due(Modifier.isFinal(CheckCodes.class.getModifiers()), "the class is not final");
    due(Modifier.isPublic(CheckCodes.class.getModifiers()), "the class is not public");
    due(CheckCodes.NONE == -1, "NONE is not -1");
    System.out.println(wrong == 0 ? "the face is as due" : wrong + " faults in the face");
    if (wrong != 0) {
      System.exit(1);
    }
  }
}
