import java.io.IOException;
import java.lang.reflect.Method;
import java.lang.reflect.Modifier;
import java.nio.file.Files;
import java.nio.file.Path;
import java.util.List;
import java.util.Set;
import java.util.TreeSet;
import java.util.regex.Pattern;

/**
 * README.md names every part of the face, and each line of its examples stands in example() below,
 * where it is compiled and run. Run from the project's directory, as .ci/run does.
 */
public final class ReadmeTest {
  private static final Path README = Path.of("README.md");
  private static final Path THIS_TEST = Path.of("src", "test", "java", "ReadmeTest.java");

  private static int wrong = 0;

  private static void due(boolean holds, String what) {
    if (!holds) {
      wrong++;
      System.out.println(what);
    }
  }

  private static void due(String what, Object got, Object want) {
    due(got.equals(want), what + " is " + got + ", README says " + want);
  }

  public static void main(String[] args) throws IOException {
    example();
    List<String> lines = Files.readAllLines(README);
    everyExampleLineIsRun(lines, Files.readAllLines(THIS_TEST));
    everyMemberIsNamed(String.join("\n", lines));
    System.out.println(wrong == 0 ? "README.md holds" : wrong + " faults in README.md");
    if (wrong != 0) {
      System.exit(1);
    }
  }

  private static void example() {
    CheckCodes codes = new CheckCodes(32, 0);       // words of 32 bits, kind 0: sums
    int check = codes.check(305419896L);            // store it beside the word
    int answer = codes.read(305419897L, check);     // 1: one flip, mended
    long word = codes.word();                       // 305419896 again
    int turned = codes.turned();                    // 1 bit was turned
    int told = codes.read(305419899L, check);       // 2: two flips, told; nothing is turned
    due("answer", answer, 1);
    due("word", word, 305419896L);
    due("turned", turned, 1);
    due("told", told, 2);
    due("turned behind told", codes.turned(), 0);

    boolean wasOne = codes.address(3);              // false: no address was folded in
    int atThree = codes.check(305419896L);          // the word's check at address 3
    int there = codes.read(305419896L, atThree);    // 0: good
    codes.address(0);                               // from now on another one
    int elsewhere = codes.read(305419896L, atThree); // 2: told
    codes.plain();                                  // none from now on
    due("wasOne", wasOne, false);
    due("there", there, 0);
    due("elsewhere", elsewhere, 2);
    due("check behind plain", codes.check(305419896L), check);

    int one = codes.flips(5, 5);                    // 1: a single flip is mended
    int two = codes.flips(5, 6);                    // 2: a pair is told
    int singles = codes.table(1);                   // 39: all single flips are mended
    int pairs = codes.table(6);                     // 741: all pairs are told
    boolean bursts = codes.bursts(2);               // false: two flips side by side are not mended
    int spare = codes.spare(4711);                  // 0: the lowest that is free
    int none = codes.spareOf(4712);                 // -1: CheckCodes.NONE
    due("one", one, 1);
    due("two", two, 2);
    due("singles", singles, 39);
    due("pairs", pairs, 741);
    due("bursts", bursts, false);
    due("spare", spare, 0);
    due("none", none, CheckCodes.NONE);
  }

  private static void everyExampleLineIsRun(List<String> readme, List<String> test) {
    Set<String> run = new TreeSet<>();
    for (String line : test) {
      run.add(line.trim());
    }
    boolean inExample = false;
    int count = 0;
    for (String line : readme) {
      if (line.startsWith("```")) {
        inExample = line.equals("```java");
      } else if (inExample) {
        count++;
        due(run.contains(line.trim()), "an example's line is not run: " + line);
      }
    }
    due(count > 0, "README.md has no example");
  }

  /** By return type, name and types of parameters; how a parameter is called is free. */
  private static void everyMemberIsNamed(String readme) {
    due(readme.contains("`NONE = " + CheckCodes.NONE + "`"), "not named: NONE");
    due(readme.contains("`CheckCodes(int bits, int kind)`"), "not named: the constructor");
    for (Method m : CheckCodes.class.getDeclaredMethods()) {
      if (Modifier.isPublic(m.getModifiers())) {
        due(signature(m).matcher(readme).find(), "not named: " + m);
      }
    }
  }

  private static Pattern signature(Method m) {
    StringBuilder text = new StringBuilder("`" + m.getReturnType() + "\\s" + m.getName() + "\\(");
    String between = "";
    for (Class<?> type : m.getParameterTypes()) {
      text.append(between).append(type).append("\\s\\w+");
      between = ",\\s";
    }
    text.append("\\)");
    String before = "\\s+throws\\s+";
    for (Class<?> thrown : m.getExceptionTypes()) {
      text.append(before).append(thrown.getSimpleName());
      before = ",\\s+";
    }
    return Pattern.compile(text.append("`:").toString());
  }
}
