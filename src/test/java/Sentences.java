import java.lang.reflect.InvocationTargetException;
import java.lang.reflect.Method;
import java.util.Arrays;
import java.util.Comparator;

/** Runs the tests of a class, each for one sentence of the document. */
final class Sentences {
  private Sentences() {}

  /** Every static method that takes a Check is a test: none can be forgotten. */
  static void testAll(Class<?> tests) {
    Method[] methods = tests.getDeclaredMethods();
    Arrays.sort(methods, Comparator.comparing(Method::getName));
    int run = 0;
    int looked = 0;
    int failed = 0;
    for (Method method : methods) {
      if (!Arrays.equals(method.getParameterTypes(), new Class<?>[] {Check.class})) continue;
      Check check = new Check(nameOf(method));
      boolean ended = runsToItsEnd(method, check);
      if (ended && check.looked() == 0) System.out.println(nameOf(method) + ": looks at nothing");
      if (!ended || check.looked() == 0 || check.wrong() > 0) failed++;
      run++;
      looked += check.looked();
    }
    System.out.println(tests.getName() + ": " + run + " tests, " + looked + " answers looked at, "
        + failed + " tests failed");
    if (run == 0 || failed > 0) System.exit(1);
  }

  private static String nameOf(Method method) {
    Sentence sentence = method.getAnnotation(Sentence.class);
    if (sentence == null) throw new IllegalStateException(method + " is for no sentence");
    String where = sentence.where().isEmpty() ? "" : ", " + sentence.where();
    return method.getName() + " (" + sentence.of() + ": \"" + sentence.says() + "\"" + where + ")";
  }

  private static boolean runsToItsEnd(Method method, Check check) {
    try {
      method.invoke(null, check);
      return true;
    } catch (InvocationTargetException e) {
      System.out.println(nameOf(method) + " broke off: " + e.getCause());
      return false;
    } catch (IllegalAccessException e) {
      throw new IllegalStateException(e);
    }
  }
}
