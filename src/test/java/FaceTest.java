import java.lang.reflect.Constructor;
import java.lang.reflect.Field;
import java.lang.reflect.Method;
import java.lang.reflect.Modifier;
import java.util.Arrays;
import java.util.TreeSet;

/** The public face is the document's and no more; all else of the class is private. */
public final class FaceTest {
  private static final String[] METHODS = {
    "public boolean RedoMachine.put(int)",
    "public int RedoMachine.procedure(boolean,int,int)",
    "public int RedoMachine.add(int,int,int,int,int,int)",
    "public boolean RedoMachine.begin(int,int,int)",
    "public int RedoMachine.run(int)",
    "public int RedoMachine.told(int)",
    "public int RedoMachine.tell(int) throws java.util.NoSuchElementException",
    "public int RedoMachine.letter(int)",
    "public long RedoMachine.slot(int)",
  };

  public static void main(String[] args) {
    Check check = new Check("face");
    TreeSet<String> names = new TreeSet<>();
    TreeSet<String> seen = new TreeSet<>();
    for (Method method : RedoMachine.class.getDeclaredMethods()) {
      if (Modifier.isPublic(method.getModifiers())) {
        seen.add(method.toString());
        names.add(method.getName());
      } else {
        check.due(method + " is private", Modifier.isPrivate(method.getModifiers()), true);
      }
    }
    check.due("methods", seen.toString(), new TreeSet<>(Arrays.asList(METHODS)).toString());
    for (Class<?> inside : RedoMachine.class.getDeclaredClasses()) {
      check.due(inside + " is static", Modifier.isStatic(inside.getModifiers()), true);
      check.due(inside + " is public", Modifier.isPublic(inside.getModifiers()), false);
      for (Method method : inside.getDeclaredMethods()) {
        boolean hidden = Modifier.isPrivate(method.getModifiers());
        boolean bears = names.contains(method.getName());
        check.due(method + " is private and bears a public name", hidden && bears, false);
      }
    }
    for (Field field : RedoMachine.class.getDeclaredFields()) {
      boolean shown = field.getName().equals("NONE");
      check.due(field + " is public", Modifier.isPublic(field.getModifiers()), shown);
      check.due(field + " is private", Modifier.isPrivate(field.getModifiers()), !shown);
    }
    Constructor<?>[] constructors = RedoMachine.class.getDeclaredConstructors();
    check.due("constructors", constructors.length, 1);
    check.due("constructor", constructors[0].toString(), "public RedoMachine()");
    check.due("class", Modifier.toString(RedoMachine.class.getModifiers()), "public final");
    check.due("NONE", RedoMachine.NONE, -1);
    check.end();
  }
}
