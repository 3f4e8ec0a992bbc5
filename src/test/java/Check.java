/** Counts and prints answers that are not the ones that are due. */
final class Check {
  private final String about;
  private int looked = 0;
  private int wrong = 0;

  Check(String about) {
    this.about = about;
  }

  void due(String what, long got, long want) {
    looked++;
    if (got != want) {
      wrong++;
      System.out.println(about + ": " + what + " answered " + got + ", due is " + want);
    }
  }

  void due(String what, boolean got, boolean want) {
    due(what, got ? 1 : 0, want ? 1 : 0);
  }

  void due(String what, String got, String want) {
    looked++;
    if (!got.equals(want)) {
      wrong++;
      System.out.println(about + ": " + what + " answered '" + got + "', due is '" + want + "'");
    }
  }

  int looked() {
    return looked;
  }

  int wrong() {
    return wrong;
  }

  void end() {
    System.out.println(about + ": " + looked + " answers looked at, " + wrong + " wrong");
    if (wrong != 0) {
      System.exit(1);
    }
  }
}
