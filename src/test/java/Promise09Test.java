/** Promise 9: letter. */
public final class Promise09Test {
  private static final int NONE = RedoMachine.NONE;
  private static final int[] NEVER = {-1, -2, 1000, 1001, Integer.MIN_VALUE, Integer.MAX_VALUE};

  public static void main(String[] args) {
    Sentences.testAll(Promise09Test.class);
  }

  @Sentence(of = "Promise 9", says = "Character i of OUT")
  static void characters(Check check) {
    Term term = Term.cell(31, Term.number(-102), Term.cell(4), Term.number(56789));
    Bench b = Bench.solutionOf(term);
    check.due("tell", b.tell(0), term.text().length());
    for (int i = term.text().length() - 1; i >= 0; i--) {
      check.due("letter " + i, b.letter(i), term.text().charAt(i));
    }
  }

  @Sentence(of = "Promise 9", says = "NONE when there is none", where = "OUT is empty")
  static void noneInEmptyOut(Check check) {
    for (int state = NONE; state <= 6; state++) {
      Bench b = Bench.inState(state);
      check.due("letter 0 in STATE " + state, b.letter(0), NONE);
      for (int i : NEVER) check.due("letter " + i, b.letter(i), NONE);
    }
  }

  @Sentence(of = "Promise 9", says = "NONE when there is none", where = "ahead of OUT or behind it")
  static void noneOutside(Check check) {
    Bench b = Bench.solutionOf(Term.number(-7));
    check.due("tell", b.tell(0), 2);
    check.due("letter 0", b.letter(0), '-');
    check.due("letter 1", b.letter(1), '7');
    check.due("letter 2", b.letter(2), NONE);
    for (int i : NEVER) check.due("letter " + i, b.letter(i), NONE);
  }

  @Sentence(of = "Promise 9", says = "NONE when there is none", where = "behind the 1000th")
  static void noneBehindThousand(Check check) {
    Bench b = Bench.solutionOf(Term.ofLength(1500));
    check.due("tell", b.tell(0), 1000);
    check.due("letter 999", b.letter(999), Term.ofLength(1500).text().charAt(999));
    for (int i : NEVER) check.due("letter " + i, b.letter(i), NONE);
  }

  @Sentence(of = "Promise 9", says = "NONE when there is none", where = "behind a shorter OUT")
  static void noneOfALongerOutBefore(Check check) {
    Bench b = Bench.solutionOf(Term.ofLength(50));
    check.due("tell the long one", b.tell(0), 50);
    check.due("tell the short one", b.tell(1), 1);
    check.due("letter 0", b.letter(0), '6');
    for (int i : new int[] {1, 2, 49, 50}) check.due("letter " + i, b.letter(i), NONE);
  }
}
