/** A VALUE that a program under test is to make, and the text that is due for it. */
final class Term {
  private static final int NUMBER = -1;

  private final int tag;
  private final int number;
  private final Term[] fields;

  private Term(int tag, int number, Term... fields) {
    this.tag = tag;
    this.number = number;
    this.fields = fields;
  }

  static Term number(int n) {
    return new Term(NUMBER, n);
  }

  static Term cell(int tag, Term... fields) {
    return new Term(tag, 0, fields);
  }

  /** One whose text has exactly so many characters. */
  static Term ofLength(int length) {
    if (length <= 10) return number(Integer.parseInt("1".repeat(length)));
    if (length == 11) return number(-1111111111);
    int rest = length - "c0(,,,)".length();
    Term quarter = ofLength(rest / 4);
    return cell(0, quarter, quarter, quarter, ofLength(rest - rest / 4 * 3));
  }

  /** One that takes so many pairs to be looked at, if it is the same. */
  static Term ofPairs(int pairs) {
    if (pairs == 1) return number(77);
    if (pairs % 2 == 0) return cell(1, ofPairs(pairs - 1));
    Term half = ofPairs(pairs / 2);
    return cell(1, half, half);
  }

  String text() {
    if (tag == NUMBER) return String.valueOf(number);
    StringBuilder text = new StringBuilder("c").append(tag);
    for (int i = 0; i < fields.length; i++) {
      text.append(i == 0 ? '(' : ',').append(fields[i].text());
    }
    return text.append(fields.length == 0 ? "" : ")").toString();
  }

  /** Adds to p what makes the slot this one; slots from free on are used for it. */
  void build(Bench b, int p, int slot, int free) {
    if (tag == NUMBER) {
      b.number(p, slot, number);
      return;
    }
    int[] row = new int[fields.length];
    for (int i = 0; i < fields.length; i++) {
      row[i] = free + i;
      for (int j = 0; j < i; j++) if (fields[j] == fields[i]) row[i] = row[j];
      if (row[i] == free + i) fields[i].build(b, p, row[i], free + i + 1);
    }
    b.make(p, slot, tag, row);
  }
}
