/**
 * Words of the machine by name, and the tally of answers that are not as due, each told with the
 * sentence of the document that asks for it, where a test names one.
 */
final class Asm {
  static final int ANY = 0;
  static final int INT = 1;
  static final int POINTER = 2;
  static final int MIN = Integer.MIN_VALUE;
  static final int MAX = Integer.MAX_VALUE;
  private static int wrong = 0;
  private static int asked = 0;
  private static int sentences = 0;
  private static int askedAhead = 0;
  private static String sentence = "";

  private Asm() {
  }

  /** Names what the answers from here on are due by: where it stands in the document, and its words. */
  static void sentence(String where, String words) {
    endSentence();
    sentences++;
    askedAhead = asked;
    sentence = where + ", '" + words + "': ";
  }

  /** A sentence by which nothing was asked has no test. */
  private static void endSentence() {
    if (sentences > 0 && asked == askedAhead) {
      tell("nothing was asked");
    }
  }

  private static void tell(String what) {
    wrong++;
    System.out.println(sentence + what);
  }

  interface Call {
    long answer();
  }

  static void due(String what, long got, long want) {
    asked++;
    if (got != want) {
      tell(what + " answered " + got + ", due is " + want);
    }
  }

  static void due(String what, boolean got, boolean want) {
    due(what, got ? 1 : 0, want ? 1 : 0);
  }

  static void dueThrow(String what, Class<?> want, Call call) {
    asked++;
    String got = "no exception";
    try {
      call.answer();
    } catch (RuntimeException e) {
      got = e.getClass().getName();
    }
    if (!got.equals(want.getName())) {
      tell(what + " threw " + got + ", due is " + want.getName());
    }
  }

  static void end(String name) {
    endSentence();
    String by = sentences == 0 ? "" : " by " + sentences + " sentences";
    System.out.println(name + ": " + asked + " answers" + by + ", " + wrong + " not as due");
    if (wrong != 0) {
      System.exit(1);
    }
  }

  static int word(int op, int d, int a, int n) {
    return op << 24 | d << 20 | a << 16 | n & 0xFFFF;
  }

  static int exit(int a) { return word(0, 0, a, 0); }
  static int yieldTurn() { return word(1, 0, 0, 0); }
  static int set(int d, int s) { return word(2, d, 0, s); }
  static int move(int d, int a) { return word(3, d, a, 0); }
  static int add(int d, int a, int b) { return word(4, d, a, b << 12); }
  static int sub(int d, int a, int b) { return word(5, d, a, b << 12); }
  static int mul(int d, int a, int b) { return word(6, d, a, b << 12); }
  static int div(int d, int a, int b) { return word(7, d, a, b << 12); }
  static int rem(int d, int a, int b) { return word(8, d, a, b << 12); }
  static int inc(int d, int a, int s) { return word(9, d, a, s); }
  static int and(int d, int a, int n) { return word(10, d, a, n); }
  static int shift(int d, int a, int n) { return word(11, d, a, n); }
  static int base(int d, int n) { return word(12, d, 0, n); }
  static int load(int d, int a, int s) { return word(13, d, a, s); }
  static int store(int d, int a, int s) { return word(14, d, a, s); }
  static int jump(int n) { return word(15, 0, 0, n); }
  static int less(int d, int a, int n) { return word(16, d, a, n); }
  static int same(int d, int a, int n) { return word(17, d, a, n); }
  static int call(int n) { return word(18, 0, 0, n); }
  static int linked(int n) { return word(19, 0, 0, n); }
  static int giveBack() { return word(20, 0, 0, 0); }

  /** Begins a program and feeds it; its number. */
  static int open(RegionYard yard, int need, int... words) {
    int number = yard.begin(need);
    for (int word : words) {
      if (yard.feed(word) == RegionYard.NONE) {
        due("feed of word " + Integer.toHexString(word), RegionYard.NONE, 0);
      }
    }
    return number;
  }

  /** A label whose types are told as {register, kind, low, high}. */
  static void label(RegionYard yard, int index, int function, int[]... types) {
    due("label(" + index + ", " + function + ")", yard.label(index, function), true);
    for (int[] t : types) {
      due("type at " + index, yard.type(index, t[0], t[1], t[2], t[3]), true);
    }
  }

  static int[] type(int register, int kind, int low, int high) {
    return new int[] {register, kind, low, high};
  }

  static int[] zero(int register) {
    return type(register, INT, 0, 0);
  }

  static int[] anyInt(int register) {
    return type(register, INT, MIN, MAX);
  }

  /** An accepted program of one function, whose only label is at 0, with register 0 INT 0 .. 0. */
  static int loadPlain(RegionYard yard, int need, int... words) {
    int number = open(yard, need, words);
    label(yard, 0, 0, zero(0));
    due("verify of a plain program", yard.verify(), 0);
    return number;
  }

  /** An accepted program that yields for ever. */
  static int loadYielder(RegionYard yard, int need) {
    int number = open(yard, need, yieldTurn(), jump(0));
    label(yard, 0, 0);
    due("verify of a yielder", yard.verify(), 0);
    return number;
  }
}
