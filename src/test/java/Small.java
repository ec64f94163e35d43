/** Small programs round the words that a test asks about: some to be verified, some to be run. */
final class Small {
  /** Word 2 of branch(), without a label: it is reached, and its own JUMP has no label to go to. */
  static final int REACHED = 16 * 2 + 1;
  /** Word 2 of branch(), without a label: it is not reached. */
  static final int NOT_REACHED = 16 * 2 + 7;
  /** No types at all. */
  static final int[][] ANY = {};

  private Small() {
  }

  static int[] ints(int register, int low, int high) {
    return Asm.type(register, Asm.INT, low, high);
  }

  static int[] pointer(int register, int low, int high) {
    return Asm.type(register, Asm.POINTER, low, high);
  }

  static int[][] both(int low1, int high1, int low2, int high2) {
    return new int[][] {ints(1, low1, high1), ints(2, low2, high2)};
  }

  static int[][] with(int[] first, int[][] others) {
    int[][] all = new int[others.length + 1][];
    all[0] = first;
    System.arraycopy(others, 0, all, 1, others.length);
    return all;
  }

  /** Word 0 is an EXIT; the word asked stands at index 1, with these types; at 2 is a JUMP to itself. */
  static int verdict(int need, int word, int[][] types, int[]... after) {
    RegionYard y = new RegionYard();
    Asm.open(y, need, Asm.exit(0), word, Asm.jump(2));
    Asm.label(y, 0, 0, Asm.zero(0));
    Asm.label(y, 1, 0, types);
    Asm.label(y, 2, 0, after);
    return y.verify();
  }

  static void fault(String what, int need, int word, int reason, int[]... types) {
    Asm.due(what, verdict(need, word, types), reason == 0 ? 0 : 16 + reason);
  }

  /** The same with nothing behind the word: it is the last one. */
  static void lastFault(String what, int need, int word, int reason, int[]... types) {
    RegionYard y = new RegionYard();
    Asm.open(y, need, Asm.exit(0), word);
    Asm.label(y, 0, 0, Asm.zero(0));
    Asm.label(y, 1, 0, types);
    Asm.due(what + ", as the last word", y.verify(), reason == 0 ? 0 : 16 + reason);
  }

  /** The register becomes exactly LOW .. HIGH: it meets these, and nothing narrower. */
  static void makes(String what, int word, int[] result, int[]... types) {
    int low = result[2];
    int high = result[3];
    Asm.due(what + " within", verdict(8, word, types, result), 0);
    Asm.due(what + " of the other kind", verdict(8, word, types, Asm.type(result[0], 3 - result[1], low, high)), 16 + 4);
    if (low < high) {
      Asm.due(what + " LOW", verdict(8, word, types, Asm.type(result[0], result[1], low + 1, high)), 16 + 4);
      Asm.due(what + " HIGH", verdict(8, word, types, Asm.type(result[0], result[1], low, high - 1)), 16 + 4);
    }
    if (low > Asm.MIN) {
      Asm.due(what + " below", verdict(8, word, types, Asm.type(result[0], result[1], low - 1, low - 1)), 16 + 4);
    }
    if (high < Asm.MAX) {
      Asm.due(what + " above", verdict(8, word, types, Asm.type(result[0], result[1], high + 1, high + 1)), 16 + 4);
    }
  }

  /** EXIT; the branch, at 1, to 3; at 2 and 3 JUMPs to themselves. Labels only where types are given. */
  static int branch(int word, int[][] at1, int[][] at2, int[][] at3) {
    RegionYard y = new RegionYard();
    Asm.open(y, 4, Asm.exit(0), word, Asm.jump(2), Asm.jump(3));
    Asm.label(y, 0, 0, Asm.zero(0));
    Asm.label(y, 1, 0, at1);
    if (at2 != null) {
      Asm.label(y, 2, 0, at2);
    }
    if (at3 != null) {
      Asm.label(y, 3, 0, at3);
    }
    return y.verify();
  }

  /** The types on a way are exactly these: narrower ones are not met. */
  static void wayIs(String what, int word, int[][] from, int[][] next, int[][] there) {
    Asm.due(what, branch(word, from, next == null ? ANY : next, there == null ? ANY : there), 0);
    for (int r = 0; r < 2; r++) {
      for (int bound = 2; bound <= 3; bound++) {
        if (next != null && next[r][2] < next[r][3]) {
          Asm.due(what + ", next " + r + bound, branch(word, from, narrower(next, r, bound), there == null ? ANY : there), 20);
        }
        if (there != null && there[r][2] < there[r][3]) {
          Asm.due(what + ", there " + r + bound, branch(word, from, next == null ? ANY : next, narrower(there, r, bound)), 20);
        }
      }
    }
  }

  private static int[][] narrower(int[][] types, int register, int bound) {
    int[][] all = {types[0].clone(), types[1].clone()};
    all[register][bound] += bound == 2 ? 1 : -1;
    return all;
  }

  /** Some rows of words as one. */
  static int[] words(int[]... rows) {
    int length = 0;
    for (int[] row : rows) {
      length += row.length;
    }
    int[] all = new int[length];
    int at = 0;
    for (int[] row : rows) {
      System.arraycopy(row, 0, all, at, row.length);
      at += row.length;
    }
    return all;
  }

  static int[] row(int... words) {
    return words;
  }

  /** Words that make a register any int, by way of register 7. */
  static int[] number(int register, int n) {
    int low = (short) n;
    int high = n - low >> 16;
    if (high == 0) {
      return row(Asm.set(register, low));
    }
    int[] times = row(Asm.set(7, 256), Asm.mul(register, register, 7), Asm.mul(register, register, 7));
    int[] rest = low == 0 ? row() : row(Asm.inc(register, register, low));
    return words(row(Asm.set(register, high)), times, rest);
  }

  /** Runs straight words as a process, until the EXIT behind them; its yard. */
  static RegionYard ran(int... words) {
    RegionYard y = new RegionYard();
    Asm.loadPlain(y, 8, words(words, row(Asm.set(7, 0), Asm.exit(7))));
    y.spawn(0, 8);
    Asm.due("run to the end", y.run(500), words.length + 2);
    return y;
  }

  /** What an OP with D, A, B makes of two numbers. */
  static int computed(int op, int left, int right) {
    return ran(words(number(1, left), number(2, right), row(Asm.word(op, 3, 1, 2 << 12)))).register(0, 3);
  }

  /** What a word that reads register 1 makes of it in register 3. */
  static int made(int word, int from) {
    return ran(words(number(1, from), row(word))).register(0, 3);
  }

  /** 1, if LESS or SAME of two numbers goes to its N, else 0. */
  static int branched(int op, int left, int right) {
    int[] ahead = words(number(1, left), number(2, right));
    int at = ahead.length;
    RegionYard y = new RegionYard();
    Asm.open(y, 1, words(ahead, row(Asm.word(op, 1, 2, at + 2), Asm.exit(0), Asm.set(0, 1), Asm.exit(0))));
    Asm.label(y, 0, 0, Asm.zero(0));
    Asm.label(y, at, 0, Asm.zero(0), Asm.anyInt(1), Asm.anyInt(2));
    Asm.label(y, at + 2, 0);
    Asm.due("verify", y.verify(), 0);
    y.spawn(0, 1);
    y.run(20);
    Asm.due("it is over", y.process(0, 0), 1);
    return y.process(0, 8);
  }
}
