/** Promise 9 and the rules of section 3: each reason, and the bounds that each OP makes. */
public final class VerifyTest {
  /** Word 2 of branch(), without a label: it is reached, and its own JUMP has no label to go to. */
  private static final int REACHED = 16 * 2 + 1;

  private VerifyTest() {
  }

  public static void main(String[] args) {
    starts();
    kinds();
    sums();
    pointers();
    products();
    quotients();
    quotientsByTrying();
    remainders();
    bits();
    cells();
    lessWays();
    sameWays();
    goings();
    reaching();
    calls();
    linkedCalls();
    returns();
    firstFaultFirst();
    Asm.end("VerifyTest");
  }

  /** Word 0 is an EXIT; the word asked stands at index 1, with these types; at 2 is a JUMP to itself. */
  private static int verdict(int need, int word, int[][] types, int[]... after) {
    RegionYard y = new RegionYard();
    Asm.open(y, need, Asm.exit(0), word, Asm.jump(2));
    Asm.label(y, 0, 0, Asm.zero(0));
    Asm.label(y, 1, 0, types);
    Asm.label(y, 2, 0, after);
    return y.verify();
  }

  private static void fault(String what, int need, int word, int reason, int[]... types) {
    Asm.due(what, verdict(need, word, types), reason == 0 ? 0 : 16 + reason);
  }

  /** The register becomes exactly LOW .. HIGH: it meets these, and nothing narrower. */
  private static void makes(String what, int word, int[] result, int[]... types) {
    int low = result[2];
    int high = result[3];
    Asm.due(what + " within", verdict(8, word, types, result), 0);
    Asm.due(what + " of the other kind", verdict(8, word, types, Asm.type(result[0], 3 - result[1], low, high)), 16 + 4);
    if (low < high) {
      Asm.due(what + " LOW", verdict(8, word, types, Asm.type(result[0], result[1], low + 1, high)), 16 + 4);
      Asm.due(what + " HIGH", verdict(8, word, types, Asm.type(result[0], result[1], low, high - 1)), 16 + 4);
    }
    if (low > Asm.MIN) {
      Asm.due(what + " below", verdict(8, word, types, Asm.type(result[0], result[1], low - 1, low - 1)), 16 + 4);
    }
    if (high < Asm.MAX) {
      Asm.due(what + " above", verdict(8, word, types, Asm.type(result[0], result[1], high + 1, high + 1)), 16 + 4);
    }
  }

  private static int[] ints(int register, int low, int high) {
    return Asm.type(register, Asm.INT, low, high);
  }

  private static int[] pointer(int register, int low, int high) {
    return Asm.type(register, Asm.POINTER, low, high);
  }

  private static int startVerdict(int[]... types) {
    RegionYard y = new RegionYard();
    Asm.open(y, 1, Asm.yieldTurn(), Asm.jump(0));
    Asm.label(y, 0, 0, types);
    return y.verify();
  }

  private static void starts() {
    Asm.due("verify, none OPEN", new RegionYard().verify(), -1);
    RegionYard empty = new RegionYard();
    empty.begin(1);
    Asm.due("verify without words", empty.verify(), 1);
    Asm.due("refused", empty.program(0, 0), 2);
    RegionYard bare = new RegionYard();
    Asm.open(bare, 1, Asm.giveBack());
    Asm.due("index 0 is no label", bare.verify(), 12);
    Asm.due("start of any", startVerdict(), 0);
    Asm.due("start of 0 .. 0", startVerdict(ints(7, 0, 0)), 0);
    Asm.due("start of -1 .. 1", startVerdict(ints(7, -1, 1)), 0);
    Asm.due("start of 1 .. 1", startVerdict(ints(7, 1, 1)), 12);
    Asm.due("start of -1 .. -1", startVerdict(ints(3, -1, -1)), 12);
    Asm.due("start of a POINTER", startVerdict(pointer(0, 0, 0)), 12);
  }

  /** Every register that an OP reads: any and the wrong kinds are 2. */
  private static void kinds() {
    int[][] one = {null, Asm.type(1, Asm.POINTER, 1, 2)};
    for (int[] wrong : one) {
      int[][] types = wrong == null ? new int[0][] : new int[][] {wrong};
      fault("EXIT kind", 8, Asm.exit(1), 2, types);
      fault("AND kind", 8, Asm.and(2, 1, 3), 2, types);
      fault("SHIFT kind", 8, Asm.shift(2, 1, 3), 2, types);
      for (int op = 6; op <= 8; op++) {
        fault("op " + op + " A", 8, Asm.word(op, 3, 1, 2 << 12), 2, with(ints(2, 1, 1), types));
        fault("op " + op + " B", 8, Asm.word(op, 3, 2, 1 << 12), 2, with(ints(2, 0, 0), types));
      }
      fault("STORE D", 8, Asm.store(1, 2, 0), 2, with(pointer(2, 0, 0), types));
      for (int op = 16; op <= 17; op++) {
        fault("op " + op + " D", 8, Asm.word(op, 1, 2, 2), 2, with(ints(2, 1, 1), types));
        fault("op " + op + " A", 8, Asm.word(op, 2, 1, 2), 2, with(ints(2, 1, 1), types));
        fault("op " + op + " both", 8, Asm.word(op, 1, 1, 2), 2, types);
      }
    }
    fault("INC any", 8, Asm.inc(2, 1, 1), 2);
    fault("ADD any", 8, Asm.add(3, 1, 2), 2, ints(1, 0, 0));
    fault("ADD any", 8, Asm.add(3, 2, 1), 2, ints(1, 0, 0));
    fault("ADD any", 8, Asm.add(3, 1, 2), 2, pointer(1, 0, 0));
    fault("ADD POINTERS", 8, Asm.add(3, 1, 2), 2, pointer(1, 0, 0), pointer(2, 0, 0));
    fault("SUB any", 8, Asm.sub(3, 1, 2), 2, ints(1, 0, 0));
    fault("SUB any", 8, Asm.sub(3, 2, 1), 2, ints(1, 0, 0));
    fault("SUB any", 8, Asm.sub(3, 1, 2), 2, pointer(1, 0, 0));
    fault("SUB POINTERS", 8, Asm.sub(3, 1, 2), 2, pointer(1, 0, 0), pointer(2, 0, 0));
    fault("SUB INT less POINTER", 8, Asm.sub(3, 1, 2), 2, ints(1, 0, 0), pointer(2, 0, 0));
    fault("LOAD INT", 8, Asm.load(3, 1, 0), 2, ints(1, 0, 0));
    fault("LOAD any", 8, Asm.load(3, 1, 0), 2);
    fault("STORE INT", 8, Asm.store(1, 1, 0), 2, ints(1, 0, 0));
    fault("STORE any", 8, Asm.store(1, 2, 0), 2, ints(1, 0, 0));
    fault("EXIT an INT", 8, Asm.exit(1), 0, ints(1, -5, 5));
    fault("MOVE any", 8, Asm.move(1, 2), 0);
    Asm.due("MOVE any makes any", verdict(8, Asm.move(1, 2), new int[][] {ints(1, 0, 0)}, ints(1, Asm.MIN, Asm.MAX)), 20);
    fault("kind ahead of 5", 8, Asm.div(1, 2, 3), 2, ints(3, 0, 0));
    fault("kind ahead of 3", 8, Asm.store(1, 2, 99), 2, pointer(2, 0, 0));
    fault("kind ahead of where it goes", 8, Asm.less(1, 2, 77), 2, ints(1, 0, 0));
  }

  private static int[][] with(int[] first, int[][] others) {
    int[][] all = new int[others.length + 1][];
    all[0] = first;
    System.arraycopy(others, 0, all, 1, others.length);
    return all;
  }

  private static void sums() {
    makes("SET", Asm.set(1, -7), ints(1, -7, -7));
    makes("SET least", Asm.set(1, 0x8000), ints(1, -32768, -32768));
    makes("SET greatest", Asm.set(1, 0x7FFF), ints(1, 32767, 32767));
    makes("MOVE INT", Asm.move(1, 2), ints(1, 3, 9), ints(2, 3, 9));
    makes("MOVE POINTER", Asm.move(1, 2), pointer(1, -3, 9), pointer(2, -3, 9));
    makes("YIELD", Asm.yieldTurn(), ints(1, 3, 9), ints(1, 3, 9));
    makes("ADD", Asm.add(1, 2, 3), ints(1, -2, 13), ints(2, -5, 6), ints(3, 3, 7));
    makes("ADD to itself", Asm.add(2, 2, 2), ints(2, -10, 12), ints(2, -5, 6));
    makes("ADD up to the greatest", Asm.add(1, 2, 3), ints(1, 5, Asm.MAX), ints(2, 5, Asm.MAX - 1), ints(3, 0, 1));
    makes("ADD above", Asm.add(1, 2, 3), Asm.anyInt(1), ints(2, 5, Asm.MAX), ints(3, 0, 1));
    makes("ADD all above", Asm.add(1, 2, 3), Asm.anyInt(1), ints(2, Asm.MAX, Asm.MAX), ints(3, 1, 1));
    makes("ADD down to the least", Asm.add(1, 2, 3), ints(1, Asm.MIN, 4), ints(2, Asm.MIN + 1, 5), ints(3, -1, -1));
    makes("ADD below", Asm.add(1, 2, 3), Asm.anyInt(1), ints(2, Asm.MIN, 5), ints(3, -1, 0));
    makes("SUB", Asm.sub(1, 2, 3), ints(1, -12, 3), ints(2, -5, 6), ints(3, 3, 7));
    makes("SUB of itself", Asm.sub(1, 2, 2), ints(1, -11, 11), ints(2, -5, 6));
    makes("SUB above", Asm.sub(1, 2, 3), Asm.anyInt(1), ints(2, 0, 0), ints(3, Asm.MIN, Asm.MIN));
    makes("SUB below", Asm.sub(1, 2, 3), Asm.anyInt(1), ints(2, -2, 0), ints(3, 0, Asm.MAX));
    makes("SUB to the least", Asm.sub(1, 2, 3), ints(1, Asm.MIN, 0), ints(2, -1, 0), ints(3, 0, Asm.MAX));
    makes("INC", Asm.inc(1, 2, -3), ints(1, -8, 3), ints(2, -5, 6));
    makes("INC above", Asm.inc(2, 2, 1), Asm.anyInt(2), ints(2, 0, Asm.MAX));
    makes("INC below", Asm.inc(2, 2, -1), Asm.anyInt(2), ints(2, Asm.MIN, 0));
  }

  private static void pointers() {
    makes("BASE", Asm.base(1, 0xFFFF), pointer(1, 65535, 65535));
    makes("BASE 0", Asm.base(1, 0), pointer(1, 0, 0));
    makes("POINTER + INT", Asm.add(1, 2, 3), pointer(1, -2, 13), pointer(2, -5, 6), ints(3, 3, 7));
    makes("INT + POINTER", Asm.add(1, 3, 2), pointer(1, -2, 13), pointer(2, -5, 6), ints(3, 3, 7));
    makes("POINTER - INT", Asm.sub(1, 2, 3), pointer(1, -12, 3), pointer(2, -5, 6), ints(3, 3, 7));
    makes("INC POINTER", Asm.inc(1, 2, 5), pointer(1, 0, 11), pointer(2, -5, 6));
    makes("POINTER to 1000000", Asm.add(1, 2, 3), pointer(1, -1000000, 1000000), pointer(2, 0, 0), ints(3, -1000000, 1000000));
    fault("POINTER + to 1000001", 8, Asm.add(1, 2, 3), 6, pointer(2, 0, 1), ints(3, 0, 1000000));
    fault("POINTER + to -1000001", 8, Asm.add(1, 3, 2), 6, pointer(2, -1, 0), ints(3, -1000000, 0));
    fault("POINTER - to 1000001", 8, Asm.sub(1, 2, 3), 6, pointer(2, 0, 1), ints(3, -1000000, 0));
    fault("POINTER - to -1000001", 8, Asm.sub(1, 2, 3), 6, pointer(2, -1, 0), ints(3, 0, 1000000));
    fault("POINTER - all above", 8, Asm.sub(1, 2, 3), 6, pointer(2, 0, 0), ints(3, -3000000, -2000000));
    fault("POINTER + wraps", 8, Asm.add(1, 2, 3), 6, pointer(2, Asm.MAX, Asm.MAX), ints(3, Asm.MAX, Asm.MAX));
    fault("POINTER + wraps below", 8, Asm.add(1, 2, 3), 6, pointer(2, Asm.MIN, Asm.MIN), ints(3, Asm.MIN, Asm.MIN));
    fault("INC POINTER too far", 8, Asm.inc(1, 2, 1), 6, pointer(2, 0, 1000000));
    fault("INC POINTER too low", 8, Asm.inc(1, 2, -1), 6, pointer(2, -1000000, 0));
    fault("INC POINTER by 0, told too far", 8, Asm.inc(1, 2, 0), 6, pointer(2, 0, 1000001));
    fault("INC POINTER back", 8, Asm.inc(1, 2, -1), 0, pointer(2, 5, 1000001));
  }

  private static void products() {
    makes("MUL", Asm.mul(1, 2, 3), ints(1, -35, 42), ints(2, -5, 6), ints(3, 3, 7));
    makes("MUL of itself", Asm.mul(1, 2, 2), ints(1, -30, 36), ints(2, -5, 6));
    makes("MUL of those below 0", Asm.mul(1, 2, 3), ints(1, 6, 20), ints(2, -5, -3), ints(3, -4, -2));
    makes("MUL by 0", Asm.mul(1, 2, 3), ints(1, 0, 0), ints(2, Asm.MIN, Asm.MAX), ints(3, 0, 0));
    makes("MUL to the greatest", Asm.mul(1, 2, 3), ints(1, -Asm.MAX, Asm.MAX), ints(2, -Asm.MAX, Asm.MAX), ints(3, 1, 1));
    makes("MUL of the least by -1", Asm.mul(1, 2, 3), Asm.anyInt(1), ints(2, Asm.MIN, -5), ints(3, -1, -1));
    makes("MUL above", Asm.mul(1, 2, 3), Asm.anyInt(1), ints(2, 0, 65536), ints(3, 0, 32768));
    makes("MUL below", Asm.mul(1, 2, 3), Asm.anyInt(1), ints(2, -65536, 0), ints(3, 0, 32769));
    makes("MUL to the least", Asm.mul(1, 2, 3), ints(1, Asm.MIN, 0), ints(2, -65536, 0), ints(3, 0, 32768));
    makes("MUL of all", Asm.mul(1, 2, 3), Asm.anyInt(1), Asm.anyInt(2), Asm.anyInt(3));
  }

  private static void quotients() {
    makes("DIV", Asm.div(1, 2, 3), ints(1, -2, 3), ints(2, -5, 6), ints(3, 2, 7));
    makes("DIV by those below 0", Asm.div(1, 2, 3), ints(1, -3, 2), ints(2, -5, 6), ints(3, -7, -2));
    makes("DIV towards 0", Asm.div(1, 2, 3), ints(1, -3, -3), ints(2, -7, -7), ints(3, 2, 2));
    makes("DIV of the least by -1", Asm.div(1, 2, 3), Asm.anyInt(1), ints(2, Asm.MIN, Asm.MIN), ints(3, -1, -1));
    makes("DIV of the next by -1", Asm.div(1, 2, 3), ints(1, 5, Asm.MAX), ints(2, Asm.MIN + 1, -5), ints(3, -1, -1));
    makes("DIV of the least by -2 .. -1", Asm.div(1, 2, 3), Asm.anyInt(1), ints(2, Asm.MIN, 5), ints(3, -2, -1));
    makes("DIV of all by 1", Asm.div(1, 2, 3), Asm.anyInt(1), Asm.anyInt(2), ints(3, 1, Asm.MAX));
    makes("DIV into its divisor", Asm.div(3, 2, 3), ints(3, 1, 5), ints(2, 4, 5), ints(3, 1, 4));
    for (int op = 7; op <= 8; op++) {
      fault("by 0 .. 0", 8, Asm.word(op, 1, 2, 3 << 12), 5, ints(2, 1, 1), ints(3, 0, 0));
      fault("by -1 .. 1", 8, Asm.word(op, 1, 2, 3 << 12), 5, ints(2, 1, 1), ints(3, -1, 1));
      fault("by 0 .. 1", 8, Asm.word(op, 1, 2, 3 << 12), 5, ints(2, 1, 1), ints(3, 0, 1));
      fault("by -1 .. 0", 8, Asm.word(op, 1, 2, 3 << 12), 5, ints(2, 1, 1), ints(3, -1, 0));
      fault("by -1 .. -1", 8, Asm.word(op, 1, 2, 3 << 12), 0, ints(2, 1, 1), ints(3, -1, -1));
      fault("by 1 .. 1", 8, Asm.word(op, 1, 2, 3 << 12), 0, ints(2, 1, 1), ints(3, 1, 1));
    }
  }

  private static void quotientsByTrying() {
    for (int lowA = -7; lowA <= 7; lowA += 3) {
      for (int highA = lowA; highA <= 8; highA += 4) {
        for (int lowB = -4; lowB <= 4; lowB++) {
          for (int highB = lowB; highB <= 4; highB += 2) {
            if (lowB > 0 || highB < 0) {
              tryQuotients(lowA, highA, lowB, highB);
            }
          }
        }
      }
    }
  }

  private static void tryQuotients(int lowA, int highA, int lowB, int highB) {
    int low = Asm.MAX;
    int high = Asm.MIN;
    for (int x = lowA; x <= highA; x++) {
      for (int z = lowB; z <= highB; z++) {
        low = Math.min(low, x / z);
        high = Math.max(high, x / z);
      }
    }
    makes("DIV by trying", Asm.div(1, 2, 3), ints(1, low, high), ints(2, lowA, highA), ints(3, lowB, highB));
  }

  private static void remainders() {
    makes("REM", Asm.rem(1, 2, 3), ints(1, -6, 6), ints(2, -5, 6), ints(3, 2, 7));
    makes("REM of those from 0 on", Asm.rem(1, 2, 3), ints(1, 0, 6), ints(2, 0, 1), ints(3, 2, 7));
    makes("REM of those up to 0", Asm.rem(1, 2, 3), ints(1, -6, 0), ints(2, -9, 0), ints(3, -7, -2));
    makes("REM of 0", Asm.rem(1, 2, 3), ints(1, 0, 0), ints(2, 0, 0), ints(3, -7, -2));
    makes("REM by 1", Asm.rem(1, 2, 3), ints(1, 0, 0), Asm.anyInt(2), ints(3, 1, 1));
    makes("REM by the least", Asm.rem(1, 2, 3), ints(1, -Asm.MAX, Asm.MAX), Asm.anyInt(2), ints(3, Asm.MIN, -1));
    makes("REM by the greatest", Asm.rem(1, 2, 3), ints(1, 1 - Asm.MAX, Asm.MAX - 1), Asm.anyInt(2), ints(3, 1, Asm.MAX));
  }

  private static void bits() {
    makes("AND", Asm.and(1, 2, 0xFFFF), ints(1, 0, 65535), Asm.anyInt(2));
    makes("AND of few", Asm.and(1, 2, 6), ints(1, 0, 6), ints(2, 1, 1));
    makes("AND 0", Asm.and(1, 2, 0), ints(1, 0, 0), Asm.anyInt(2));
    makes("SHIFT", Asm.shift(1, 2, 2), ints(1, -2, 2), ints(2, -5, 11));
    makes("SHIFT 0", Asm.shift(1, 2, 0), ints(1, -5, 11), ints(2, -5, 11));
    makes("SHIFT 31", Asm.shift(1, 2, 31), ints(1, -1, 0), Asm.anyInt(2));
  }

  private static void cells() {
    makes("LOAD", Asm.load(1, 2, 0), Asm.anyInt(1), pointer(2, 0, 7));
    makes("LOAD into its pointer", Asm.load(2, 2, 0), Asm.anyInt(2), pointer(2, 0, 7));
    makes("STORE", Asm.store(1, 2, 0), ints(1, 3, 4), ints(1, 3, 4), pointer(2, 0, 7));
    for (int op = 13; op <= 14; op++) {
      fault("cell 0 .. 8", 8, Asm.word(op, 1, 2, 0), 3, ints(1, 0, 0), pointer(2, 0, 8));
      fault("cell -1 .. 7", 8, Asm.word(op, 1, 2, 0), 3, ints(1, 0, 0), pointer(2, -1, 7));
      fault("cell 1 .. 8 less 1", 8, Asm.word(op, 1, 2, -1), 0, ints(1, 0, 0), pointer(2, 1, 8));
      fault("cell 0 .. 8 less 1", 8, Asm.word(op, 1, 2, -1), 3, ints(1, 0, 0), pointer(2, 0, 8));
      fault("cell -3 .. 4 and 3", 8, Asm.word(op, 1, 2, 3), 0, ints(1, 0, 0), pointer(2, -3, 4));
      fault("cell -3 .. 5 and 3", 8, Asm.word(op, 1, 2, 3), 3, ints(1, 0, 0), pointer(2, -3, 5));
      fault("cell beyond all", 1024, Asm.word(op, 1, 2, 32767), 3, ints(1, 0, 0), pointer(2, 0, Asm.MAX));
      fault("cell below all", 1024, Asm.word(op, 1, 2, -32768), 3, ints(1, 0, 0), pointer(2, Asm.MIN, 0));
      fault("the last of 1024", 1024, Asm.word(op, 1, 2, 0), 0, ints(1, 0, 0), pointer(2, 1023, 1023));
      fault("behind the last of 1024", 1024, Asm.word(op, 1, 2, 0), 3, ints(1, 0, 0), pointer(2, 1024, 1024));
    }
  }

  /** EXIT; the branch, at 1, to 3; at 2 and 3 JUMPs to themselves. Labels only where types are given. */
  private static int branch(int word, int[][] at1, int[][] at2, int[][] at3) {
    RegionYard y = new RegionYard();
    Asm.open(y, 4, Asm.exit(0), word, Asm.jump(2), Asm.jump(3));
    Asm.label(y, 0, 0, Asm.zero(0));
    Asm.label(y, 1, 0, at1);
    if (at2 != null) {
      Asm.label(y, 2, 0, at2);
    }
    if (at3 != null) {
      Asm.label(y, 3, 0, at3);
    }
    return y.verify();
  }

  private static int[][] both(int low1, int high1, int low2, int high2) {
    return new int[][] {ints(1, low1, high1), ints(2, low2, high2)};
  }

  /** The types on a way are exactly these: narrower ones are not met. */
  private static void wayIs(String what, int word, int[][] from, int[][] next, int[][] there) {
    int[][] any = {};
    Asm.due(what, branch(word, from, next == null ? any : next, there == null ? any : there), 0);
    for (int r = 0; r < 2; r++) {
      for (int bound = 2; bound <= 3; bound++) {
        if (next != null && next[r][2] < next[r][3]) {
          Asm.due(what + ", next " + r + bound, branch(word, from, narrower(next, r, bound), there == null ? any : there), 20);
        }
        if (there != null && there[r][2] < there[r][3]) {
          Asm.due(what + ", there " + r + bound, branch(word, from, next == null ? any : next, narrower(there, r, bound)), 20);
        }
      }
    }
  }

  private static int[][] narrower(int[][] types, int register, int bound) {
    int[][] all = {types[0].clone(), types[1].clone()};
    all[register][bound] += bound == 2 ? 1 : -1;
    return all;
  }

  private static void lessWays() {
    int[][] any = {};
    int word = Asm.less(1, 2, 3);
    wayIs("LESS", word, both(0, 9, 0, 9), both(0, 9, 0, 9), both(0, 8, 1, 9));
    wayIs("LESS apart", word, both(0, 5, 3, 9), both(3, 5, 3, 5), both(0, 5, 3, 9));
    wayIs("LESS over", word, both(3, 9, 0, 5), both(3, 9, 0, 5), both(3, 4, 4, 5));
    wayIs("LESS of all", word, both(Asm.MIN, Asm.MAX, Asm.MIN, Asm.MAX), both(Asm.MIN, Asm.MAX, Asm.MIN, Asm.MAX),
      both(Asm.MIN, Asm.MAX - 1, Asm.MIN + 1, Asm.MAX));
    // N is not gone: nothing is asked of it
    Asm.due("LESS never, no label", branch(word, both(5, 9, 0, 5), any, null), 16 * 3 + 7);
    wayIs("LESS never", word, both(5, 9, 0, 5), both(5, 9, 0, 5), both(77, 77, 77, 77));
    wayIs("LESS never of the greatest", word, both(Asm.MAX, Asm.MAX, Asm.MIN, Asm.MAX),
      both(Asm.MAX, Asm.MAX, Asm.MIN, Asm.MAX), both(0, 0, 0, 0));
    wayIs("LESS never than the least", word, both(Asm.MIN, Asm.MAX, Asm.MIN, Asm.MIN),
      both(Asm.MIN, Asm.MAX, Asm.MIN, Asm.MIN), both(0, 0, 0, 0));
    // the next index is not gone
    wayIs("LESS always", word, both(0, 4, 5, 9), both(77, 77, 77, 77), both(0, 4, 5, 9));
    Asm.due("LESS always, the next is no label", branch(word, both(0, 4, 5, 9), null, any), 16 * 2 + 7);
    Asm.due("LESS mostly, the next is no label", branch(word, both(0, 5, 5, 9), null, any), REACHED);
    // of one register
    Asm.due("LESS of itself never goes to N", branch(Asm.less(1, 1, 99), both(0, 9, 0, 9), both(0, 9, 0, 9), any), 0);
    Asm.due("LESS of itself goes on as it was", branch(Asm.less(1, 1, 99), both(0, 9, 0, 9), both(0, 8, 0, 9), any), 20);
    Asm.due("LESS of itself goes on", branch(Asm.less(1, 1, 3), both(0, 9, 0, 9), null, both(77, 77, 0, 0)), REACHED);
    // N ahead of the next one, and where it goes at all
    Asm.due("LESS, N no label, next unmet", branch(Asm.less(1, 2, 9), both(0, 9, 0, 9), both(5, 5, 0, 0), any), 17);
    Asm.due("LESS, N unmet, next of another", branch(word, both(0, 9, 0, 9), null, both(5, 5, 0, 0)), 20);
    lessAtTheEnd();
  }

  private static void lessAtTheEnd() {
    for (int high = 4; high <= 5; high++) {
      RegionYard y = new RegionYard();
      Asm.open(y, 4, Asm.exit(0), Asm.less(1, 2, 0));
      Asm.label(y, 0, 0, Asm.zero(0));
      Asm.label(y, 1, 0, Asm.zero(0), ints(1, 0, high), ints(2, 5, 9));
      Asm.due("LESS as the last word", y.verify(), high == 4 ? 0 : 17);
    }
  }

  private static void sameWays() {
    int[][] any = {};
    int word = Asm.same(1, 2, 3);
    wayIs("SAME", word, both(0, 9, 0, 9), both(0, 9, 0, 9), both(0, 9, 0, 9));
    wayIs("SAME apart", word, both(0, 5, 3, 9), both(0, 5, 3, 9), both(3, 5, 3, 5));
    wayIs("SAME within", word, both(3, 4, -9, 9), both(3, 4, -9, 9), both(3, 4, 3, 4));
    wayIs("SAME never", word, both(0, 2, 3, 9), both(0, 2, 3, 9), both(77, 77, 0, 0));
    Asm.due("SAME never, next is no label", branch(word, both(0, 2, 3, 9), null, both(77, 77, 0, 0)), REACHED);
    Asm.due("SAME of one number still goes on", branch(word, both(5, 5, 5, 5), both(77, 77, 0, 0), any), 20);
    Asm.due("SAME of itself never goes on", branch(Asm.same(1, 1, 3), both(0, 9, 0, 9), both(77, 77, 0, 0), both(0, 9, 0, 9)), 0);
    Asm.due("SAME of itself goes to N", branch(Asm.same(1, 1, 3), both(0, 9, 0, 9), any, both(1, 9, 0, 9)), 20);
    Asm.due("SAME of itself, N no label", branch(Asm.same(1, 1, 4), both(0, 9, 0, 9), any, any), 17);
    Asm.due("SAME of itself: next not reached", branch(Asm.same(1, 1, 3), both(0, 9, 0, 9), null, any), 16 * 2 + 7);
    Asm.due("SAME, N ahead of the next", branch(Asm.same(1, 2, 65535), both(0, 9, 0, 9), both(77, 77, 0, 0), any), 17);
  }

  private static void goings() {
    int[][] any = {};
    int[][] from = both(0, 9, 0, 9);
    Asm.due("JUMP", branch(Asm.jump(3), from, any, from), 0);
    Asm.due("JUMP unmet", branch(Asm.jump(3), from, any, both(0, 9, 0, 8)), 20);
    Asm.due("JUMP from any", branch(Asm.jump(3), any, any, both(Asm.MIN, Asm.MAX, Asm.MIN, Asm.MAX)), 20);
    Asm.due("JUMP to a wider one", branch(Asm.jump(3), from, any, both(-1, 10, -1, 10)), 0);
    Asm.due("JUMP to no word", branch(Asm.jump(4), from, any, any), 17);
    Asm.due("JUMP to 65535", branch(Asm.jump(65535), from, any, any), 17);
    Asm.due("JUMP to no label", branch(Asm.jump(2), from, null, any), 17);
    RegionYard y = new RegionYard();
    Asm.open(y, 1, Asm.yieldTurn(), Asm.exit(0), Asm.jump(2));
    y.function(2);
    Asm.label(y, 0, 0, Asm.zero(0));
    Asm.label(y, 2, 1);
    Asm.due("labels of two functions", y.verify(), 0);
    for (int word : new int[] {Asm.yieldTurn(), Asm.jump(2)}) {
      RegionYard z = new RegionYard();
      Asm.open(z, 1, Asm.yieldTurn(), word, Asm.jump(2));
      z.function(2);
      Asm.label(z, 0, 0, Asm.zero(0));
      Asm.label(z, 2, 1);
      Asm.due("going into another function", z.verify(), 17);
    }
    RegionYard last = new RegionYard();
    Asm.open(last, 1, Asm.yieldTurn(), Asm.yieldTurn());
    Asm.label(last, 0, 0);
    Asm.due("beyond the last word", last.verify(), 17);
  }

  /** The word behind EXIT, JUMP, RETURN is reached by a label alone. */
  private static void reaching() {
    for (int word : new int[] {Asm.exit(0), Asm.jump(0)}) {
      RegionYard y = new RegionYard();
      Asm.open(y, 1, Asm.yieldTurn(), word, Asm.exit(7), Asm.exit(7));
      Asm.label(y, 0, 0, Asm.zero(0));
      Asm.label(y, 3, 0);
      Asm.due("not reached", y.verify(), 16 * 2 + 7);
    }
    RegionYard y = new RegionYard();
    Asm.open(y, 1, Asm.exit(0), Asm.giveBack(), Asm.exit(0));
    y.function(1);
    Asm.label(y, 0, 0, Asm.zero(0));
    Asm.label(y, 1, 1);
    Asm.due("not reached behind RETURN", y.verify(), 16 * 2 + 7);
    RegionYard z = new RegionYard();
    Asm.open(z, 1, Asm.set(0, 5), Asm.set(1, 5), Asm.exit(0));
    Asm.label(z, 0, 0);
    Asm.due("types go on from word to word", z.verify(), 0);
  }

  /** 0: CALL callee, 1: EXIT 1, 2: the function's word or words; its entry is at 2. */
  private static int callVerdict(int callee, int[][] start, int[][] entry, int[] out, int[][] behind) {
    RegionYard y = new RegionYard();
    Asm.open(y, 1, Asm.call(callee), Asm.jump(1), Asm.set(1, 3), Asm.giveBack());
    y.function(2);
    Asm.label(y, 0, 0, start);
    if (behind != null) {
      Asm.label(y, 1, 0, behind);
    }
    if (entry != null) {
      Asm.label(y, 2, 1, entry);
    }
    if (out != null) {
      y.out(1, out[0], out[1], out[2], out[3]);
    }
    return y.verify();
  }

  private static void calls() {
    int[][] any = {};
    int[][] three = {ints(1, 3, 3)};
    int[][] zero = {ints(1, 0, 0)};
    int[] outThree = ints(1, 3, 3);
    Asm.due("CALL", callVerdict(1, any, any, outThree, three), 0);
    Asm.due("CALL, OUT wider than behind", callVerdict(1, any, any, ints(1, 2, 3), three), 4);
    Asm.due("CALL, nothing OUT", callVerdict(1, any, any, null, three), 4);
    Asm.due("CALL, nothing wanted behind", callVerdict(1, any, any, null, any), 0);
    Asm.due("CALL, registers are not kept", callVerdict(1, zero, any, null, zero), 4);
    Asm.due("CALL of no function", callVerdict(2, any, any, outThree, three), 8);
    Asm.due("CALL of 65535", callVerdict(65535, any, any, outThree, three), 8);
    Asm.due("CALL of its own", callVerdict(0, any, any, outThree, three), 8);
    Asm.due("CALL, 8 ahead of 1", callVerdict(0, any, null, outThree, null), 8);
    Asm.due("CALL, the entry is no label", callVerdict(1, any, null, outThree, three), 1);
    Asm.due("CALL, the entry is met", callVerdict(1, zero, zero, outThree, three), 0);
    Asm.due("CALL, the entry is not met", callVerdict(1, any, zero, outThree, three), 9);
    Asm.due("CALL, 9 ahead of 1", callVerdict(1, any, zero, outThree, null), 9);
    Asm.due("CALL, no label behind", callVerdict(1, any, any, outThree, null), 1);
    RegionYard other = new RegionYard();
    Asm.open(other, 1, Asm.call(1), Asm.jump(1), Asm.giveBack());
    other.function(2);
    Asm.label(other, 0, 0);
    Asm.label(other, 1, 1);
    Asm.label(other, 2, 1);
    Asm.due("CALL, behind is a label of another", other.verify(), 1);
    RegionYard foreign = new RegionYard();
    Asm.open(foreign, 1, Asm.call(1), Asm.jump(1), Asm.giveBack());
    foreign.function(2);
    foreign.function(2);
    Asm.label(foreign, 0, 0);
    Asm.label(foreign, 1, 0);
    Asm.label(foreign, 2, 2);
    Asm.due("CALL, the entry is a label of another", foreign.verify(), 1);
    downwards();
  }

  private static void downwards() {
    for (int callee = 1; callee <= 3; callee++) {
      RegionYard y = new RegionYard();
      Asm.open(y, 1, Asm.exit(0), Asm.giveBack(), Asm.call(callee), Asm.giveBack(), Asm.giveBack());
      y.function(1);
      y.function(2);
      y.function(4);
      Asm.label(y, 0, 0, Asm.zero(0));
      Asm.label(y, 1, 1);
      Asm.label(y, 2, 2);
      Asm.label(y, 3, 2);
      Asm.label(y, 4, 3);
      Asm.due("CALL of " + callee + " from function 2", y.verify(), callee == 3 ? 0 : 16 * 2 + 8);
    }
    RegionYard last = new RegionYard();
    Asm.open(last, 1, Asm.exit(0), Asm.giveBack(), Asm.call(1));
    last.function(1);
    Asm.label(last, 0, 0, Asm.zero(0));
    Asm.label(last, 1, 1);
    Asm.label(last, 2, 0);
    Asm.due("CALL as the last word", last.verify(), 16 * 2 + 1);
  }

  private static int linkedVerdict(int link, int[][] start, int[][] behind) {
    RegionYard y = new RegionYard();
    Asm.open(y, 1, Asm.exit(0), Asm.set(2, 4), Asm.giveBack());
    y.function(1);
    Asm.label(y, 0, 0, Asm.zero(0));
    Asm.label(y, 1, 1, ints(1, 0, 5));
    y.out(1, 2, Asm.INT, 4, 6);
    Asm.due("verify of the library", y.verify(), 0);
    Asm.open(y, 1, Asm.linked(link), Asm.jump(1));
    Asm.due("link", y.link(0, 1), 0);
    Asm.label(y, 0, 0, start);
    if (behind != null) {
      Asm.label(y, 1, 0, behind);
    }
    return y.verify();
  }

  private static void linkedCalls() {
    int[][] any = {};
    int[][] good = {ints(1, 0, 5)};
    Asm.due("LINKED", linkedVerdict(0, good, new int[][] {ints(2, 4, 6)}), 0);
    Asm.due("LINKED of narrower ones", linkedVerdict(0, new int[][] {ints(1, 0, 0)}, any), 0);
    Asm.due("LINKED of no link", linkedVerdict(1, good, any), 8);
    Asm.due("LINKED of 65535", linkedVerdict(65535, good, null), 8);
    Asm.due("LINKED, the entry is not met", linkedVerdict(0, any, any), 9);
    Asm.due("LINKED, the entry is not met", linkedVerdict(0, new int[][] {ints(1, 0, 6)}, null), 9);
    Asm.due("LINKED, no label behind", linkedVerdict(0, good, null), 1);
    Asm.due("LINKED, OUT is wider", linkedVerdict(0, good, new int[][] {ints(2, 4, 5)}), 4);
    Asm.due("LINKED, not OUT", linkedVerdict(0, good, good), 4);
  }

  private static void returns() {
    RegionYard y = new RegionYard();
    Asm.open(y, 1, Asm.giveBack());
    Asm.label(y, 0, 0);
    Asm.due("RETURN in function 0", y.verify(), 11);
    for (int number = 3; number <= 6; number++) {
      RegionYard z = new RegionYard();
      Asm.open(z, 1, Asm.exit(0), Asm.set(1, number), Asm.giveBack());
      z.function(1);
      z.out(1, 1, Asm.INT, 4, 5);
      Asm.label(z, 0, 0, Asm.zero(0));
      Asm.label(z, 1, 1);
      Asm.due("RETURN with " + number, z.verify(), number == 4 || number == 5 ? 0 : 16 * 2 + 10);
    }
  }

  private static void firstFaultFirst() {
    RegionYard y = new RegionYard();
    Asm.open(y, 1, Asm.yieldTurn(), Asm.exit(5), Asm.exit(0), Asm.jump(99));
    Asm.label(y, 0, 0);
    Asm.label(y, 3, 0);
    Asm.due("the first of three", y.verify(), 16 + 2);
    Asm.due("state", y.program(0, 0), 2);
    Asm.due("what verify answered", y.program(0, 5), 18);
    Asm.due("spawn of it", y.spawn(0, 100), -1);
    RegionYard far = new RegionYard();
    far.begin(1);
    for (int i = 0; i < 199; i++) {
      far.feed(Asm.yieldTurn());
    }
    far.feed(Asm.exit(1));
    Asm.label(far, 0, 0);
    Asm.due("the last of 200", far.verify(), 16 * 199 + 2);
  }
}
