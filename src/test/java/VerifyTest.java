/** Promise 9 and the rules of section 3: each reason, and the bounds that each OP makes. */
public final class VerifyTest {
  private VerifyTest() {
  }

  public static void main(String[] args) {
    starts();
    kinds();
    sums();
    pointers();
    products();
    quotients();
    quotientsByTrying();
    remainders();
    bits();
    cells();
    lessWays();
    sameWays();
    goings();
    reaching();
    calls();
    linkedCalls();
    returns();
    firstFaultFirst();
    Asm.end("VerifyTest");
  }

  private static int startVerdict(int[]... types) {
    RegionYard y = new RegionYard();
    Asm.open(y, 1, Asm.yieldTurn(), Asm.jump(0));
    Asm.label(y, 0, 0, types);
    return y.verify();
  }

  private static void starts() {
    Asm.due("verify, none OPEN", new RegionYard().verify(), -1);
    RegionYard empty = new RegionYard();
    empty.begin(1);
    Asm.due("verify without words", empty.verify(), 1);
    Asm.due("refused", empty.program(0, 0), 2);
    RegionYard bare = new RegionYard();
    Asm.open(bare, 1, Asm.giveBack());
    Asm.due("index 0 is no label", bare.verify(), 12);
    Asm.due("start of any", startVerdict(), 0);
    Asm.due("start of 0 .. 0", startVerdict(Small.ints(7, 0, 0)), 0);
    Asm.due("start of -1 .. 1", startVerdict(Small.ints(7, -1, 1)), 0);
    Asm.due("start of 1 .. 1", startVerdict(Small.ints(7, 1, 1)), 12);
    Asm.due("start of -1 .. -1", startVerdict(Small.ints(3, -1, -1)), 12);
    Asm.due("start of a POINTER", startVerdict(Small.pointer(0, 0, 0)), 12);
  }

  /** Every register that an OP reads: any and the wrong kinds are 2. */
  private static void kinds() {
    int[][] one = {null, Asm.type(1, Asm.POINTER, 1, 2)};
    for (int[] wrong : one) {
      int[][] types = wrong == null ? new int[0][] : new int[][] {wrong};
      Small.fault("EXIT kind", 8, Asm.exit(1), 2, types);
      Small.fault("AND kind", 8, Asm.and(2, 1, 3), 2, types);
      Small.fault("SHIFT kind", 8, Asm.shift(2, 1, 3), 2, types);
      for (int op = 6; op <= 8; op++) {
        Small.fault("op " + op + " A", 8, Asm.word(op, 3, 1, 2 << 12), 2, Small.with(Small.ints(2, 1, 1), types));
        Small.fault("op " + op + " B", 8, Asm.word(op, 3, 2, 1 << 12), 2, Small.with(Small.ints(2, 0, 0), types));
      }
      Small.fault("STORE D", 8, Asm.store(1, 2, 0), 2, Small.with(Small.pointer(2, 0, 0), types));
      for (int op = 16; op <= 17; op++) {
        Small.fault("op " + op + " D", 8, Asm.word(op, 1, 2, 2), 2, Small.with(Small.ints(2, 1, 1), types));
        Small.fault("op " + op + " A", 8, Asm.word(op, 2, 1, 2), 2, Small.with(Small.ints(2, 1, 1), types));
        Small.fault("op " + op + " both", 8, Asm.word(op, 1, 1, 2), 2, types);
      }
    }
    Small.fault("INC any", 8, Asm.inc(2, 1, 1), 2);
    Small.fault("ADD any", 8, Asm.add(3, 1, 2), 2, Small.ints(1, 0, 0));
    Small.fault("ADD any", 8, Asm.add(3, 2, 1), 2, Small.ints(1, 0, 0));
    Small.fault("ADD any", 8, Asm.add(3, 1, 2), 2, Small.pointer(1, 0, 0));
    Small.fault("ADD POINTERS", 8, Asm.add(3, 1, 2), 2, Small.pointer(1, 0, 0), Small.pointer(2, 0, 0));
    Small.fault("SUB any", 8, Asm.sub(3, 1, 2), 2, Small.ints(1, 0, 0));
    Small.fault("SUB any", 8, Asm.sub(3, 2, 1), 2, Small.ints(1, 0, 0));
    Small.fault("SUB any", 8, Asm.sub(3, 1, 2), 2, Small.pointer(1, 0, 0));
    Small.fault("SUB POINTERS", 8, Asm.sub(3, 1, 2), 2, Small.pointer(1, 0, 0), Small.pointer(2, 0, 0));
    Small.fault("SUB INT less POINTER", 8, Asm.sub(3, 1, 2), 2, Small.ints(1, 0, 0), Small.pointer(2, 0, 0));
    Small.fault("LOAD INT", 8, Asm.load(3, 1, 0), 2, Small.ints(1, 0, 0));
    Small.fault("LOAD any", 8, Asm.load(3, 1, 0), 2);
    Small.fault("STORE INT", 8, Asm.store(1, 1, 0), 2, Small.ints(1, 0, 0));
    Small.fault("STORE any", 8, Asm.store(1, 2, 0), 2, Small.ints(1, 0, 0));
    Small.fault("EXIT an INT", 8, Asm.exit(1), 0, Small.ints(1, -5, 5));
    Small.fault("MOVE any", 8, Asm.move(1, 2), 0);
    Asm.due("MOVE any makes any", Small.verdict(8, Asm.move(1, 2), new int[][] {Small.ints(1, 0, 0)}, Small.ints(1, Asm.MIN, Asm.MAX)), 20);
    Small.fault("kind ahead of 5", 8, Asm.div(1, 2, 3), 2, Small.ints(3, 0, 0));
    Small.fault("kind ahead of 3", 8, Asm.store(1, 2, 99), 2, Small.pointer(2, 0, 0));
    Small.fault("kind ahead of where it goes", 8, Asm.less(1, 2, 77), 2, Small.ints(1, 0, 0));
  }

  private static void sums() {
    Small.makes("SET", Asm.set(1, -7), Small.ints(1, -7, -7));
    Small.makes("SET least", Asm.set(1, 0x8000), Small.ints(1, -32768, -32768));
    Small.makes("SET greatest", Asm.set(1, 0x7FFF), Small.ints(1, 32767, 32767));
    Small.makes("MOVE INT", Asm.move(1, 2), Small.ints(1, 3, 9), Small.ints(2, 3, 9));
    Small.makes("MOVE POINTER", Asm.move(1, 2), Small.pointer(1, -3, 9), Small.pointer(2, -3, 9));
    Small.makes("YIELD", Asm.yieldTurn(), Small.ints(1, 3, 9), Small.ints(1, 3, 9));
    Small.makes("ADD", Asm.add(1, 2, 3), Small.ints(1, -2, 13), Small.ints(2, -5, 6), Small.ints(3, 3, 7));
    Small.makes("ADD to itself", Asm.add(2, 2, 2), Small.ints(2, -10, 12), Small.ints(2, -5, 6));
    Small.makes("ADD up to the greatest", Asm.add(1, 2, 3), Small.ints(1, 5, Asm.MAX), Small.ints(2, 5, Asm.MAX - 1), Small.ints(3, 0, 1));
    Small.makes("ADD above", Asm.add(1, 2, 3), Asm.anyInt(1), Small.ints(2, 5, Asm.MAX), Small.ints(3, 0, 1));
    Small.makes("ADD all above", Asm.add(1, 2, 3), Asm.anyInt(1), Small.ints(2, Asm.MAX, Asm.MAX), Small.ints(3, 1, 1));
    Small.makes("ADD down to the least", Asm.add(1, 2, 3), Small.ints(1, Asm.MIN, 4), Small.ints(2, Asm.MIN + 1, 5), Small.ints(3, -1, -1));
    Small.makes("ADD below", Asm.add(1, 2, 3), Asm.anyInt(1), Small.ints(2, Asm.MIN, 5), Small.ints(3, -1, 0));
    Small.makes("SUB", Asm.sub(1, 2, 3), Small.ints(1, -12, 3), Small.ints(2, -5, 6), Small.ints(3, 3, 7));
    Small.makes("SUB of itself", Asm.sub(1, 2, 2), Small.ints(1, -11, 11), Small.ints(2, -5, 6));
    Small.makes("SUB above", Asm.sub(1, 2, 3), Asm.anyInt(1), Small.ints(2, 0, 0), Small.ints(3, Asm.MIN, Asm.MIN));
    Small.makes("SUB below", Asm.sub(1, 2, 3), Asm.anyInt(1), Small.ints(2, -2, 0), Small.ints(3, 0, Asm.MAX));
    Small.makes("SUB to the least", Asm.sub(1, 2, 3), Small.ints(1, Asm.MIN, 0), Small.ints(2, -1, 0), Small.ints(3, 0, Asm.MAX));
    Small.makes("INC", Asm.inc(1, 2, -3), Small.ints(1, -8, 3), Small.ints(2, -5, 6));
    Small.makes("INC above", Asm.inc(2, 2, 1), Asm.anyInt(2), Small.ints(2, 0, Asm.MAX));
    Small.makes("INC below", Asm.inc(2, 2, -1), Asm.anyInt(2), Small.ints(2, Asm.MIN, 0));
  }

  private static void pointers() {
    Small.makes("BASE", Asm.base(1, 0xFFFF), Small.pointer(1, 65535, 65535));
    Small.makes("BASE 0", Asm.base(1, 0), Small.pointer(1, 0, 0));
    Small.makes("POINTER + INT", Asm.add(1, 2, 3), Small.pointer(1, -2, 13), Small.pointer(2, -5, 6), Small.ints(3, 3, 7));
    Small.makes("INT + POINTER", Asm.add(1, 3, 2), Small.pointer(1, -2, 13), Small.pointer(2, -5, 6), Small.ints(3, 3, 7));
    Small.makes("POINTER - INT", Asm.sub(1, 2, 3), Small.pointer(1, -12, 3), Small.pointer(2, -5, 6), Small.ints(3, 3, 7));
    Small.makes("INC POINTER", Asm.inc(1, 2, 5), Small.pointer(1, 0, 11), Small.pointer(2, -5, 6));
    Small.makes("POINTER to 1000000", Asm.add(1, 2, 3), Small.pointer(1, -1000000, 1000000), Small.pointer(2, 0, 0), Small.ints(3, -1000000, 1000000));
    Small.fault("POINTER + to 1000001", 8, Asm.add(1, 2, 3), 6, Small.pointer(2, 0, 1), Small.ints(3, 0, 1000000));
    Small.fault("POINTER + to -1000001", 8, Asm.add(1, 3, 2), 6, Small.pointer(2, -1, 0), Small.ints(3, -1000000, 0));
    Small.fault("POINTER - to 1000001", 8, Asm.sub(1, 2, 3), 6, Small.pointer(2, 0, 1), Small.ints(3, -1000000, 0));
    Small.fault("POINTER - to -1000001", 8, Asm.sub(1, 2, 3), 6, Small.pointer(2, -1, 0), Small.ints(3, 0, 1000000));
    Small.fault("POINTER - all above", 8, Asm.sub(1, 2, 3), 6, Small.pointer(2, 0, 0), Small.ints(3, -3000000, -2000000));
    Small.fault("POINTER + wraps", 8, Asm.add(1, 2, 3), 6, Small.pointer(2, Asm.MAX, Asm.MAX), Small.ints(3, Asm.MAX, Asm.MAX));
    Small.fault("POINTER + wraps below", 8, Asm.add(1, 2, 3), 6, Small.pointer(2, Asm.MIN, Asm.MIN), Small.ints(3, Asm.MIN, Asm.MIN));
    Small.fault("INC POINTER too far", 8, Asm.inc(1, 2, 1), 6, Small.pointer(2, 0, 1000000));
    Small.fault("INC POINTER too low", 8, Asm.inc(1, 2, -1), 6, Small.pointer(2, -1000000, 0));
    Small.fault("INC POINTER by 0, told too far", 8, Asm.inc(1, 2, 0), 6, Small.pointer(2, 0, 1000001));
    Small.fault("INC POINTER back", 8, Asm.inc(1, 2, -1), 0, Small.pointer(2, 5, 1000001));
  }

  private static void products() {
    Small.makes("MUL", Asm.mul(1, 2, 3), Small.ints(1, -35, 42), Small.ints(2, -5, 6), Small.ints(3, 3, 7));
    Small.makes("MUL of itself", Asm.mul(1, 2, 2), Small.ints(1, -30, 36), Small.ints(2, -5, 6));
    Small.makes("MUL of those below 0", Asm.mul(1, 2, 3), Small.ints(1, 6, 20), Small.ints(2, -5, -3), Small.ints(3, -4, -2));
    Small.makes("MUL by 0", Asm.mul(1, 2, 3), Small.ints(1, 0, 0), Small.ints(2, Asm.MIN, Asm.MAX), Small.ints(3, 0, 0));
    Small.makes("MUL to the greatest", Asm.mul(1, 2, 3), Small.ints(1, -Asm.MAX, Asm.MAX), Small.ints(2, -Asm.MAX, Asm.MAX), Small.ints(3, 1, 1));
    Small.makes("MUL of the least by -1", Asm.mul(1, 2, 3), Asm.anyInt(1), Small.ints(2, Asm.MIN, -5), Small.ints(3, -1, -1));
    Small.makes("MUL above", Asm.mul(1, 2, 3), Asm.anyInt(1), Small.ints(2, 0, 65536), Small.ints(3, 0, 32768));
    Small.makes("MUL below", Asm.mul(1, 2, 3), Asm.anyInt(1), Small.ints(2, -65536, 0), Small.ints(3, 0, 32769));
    Small.makes("MUL to the least", Asm.mul(1, 2, 3), Small.ints(1, Asm.MIN, 0), Small.ints(2, -65536, 0), Small.ints(3, 0, 32768));
    Small.makes("MUL of all", Asm.mul(1, 2, 3), Asm.anyInt(1), Asm.anyInt(2), Asm.anyInt(3));
  }

  private static void quotients() {
    Small.makes("DIV", Asm.div(1, 2, 3), Small.ints(1, -2, 3), Small.ints(2, -5, 6), Small.ints(3, 2, 7));
    Small.makes("DIV by those below 0", Asm.div(1, 2, 3), Small.ints(1, -3, 2), Small.ints(2, -5, 6), Small.ints(3, -7, -2));
    Small.makes("DIV towards 0", Asm.div(1, 2, 3), Small.ints(1, -3, -3), Small.ints(2, -7, -7), Small.ints(3, 2, 2));
    Small.makes("DIV of the least by -1", Asm.div(1, 2, 3), Asm.anyInt(1), Small.ints(2, Asm.MIN, Asm.MIN), Small.ints(3, -1, -1));
    Small.makes("DIV of the next by -1", Asm.div(1, 2, 3), Small.ints(1, 5, Asm.MAX), Small.ints(2, Asm.MIN + 1, -5), Small.ints(3, -1, -1));
    Small.makes("DIV of the least by -2 .. -1", Asm.div(1, 2, 3), Asm.anyInt(1), Small.ints(2, Asm.MIN, 5), Small.ints(3, -2, -1));
    Small.makes("DIV of all by 1", Asm.div(1, 2, 3), Asm.anyInt(1), Asm.anyInt(2), Small.ints(3, 1, Asm.MAX));
    Small.makes("DIV into its divisor", Asm.div(3, 2, 3), Small.ints(3, 1, 5), Small.ints(2, 4, 5), Small.ints(3, 1, 4));
    for (int op = 7; op <= 8; op++) {
      Small.fault("by 0 .. 0", 8, Asm.word(op, 1, 2, 3 << 12), 5, Small.ints(2, 1, 1), Small.ints(3, 0, 0));
      Small.fault("by -1 .. 1", 8, Asm.word(op, 1, 2, 3 << 12), 5, Small.ints(2, 1, 1), Small.ints(3, -1, 1));
      Small.fault("by 0 .. 1", 8, Asm.word(op, 1, 2, 3 << 12), 5, Small.ints(2, 1, 1), Small.ints(3, 0, 1));
      Small.fault("by -1 .. 0", 8, Asm.word(op, 1, 2, 3 << 12), 5, Small.ints(2, 1, 1), Small.ints(3, -1, 0));
      Small.fault("by -1 .. -1", 8, Asm.word(op, 1, 2, 3 << 12), 0, Small.ints(2, 1, 1), Small.ints(3, -1, -1));
      Small.fault("by 1 .. 1", 8, Asm.word(op, 1, 2, 3 << 12), 0, Small.ints(2, 1, 1), Small.ints(3, 1, 1));
    }
  }

  private static void quotientsByTrying() {
    for (int lowA = -7; lowA <= 7; lowA += 3) {
      for (int highA = lowA; highA <= 8; highA += 4) {
        for (int lowB = -4; lowB <= 4; lowB++) {
          for (int highB = lowB; highB <= 4; highB += 2) {
            if (lowB > 0 || highB < 0) {
              tryQuotients(lowA, highA, lowB, highB);
            }
          }
        }
      }
    }
  }

  private static void tryQuotients(int lowA, int highA, int lowB, int highB) {
    int low = Asm.MAX;
    int high = Asm.MIN;
    for (int x = lowA; x <= highA; x++) {
      for (int z = lowB; z <= highB; z++) {
        low = Math.min(low, x / z);
        high = Math.max(high, x / z);
      }
    }
    Small.makes("DIV by trying", Asm.div(1, 2, 3), Small.ints(1, low, high), Small.ints(2, lowA, highA), Small.ints(3, lowB, highB));
  }

  private static void remainders() {
    Small.makes("REM", Asm.rem(1, 2, 3), Small.ints(1, -6, 6), Small.ints(2, -5, 6), Small.ints(3, 2, 7));
    Small.makes("REM of those from 0 on", Asm.rem(1, 2, 3), Small.ints(1, 0, 6), Small.ints(2, 0, 1), Small.ints(3, 2, 7));
    Small.makes("REM of those up to 0", Asm.rem(1, 2, 3), Small.ints(1, -6, 0), Small.ints(2, -9, 0), Small.ints(3, -7, -2));
    Small.makes("REM of 0", Asm.rem(1, 2, 3), Small.ints(1, 0, 0), Small.ints(2, 0, 0), Small.ints(3, -7, -2));
    Small.makes("REM by 1", Asm.rem(1, 2, 3), Small.ints(1, 0, 0), Asm.anyInt(2), Small.ints(3, 1, 1));
    Small.makes("REM by the least", Asm.rem(1, 2, 3), Small.ints(1, -Asm.MAX, Asm.MAX), Asm.anyInt(2), Small.ints(3, Asm.MIN, -1));
    Small.makes("REM by the greatest", Asm.rem(1, 2, 3), Small.ints(1, 1 - Asm.MAX, Asm.MAX - 1), Asm.anyInt(2), Small.ints(3, 1, Asm.MAX));
  }

  private static void bits() {
    Small.makes("AND", Asm.and(1, 2, 0xFFFF), Small.ints(1, 0, 65535), Asm.anyInt(2));
    Small.makes("AND of few", Asm.and(1, 2, 6), Small.ints(1, 0, 6), Small.ints(2, 1, 1));
    Small.makes("AND 0", Asm.and(1, 2, 0), Small.ints(1, 0, 0), Asm.anyInt(2));
    Small.makes("SHIFT", Asm.shift(1, 2, 2), Small.ints(1, -2, 2), Small.ints(2, -5, 11));
    Small.makes("SHIFT 0", Asm.shift(1, 2, 0), Small.ints(1, -5, 11), Small.ints(2, -5, 11));
    Small.makes("SHIFT 31", Asm.shift(1, 2, 31), Small.ints(1, -1, 0), Asm.anyInt(2));
  }

  private static void cells() {
    Small.makes("LOAD", Asm.load(1, 2, 0), Asm.anyInt(1), Small.pointer(2, 0, 7));
    Small.makes("LOAD into its pointer", Asm.load(2, 2, 0), Asm.anyInt(2), Small.pointer(2, 0, 7));
    Small.makes("STORE", Asm.store(1, 2, 0), Small.ints(1, 3, 4), Small.ints(1, 3, 4), Small.pointer(2, 0, 7));
    for (int op = 13; op <= 14; op++) {
      Small.fault("cell 0 .. 8", 8, Asm.word(op, 1, 2, 0), 3, Small.ints(1, 0, 0), Small.pointer(2, 0, 8));
      Small.fault("cell -1 .. 7", 8, Asm.word(op, 1, 2, 0), 3, Small.ints(1, 0, 0), Small.pointer(2, -1, 7));
      Small.fault("cell 1 .. 8 less 1", 8, Asm.word(op, 1, 2, -1), 0, Small.ints(1, 0, 0), Small.pointer(2, 1, 8));
      Small.fault("cell 0 .. 8 less 1", 8, Asm.word(op, 1, 2, -1), 3, Small.ints(1, 0, 0), Small.pointer(2, 0, 8));
      Small.fault("cell -3 .. 4 and 3", 8, Asm.word(op, 1, 2, 3), 0, Small.ints(1, 0, 0), Small.pointer(2, -3, 4));
      Small.fault("cell -3 .. 5 and 3", 8, Asm.word(op, 1, 2, 3), 3, Small.ints(1, 0, 0), Small.pointer(2, -3, 5));
      Small.fault("cell beyond all", 1024, Asm.word(op, 1, 2, 32767), 3, Small.ints(1, 0, 0), Small.pointer(2, 0, Asm.MAX));
      Small.fault("cell below all", 1024, Asm.word(op, 1, 2, -32768), 3, Small.ints(1, 0, 0), Small.pointer(2, Asm.MIN, 0));
      Small.fault("the last of 1024", 1024, Asm.word(op, 1, 2, 0), 0, Small.ints(1, 0, 0), Small.pointer(2, 1023, 1023));
      Small.fault("behind the last of 1024", 1024, Asm.word(op, 1, 2, 0), 3, Small.ints(1, 0, 0), Small.pointer(2, 1024, 1024));
    }
  }

  private static void lessWays() {
    int[][] any = Small.ANY;
    int word = Asm.less(1, 2, 3);
    Small.wayIs("LESS", word, Small.both(0, 9, 0, 9), Small.both(0, 9, 0, 9), Small.both(0, 8, 1, 9));
    Small.wayIs("LESS apart", word, Small.both(0, 5, 3, 9), Small.both(3, 5, 3, 5), Small.both(0, 5, 3, 9));
    Small.wayIs("LESS over", word, Small.both(3, 9, 0, 5), Small.both(3, 9, 0, 5), Small.both(3, 4, 4, 5));
    Small.wayIs("LESS of all", word, Small.both(Asm.MIN, Asm.MAX, Asm.MIN, Asm.MAX), Small.both(Asm.MIN, Asm.MAX, Asm.MIN, Asm.MAX),
      Small.both(Asm.MIN, Asm.MAX - 1, Asm.MIN + 1, Asm.MAX));
    // N is not gone: nothing is asked of it
    Asm.due("LESS never, no label", Small.branch(word, Small.both(5, 9, 0, 5), any, null), 16 * 3 + 7);
    Small.wayIs("LESS never", word, Small.both(5, 9, 0, 5), Small.both(5, 9, 0, 5), Small.both(77, 77, 77, 77));
    Small.wayIs("LESS never of the greatest", word, Small.both(Asm.MAX, Asm.MAX, Asm.MIN, Asm.MAX),
      Small.both(Asm.MAX, Asm.MAX, Asm.MIN, Asm.MAX), Small.both(0, 0, 0, 0));
    Small.wayIs("LESS never than the least", word, Small.both(Asm.MIN, Asm.MAX, Asm.MIN, Asm.MIN),
      Small.both(Asm.MIN, Asm.MAX, Asm.MIN, Asm.MIN), Small.both(0, 0, 0, 0));
    // the next index is not gone
    Small.wayIs("LESS always", word, Small.both(0, 4, 5, 9), Small.both(77, 77, 77, 77), Small.both(0, 4, 5, 9));
    Asm.due("LESS always, the next is no label", Small.branch(word, Small.both(0, 4, 5, 9), null, any), 16 * 2 + 7);
    Asm.due("LESS mostly, the next is no label", Small.branch(word, Small.both(0, 5, 5, 9), null, any), Small.REACHED);
    // of one register
    Asm.due("LESS of itself never goes to N", Small.branch(Asm.less(1, 1, 99), Small.both(0, 9, 0, 9), Small.both(0, 9, 0, 9), any), 0);
    Asm.due("LESS of itself goes on as it was", Small.branch(Asm.less(1, 1, 99), Small.both(0, 9, 0, 9), Small.both(0, 8, 0, 9), any), 20);
    Asm.due("LESS of itself goes on", Small.branch(Asm.less(1, 1, 3), Small.both(0, 9, 0, 9), null, Small.both(77, 77, 0, 0)), Small.REACHED);
    // N ahead of the next one, and where it goes at all
    Asm.due("LESS, N no label, next unmet", Small.branch(Asm.less(1, 2, 9), Small.both(0, 9, 0, 9), Small.both(5, 5, 0, 0), any), 17);
    Asm.due("LESS, N unmet, next of another", Small.branch(word, Small.both(0, 9, 0, 9), null, Small.both(5, 5, 0, 0)), 20);
    lessAtTheEnd();
  }

  private static void lessAtTheEnd() {
    for (int high = 4; high <= 5; high++) {
      RegionYard y = new RegionYard();
      Asm.open(y, 4, Asm.exit(0), Asm.less(1, 2, 0));
      Asm.label(y, 0, 0, Asm.zero(0));
      Asm.label(y, 1, 0, Asm.zero(0), Small.ints(1, 0, high), Small.ints(2, 5, 9));
      Asm.due("LESS as the last word", y.verify(), high == 4 ? 0 : 17);
    }
  }

  private static void sameWays() {
    int[][] any = Small.ANY;
    int word = Asm.same(1, 2, 3);
    Small.wayIs("SAME", word, Small.both(0, 9, 0, 9), Small.both(0, 9, 0, 9), Small.both(0, 9, 0, 9));
    Small.wayIs("SAME apart", word, Small.both(0, 5, 3, 9), Small.both(0, 5, 3, 9), Small.both(3, 5, 3, 5));
    Small.wayIs("SAME within", word, Small.both(3, 4, -9, 9), Small.both(3, 4, -9, 9), Small.both(3, 4, 3, 4));
    Small.wayIs("SAME never", word, Small.both(0, 2, 3, 9), Small.both(0, 2, 3, 9), Small.both(77, 77, 0, 0));
    Asm.due("SAME never, next is no label", Small.branch(word, Small.both(0, 2, 3, 9), null, Small.both(77, 77, 0, 0)), Small.REACHED);
    Asm.due("SAME of one number still goes on", Small.branch(word, Small.both(5, 5, 5, 5), Small.both(77, 77, 0, 0), any), 20);
    Asm.due("SAME of itself never goes on", Small.branch(Asm.same(1, 1, 3), Small.both(0, 9, 0, 9), Small.both(77, 77, 0, 0), Small.both(0, 9, 0, 9)), 0);
    Asm.due("SAME of itself goes to N", Small.branch(Asm.same(1, 1, 3), Small.both(0, 9, 0, 9), any, Small.both(1, 9, 0, 9)), 20);
    Asm.due("SAME of itself, N no label", Small.branch(Asm.same(1, 1, 4), Small.both(0, 9, 0, 9), any, any), 17);
    Asm.due("SAME of itself: next not reached", Small.branch(Asm.same(1, 1, 3), Small.both(0, 9, 0, 9), null, any), 16 * 2 + 7);
    Asm.due("SAME, N ahead of the next", Small.branch(Asm.same(1, 2, 65535), Small.both(0, 9, 0, 9), Small.both(77, 77, 0, 0), any), 17);
  }

  private static void goings() {
    int[][] any = Small.ANY;
    int[][] from = Small.both(0, 9, 0, 9);
    Asm.due("JUMP", Small.branch(Asm.jump(3), from, any, from), 0);
    Asm.due("JUMP unmet", Small.branch(Asm.jump(3), from, any, Small.both(0, 9, 0, 8)), 20);
    Asm.due("JUMP from any", Small.branch(Asm.jump(3), any, any, Small.both(Asm.MIN, Asm.MAX, Asm.MIN, Asm.MAX)), 20);
    Asm.due("JUMP to a wider one", Small.branch(Asm.jump(3), from, any, Small.both(-1, 10, -1, 10)), 0);
    Asm.due("JUMP to no word", Small.branch(Asm.jump(4), from, any, any), 17);
    Asm.due("JUMP to 65535", Small.branch(Asm.jump(65535), from, any, any), 17);
    Asm.due("JUMP to no label", Small.branch(Asm.jump(2), from, null, any), 17);
    RegionYard y = new RegionYard();
    Asm.open(y, 1, Asm.yieldTurn(), Asm.exit(0), Asm.jump(2));
    y.function(2);
    Asm.label(y, 0, 0, Asm.zero(0));
    Asm.label(y, 2, 1);
    Asm.due("labels of two functions", y.verify(), 0);
    for (int word : new int[] {Asm.yieldTurn(), Asm.jump(2)}) {
      RegionYard z = new RegionYard();
      Asm.open(z, 1, Asm.yieldTurn(), word, Asm.jump(2));
      z.function(2);
      Asm.label(z, 0, 0, Asm.zero(0));
      Asm.label(z, 2, 1);
      Asm.due("going into another function", z.verify(), 17);
    }
    RegionYard last = new RegionYard();
    Asm.open(last, 1, Asm.yieldTurn(), Asm.yieldTurn());
    Asm.label(last, 0, 0);
    Asm.due("beyond the last word", last.verify(), 17);
  }

  /** The word behind EXIT, JUMP, RETURN is reached by a label alone. */
  private static void reaching() {
    for (int word : new int[] {Asm.exit(0), Asm.jump(0)}) {
      RegionYard y = new RegionYard();
      Asm.open(y, 1, Asm.yieldTurn(), word, Asm.exit(7), Asm.exit(7));
      Asm.label(y, 0, 0, Asm.zero(0));
      Asm.label(y, 3, 0);
      Asm.due("not reached", y.verify(), 16 * 2 + 7);
    }
    RegionYard y = new RegionYard();
    Asm.open(y, 1, Asm.exit(0), Asm.giveBack(), Asm.exit(0));
    y.function(1);
    Asm.label(y, 0, 0, Asm.zero(0));
    Asm.label(y, 1, 1);
    Asm.due("not reached behind RETURN", y.verify(), 16 * 2 + 7);
    RegionYard z = new RegionYard();
    Asm.open(z, 1, Asm.set(0, 5), Asm.set(1, 5), Asm.exit(0));
    Asm.label(z, 0, 0);
    Asm.due("types go on from word to word", z.verify(), 0);
  }

  /** 0: CALL callee, 1: EXIT 1, 2: the function's word or words; its entry is at 2. */
  private static int callVerdict(int callee, int[][] start, int[][] entry, int[] out, int[][] behind) {
    RegionYard y = new RegionYard();
    Asm.open(y, 1, Asm.call(callee), Asm.jump(1), Asm.set(1, 3), Asm.giveBack());
    y.function(2);
    Asm.label(y, 0, 0, start);
    if (behind != null) {
      Asm.label(y, 1, 0, behind);
    }
    if (entry != null) {
      Asm.label(y, 2, 1, entry);
    }
    if (out != null) {
      y.out(1, out[0], out[1], out[2], out[3]);
    }
    return y.verify();
  }

  private static void calls() {
    int[][] any = Small.ANY;
    int[][] three = {Small.ints(1, 3, 3)};
    int[][] zero = {Small.ints(1, 0, 0)};
    int[] outThree = Small.ints(1, 3, 3);
    Asm.due("CALL", callVerdict(1, any, any, outThree, three), 0);
    Asm.due("CALL, OUT wider than behind", callVerdict(1, any, any, Small.ints(1, 2, 3), three), 4);
    Asm.due("CALL, nothing OUT", callVerdict(1, any, any, null, three), 4);
    Asm.due("CALL, nothing wanted behind", callVerdict(1, any, any, null, any), 0);
    Asm.due("CALL, registers are not kept", callVerdict(1, zero, any, null, zero), 4);
    Asm.due("CALL of no function", callVerdict(2, any, any, outThree, three), 8);
    Asm.due("CALL of 65535", callVerdict(65535, any, any, outThree, three), 8);
    Asm.due("CALL of its own", callVerdict(0, any, any, outThree, three), 8);
    Asm.due("CALL, 8 ahead of 1", callVerdict(0, any, null, outThree, null), 8);
    Asm.due("CALL, the entry is no label", callVerdict(1, any, null, outThree, three), 1);
    Asm.due("CALL, the entry is met", callVerdict(1, zero, zero, outThree, three), 0);
    Asm.due("CALL, the entry is not met", callVerdict(1, any, zero, outThree, three), 9);
    Asm.due("CALL, 9 ahead of 1", callVerdict(1, any, zero, outThree, null), 9);
    Asm.due("CALL, no label behind", callVerdict(1, any, any, outThree, null), 1);
    RegionYard other = new RegionYard();
    Asm.open(other, 1, Asm.call(1), Asm.jump(1), Asm.giveBack());
    other.function(2);
    Asm.label(other, 0, 0);
    Asm.label(other, 1, 1);
    Asm.label(other, 2, 1);
    Asm.due("CALL, behind is a label of another", other.verify(), 1);
    RegionYard foreign = new RegionYard();
    Asm.open(foreign, 1, Asm.call(1), Asm.jump(1), Asm.giveBack());
    foreign.function(2);
    foreign.function(2);
    Asm.label(foreign, 0, 0);
    Asm.label(foreign, 1, 0);
    Asm.label(foreign, 2, 2);
    Asm.due("CALL, the entry is a label of another", foreign.verify(), 1);
    downwards();
  }

  private static void downwards() {
    for (int callee = 1; callee <= 3; callee++) {
      RegionYard y = new RegionYard();
      Asm.open(y, 1, Asm.exit(0), Asm.giveBack(), Asm.call(callee), Asm.giveBack(), Asm.giveBack());
      y.function(1);
      y.function(2);
      y.function(4);
      Asm.label(y, 0, 0, Asm.zero(0));
      Asm.label(y, 1, 1);
      Asm.label(y, 2, 2);
      Asm.label(y, 3, 2);
      Asm.label(y, 4, 3);
      Asm.due("CALL of " + callee + " from function 2", y.verify(), callee == 3 ? 0 : 16 * 2 + 8);
    }
    RegionYard last = new RegionYard();
    Asm.open(last, 1, Asm.exit(0), Asm.giveBack(), Asm.call(1));
    last.function(1);
    Asm.label(last, 0, 0, Asm.zero(0));
    Asm.label(last, 1, 1);
    Asm.label(last, 2, 0);
    Asm.due("CALL as the last word", last.verify(), 16 * 2 + 1);
  }

  private static int linkedVerdict(int link, int[][] start, int[][] behind) {
    RegionYard y = new RegionYard();
    Asm.open(y, 1, Asm.exit(0), Asm.set(2, 4), Asm.giveBack());
    y.function(1);
    Asm.label(y, 0, 0, Asm.zero(0));
    Asm.label(y, 1, 1, Small.ints(1, 0, 5));
    y.out(1, 2, Asm.INT, 4, 6);
    Asm.due("verify of the library", y.verify(), 0);
    Asm.open(y, 1, Asm.linked(link), Asm.jump(1));
    Asm.due("link", y.link(0, 1), 0);
    Asm.label(y, 0, 0, start);
    if (behind != null) {
      Asm.label(y, 1, 0, behind);
    }
    return y.verify();
  }

  private static void linkedCalls() {
    int[][] any = Small.ANY;
    int[][] good = {Small.ints(1, 0, 5)};
    Asm.due("LINKED", linkedVerdict(0, good, new int[][] {Small.ints(2, 4, 6)}), 0);
    Asm.due("LINKED of narrower ones", linkedVerdict(0, new int[][] {Small.ints(1, 0, 0)}, any), 0);
    Asm.due("LINKED of no link", linkedVerdict(1, good, any), 8);
    Asm.due("LINKED of 65535", linkedVerdict(65535, good, null), 8);
    Asm.due("LINKED, the entry is not met", linkedVerdict(0, any, any), 9);
    Asm.due("LINKED, the entry is not met", linkedVerdict(0, new int[][] {Small.ints(1, 0, 6)}, null), 9);
    Asm.due("LINKED, no label behind", linkedVerdict(0, good, null), 1);
    Asm.due("LINKED, OUT is wider", linkedVerdict(0, good, new int[][] {Small.ints(2, 4, 5)}), 4);
    Asm.due("LINKED, not OUT", linkedVerdict(0, good, good), 4);
  }

  private static void returns() {
    RegionYard y = new RegionYard();
    Asm.open(y, 1, Asm.giveBack());
    Asm.label(y, 0, 0);
    Asm.due("RETURN in function 0", y.verify(), 11);
    for (int number = 3; number <= 6; number++) {
      RegionYard z = new RegionYard();
      Asm.open(z, 1, Asm.exit(0), Asm.set(1, number), Asm.giveBack());
      z.function(1);
      z.out(1, 1, Asm.INT, 4, 5);
      Asm.label(z, 0, 0, Asm.zero(0));
      Asm.label(z, 1, 1);
      Asm.due("RETURN with " + number, z.verify(), number == 4 || number == 5 ? 0 : 16 * 2 + 10);
    }
  }

  private static void firstFaultFirst() {
    RegionYard y = new RegionYard();
    Asm.open(y, 1, Asm.yieldTurn(), Asm.exit(5), Asm.exit(0), Asm.jump(99));
    Asm.label(y, 0, 0);
    Asm.label(y, 3, 0);
    Asm.due("the first of three", y.verify(), 16 + 2);
    Asm.due("state", y.program(0, 0), 2);
    Asm.due("what verify answered", y.program(0, 5), 18);
    Asm.due("spawn of it", y.spawn(0, 100), -1);
    RegionYard far = new RegionYard();
    far.begin(1);
    for (int i = 0; i < 199; i++) {
      far.feed(Asm.yieldTurn());
    }
    far.feed(Asm.exit(1));
    Asm.label(far, 0, 0);
    Asm.due("the last of 200", far.verify(), 16 * 199 + 2);
  }
}
