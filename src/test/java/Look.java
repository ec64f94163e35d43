import java.util.Arrays;

/** All that can be looked at in a yard, to see that a call which was refused left it as it was. */
final class Look {
  private static final int CALLS_MAX = 512;

  private Look() {
  }

  static long[] all(RegionYard y) {
    long[] all = new long[CALLS_MAX];
    int n = 0;
    for (int what = 0; what <= 8; what++) {
      all[n++] = y.count(what);
    }
    int quantum = y.quantum(1);
    y.quantum(quantum);
    all[n++] = quantum;
    for (int program = 0; program < y.count(0); program++) {
      for (int what = 0; what <= 6; what++) {
        all[n++] = y.program(program, what);
      }
    }
    for (int process = 0; process < y.count(2); process++) {
      n = process(y, process, all, n);
    }
    return Arrays.copyOf(all, n);
  }

  private static int process(RegionYard y, int process, long[] all, int from) {
    int n = from;
    for (int what = 0; what <= 8; what++) {
      all[n++] = y.process(process, what);
    }
    for (int register = 0; register < 8; register++) {
      all[n++] = y.register(process, register);
    }
    all[n++] = y.trace(process);
    if (y.process(process, 0) == 0) {
      all[n++] = y.cell(process, 3);
    }
    return n;
  }

  static void same(String what, long[] got, long[] want) {
    Asm.due(what + ", how much there is to look at", got.length, want.length);
    for (int i = 0; i < got.length && i < want.length; i++) {
      Asm.due(what + ", look " + i, got[i], want[i]);
    }
  }

  /**
   * Program 0 loops and has a function, 1 is refused, 2 exits, 3 is OPEN and right so far. Processes
   * 0 and 2 are of program 0, and 2 is amid its turn; 1 was of program 2 and is over.
   */
  static RegionYard busyYard() {
    RegionYard y = new RegionYard();
    Asm.open(y, 4, Asm.base(1, 0), Asm.inc(2, 2, 5), Asm.store(2, 1, 3), Asm.jump(0), Asm.set(3, 9), Asm.giveBack());
    y.function(4);
    y.out(1, 3, Asm.INT, 9, 9);
    Asm.label(y, 0, 0, Asm.anyInt(2));
    Asm.label(y, 4, 1);
    Asm.due("verify of program 0", y.verify(), 0);
    y.begin(1);
    y.verify();
    Asm.loadPlain(y, 1, Asm.set(4, -3), Asm.exit(4));
    y.spawn(0, 10);
    y.spawn(2, 8);
    y.spawn(0, 7);
    y.run(8);
    Asm.due("who is amid its turn", y.process(2, 7), 0);
    Asm.due("done in its turn", y.count(8), 2);
    Asm.open(y, 6, Asm.linked(0), Asm.call(1), Asm.exit(3), Asm.set(3, 7), Asm.giveBack());
    y.link(0, 1);
    y.function(3);
    y.out(1, 3, Asm.INT, 7, 7);
    Asm.label(y, 0, 0);
    Asm.label(y, 1, 0, Small.ints(3, 9, 9));
    Asm.label(y, 2, 0, Small.ints(3, 7, 7));
    Asm.label(y, 3, 1);
    return y;
  }

  /** A busy yard without an OPEN program. */
  static RegionYard closedYard() {
    RegionYard y = busyYard();
    Asm.due("verify of program 3", y.verify(), 0);
    return y;
  }

  /** Goes on for a while, so that what can't be looked at at once comes to light too. */
  private static long[] lookLater(RegionYard y) {
    long verdict = y.verify();
    long spawned = y.spawn(3, 6);
    long ran = y.run(40);
    long[] all = Arrays.copyOf(all(y), CALLS_MAX);
    all[CALLS_MAX - 3] = verdict;
    all[CALLS_MAX - 2] = spawned;
    all[CALLS_MAX - 1] = ran;
    return all;
  }

  /** A call that is refused leaves a busy yard as it was: as one in which it was not called. */
  static void leavesAll(String what, boolean open, Refused refused) {
    RegionYard y = open ? busyYard() : closedYard();
    RegionYard twin = open ? busyYard() : closedYard();
    try {
      refused.call(y);
    } catch (RuntimeException e) {
      // which exception is due here, the call's own test asks
      Asm.due(what + " threw what the document names", e instanceof IllegalArgumentException
        || e instanceof java.util.NoSuchElementException, true);
    }
    same(what, all(y), all(twin));
    same(what + ", later", lookLater(y), lookLater(twin));
  }

  interface Refused {
    void call(RegionYard y);
  }
}
