import java.util.NoSuchElementException;

/** Promises 11 to 21. */
public final class ProcessTest {
  private static final int NONE = RegionYard.NONE;

  private ProcessTest() {
  }

  public static void main(String[] args) {
    spawn();
    spawnLimits();
    regions();
    instructions();
    arithmetic();
    branches();
    callsAndLinks();
    turns();
    quantum();
    run();
    kill();
    process();
    exitInACall();
    registers();
    trace();
    cells();
    counts();
    Asm.end("ProcessTest");
  }

  private static void spawn() {
    RegionYard y = new RegionYard();
    Asm.due("spawn of no program", y.spawn(0, 5), NONE);
    Asm.loadYielder(y, 10);
    Asm.open(y, 1, Asm.exit(0));
    Asm.due("spawn of an OPEN one", y.spawn(1, 5), NONE);
    y.verify();
    Asm.due("spawn of a refused one", y.spawn(1, 5), NONE);
    Asm.due("spawn(-1)", y.spawn(-1, 5), NONE);
    Asm.due("spawn(2)", y.spawn(2, 5), NONE);
    Asm.due("size below NEED", y.spawn(0, 9), -2);
    Asm.due("size below 0", y.spawn(0, Asm.MIN), -2);
    Asm.due("size too large", y.spawn(0, 4097), -3);
    Asm.due("size too large", y.spawn(0, Asm.MAX), -3);
    Asm.due("size of all", y.spawn(0, 4096), 0);
    Asm.due("no cell left", y.spawn(0, 10), -3);
    Asm.due("-2 ahead of -3", y.spawn(0, 9), -2);
    Asm.due("free stretches", y.count(5), 0);
    Asm.due("the greatest", y.count(6), 0);
    Asm.due("free cells", y.count(4), 0);
  }

  private static void spawnLimits() {
    RegionYard y = new RegionYard();
    Asm.loadYielder(y, 1);
    Asm.loadPlain(y, 1, Asm.exit(0));
    for (int i = 0; i < 40; i++) {
      Asm.due("spawn", y.spawn(1, 1), i);
    }
    Asm.due("40 are READY", y.spawn(1, 1), -4);
    Asm.due("-3 ahead of -4", y.spawn(1, 4057), -3);
    Asm.due("READY ones", y.count(3), 40);
    Asm.due("run", y.run(1), 1);
    Asm.due("39 are READY", y.spawn(1, 1), 40);
    Asm.due("run", y.run(100), 40);
    for (int i = 41; i < 300; i++) {
      Asm.due("spawn", y.spawn(1, 1), i);
      if (i % 40 == 0) {
        y.run(40);
      }
    }
    Asm.due("300 were spawned", y.spawn(1, 1), -4);
    y.run(100);
    Asm.due("300 were spawned, none is READY", y.spawn(1, 1), -4);
    Asm.due("processes ever", y.count(2), 300);
    Asm.due("the last one", y.process(299, 0), 1);
    Asm.dueThrow("process(300, 0)", NoSuchElementException.class, () -> y.process(300, 0));
  }

  private static void regions() {
    RegionYard y = new RegionYard();
    Asm.loadYielder(y, 1);
    for (int i = 0; i < 5; i++) {
      y.spawn(0, 100 + i);
    }
    int[] begins = {0, 100, 201, 303, 406};
    for (int i = 0; i < 5; i++) {
      Asm.due("region of " + i, y.process(i, 5), begins[i]);
    }
    y.kill(1);
    y.kill(3);
    Asm.due("free cells", y.count(4), 4096 - 100 - 102 - 104);
    Asm.due("free stretches", y.count(5), 3);
    Asm.due("the greatest", y.count(6), 4096 - 510);
    Asm.due("spawn in the second gap", y.process(y.spawn(0, 102), 5), 303);
    Asm.due("spawn in the first gap", y.process(y.spawn(0, 101), 5), 100);
    Asm.due("spawn in the rest of the second", y.process(y.spawn(0, 1), 5), 405);
    Asm.due("free stretches", y.count(5), 1);
    y.kill(0);
    y.kill(2);
    y.kill(6);
    Asm.due("three beside one another are one", y.count(5), 2);
    Asm.due("spawn over all three", y.process(y.spawn(0, 303), 5), 0);
    Asm.due("free stretches", y.count(5), 1);
    Asm.due("spawn of all behind", y.process(y.spawn(0, 4096 - 510), 5), 510);
    Asm.due("free stretches", y.count(5), 0);
    for (int i = 0; i < 10; i++) {
      y.kill(i);
    }
    Asm.due("all is free", y.count(6), 4096);
  }

  private static void instructions() {
    RegionYard y = Small.ran(Asm.set(0, -32768), Asm.set(1, 32767), Asm.move(2, 0), Asm.inc(3, 1, 1), Asm.inc(4, 0, -1),
      Asm.and(5, 0, 0xF0F0), Asm.shift(6, 0, 3));
    int[] want = {-32768, 32767, -32768, 32768, -32769, 0x8000, -4096, 0};
    for (int r = 0; r < 8; r++) {
      Asm.due("register " + r, y.register(0, r), want[r]);
    }
    RegionYard z = Small.ran(Asm.base(0, 3), Asm.set(1, 11), Asm.store(1, 0, 4), Asm.load(2, 0, 4), Asm.inc(0, 0, 4),
      Asm.set(3, -12), Asm.store(3, 0, -7), Asm.load(4, 0, -7), Asm.load(5, 0, 0), Asm.load(6, 0, -1), Asm.base(1, 65535));
    int[] then = {7, 65535, 11, -12, -12, 11, 0, 0};
    for (int r = 0; r < 8; r++) {
      Asm.due("register " + r, z.register(0, r), then[r]);
    }
    Asm.due("peek(7)", z.peek(7), 11);
    Asm.due("peek(0)", z.peek(0), -12);
  }

  private static void arithmetic() {
    int[] some = {-7, 7, 3, -3, 2, 32767};
    for (int left : some) {
      for (int right : some) {
        Asm.due("ADD", Small.computed(4, left, right), left + right);
        Asm.due("SUB", Small.computed(5, left, right), left - right);
        Asm.due("MUL", Small.computed(6, left, right), left * right);
        Asm.due("DIV", Small.computed(7, left, right), left / right);
        Asm.due("REM", Small.computed(8, left, right), left % right);
      }
    }
    Asm.due("ADD wraps", Small.computed(4, Asm.MIN, -1), Asm.MAX);
    Asm.due("SUB wraps", Small.computed(5, Asm.MIN, 1), Asm.MAX);
    Asm.due("MUL wraps", Small.computed(6, Asm.MIN, -1), Asm.MIN);
    Asm.due("DIV of the least by -1", Small.computed(7, Asm.MIN, -1), Asm.MIN);
    Asm.due("REM of the least by -1", Small.computed(8, Asm.MIN, -1), 0);
  }

  private static void branches() {
    Asm.due("LESS", Small.branched(16, -1, 0), 1);
    Asm.due("LESS", Small.branched(16, 0, 0), 0);
    Asm.due("LESS", Small.branched(16, 1, -1), 0);
    Asm.due("SAME", Small.branched(17, -1, 0), 0);
    Asm.due("SAME", Small.branched(17, 5, 5), 1);
  }

  /** Program 0's f1 adds 1 to the cell at 2; program 1's f0 calls its f1, which is linked to that. */
  private static RegionYard linkedYard() {
    RegionYard y = new RegionYard();
    Asm.open(y, 3, Asm.exit(0), Asm.base(5, 2), Asm.load(6, 5, 0), Asm.inc(6, 6, 1), Asm.store(6, 5, 0), Asm.giveBack());
    y.function(1);
    y.out(1, 6, Asm.INT, Asm.MIN, Asm.MAX);
    Asm.label(y, 0, 0, Asm.zero(0));
    Asm.label(y, 1, 1);
    Asm.due("verify of the library", y.verify(), 0);
    Asm.open(y, 4, Asm.call(1), Asm.linked(0), Asm.exit(6), Asm.linked(0), Asm.giveBack());
    Asm.due("link", y.link(0, 1), 0);
    y.function(3);
    Asm.label(y, 0, 0);
    Asm.label(y, 1, 0);
    Asm.label(y, 2, 0, Asm.anyInt(6));
    Asm.label(y, 3, 1);
    Asm.label(y, 4, 1);
    Asm.due("verify", y.verify(), 0);
    Asm.due("DEPTH", y.program(1, 6), 2);
    return y;
  }

  private static void callsAndLinks() {
    RegionYard y = linkedYard();
    y.spawn(1, 4);
    y.spawn(1, 5);
    y.kill(0);
    int[] places = {1003, 1, 2, 3, 4, 5, 1004, 1001, 1, 2, 3, 4, 5, 1002, 1002};
    int[] open = {1, 2, 2, 2, 2, 2, 1, 0, 1, 1, 1, 1, 1, 0, 0};
    for (int i = 0; i < places.length; i++) {
      Asm.due("tick", y.tick(), 1);
      Asm.due("place behind tick " + i, y.process(1, 2), places[i]);
      Asm.due("open calls behind tick " + i, y.process(1, 4), open[i]);
      Asm.due("its program", y.process(1, 1), 1);
    }
    Asm.due("value", y.process(1, 8), 2);
    Asm.due("tick of an empty queue", y.tick(), NONE);
    Asm.due("its cell in the store", y.peek(4 + 2), 2);
  }

  private static void turns() {
    RegionYard y = new RegionYard();
    Asm.loadPlain(y, 1, Asm.set(1, 1), Asm.set(1, 2), Asm.set(1, 3), Asm.set(1, 4), Asm.set(1, 5), Asm.exit(0));
    Asm.loadYielder(y, 1);
    y.spawn(0, 1);
    y.spawn(1, 1);
    y.spawn(0, 1);
    // the yielder's first turn is a YIELD, its later ones are JUMP, YIELD
    int[] order = {0, 0, 0, 0, 1, 2, 2, 2, 2, 0, 0, 1, 1, 2, 2, 1, 1};
    int[] inTurn = {1, 2, 3, 0, 0, 1, 2, 3, 0, 1, 0, 1, 0, 1, 0, 1, 0};
    for (int i = 0; i < order.length; i++) {
      Asm.due("tick " + i, y.tick(), order[i]);
      Asm.due("done in turn behind tick " + i, y.count(8), inTurn[i]);
    }
    Asm.due("standing", y.process(1, 7), 0);
    Asm.due("standing of one that is over", y.process(0, 7), NONE);
  }

  private static void quantum() {
    RegionYard y = new RegionYard();
    Asm.open(y, 1, Asm.jump(0));
    Asm.label(y, 0, 0);
    y.verify();
    Asm.due("quantum(1)", y.quantum(1), 4);
    Asm.due("quantum(100)", y.quantum(100), 1);
    for (int n : new int[] {0, 101, -1, Asm.MIN, Asm.MAX}) {
      Asm.dueThrow("quantum(" + n + ")", IllegalArgumentException.class, () -> y.quantum(n));
    }
    y.spawn(0, 1);
    y.spawn(0, 1);
    y.run(99);
    Asm.due("still its turn", y.process(0, 7), 0);
    Asm.due("done in turn", y.count(8), 99);
    Asm.due("quantum(2)", y.quantum(2), 100);
    Asm.due("still its turn", y.process(0, 7), 0);
    y.tick();
    Asm.due("more than THE QUANTUM", y.process(0, 7), 1);
    y.tick();
    Asm.due("quantum(5)", y.quantum(5), 2);
    y.run(3);
    Asm.due("four of five", y.count(8), 4);
    y.tick();
    Asm.due("the other one's turn", y.process(0, 7), 0);
    y.quantum(1);
    Asm.due("tick", y.tick(), 0);
    Asm.due("tick", y.tick(), 1);
    Asm.due("tick", y.tick(), 0);
  }

  private static void run() {
    RegionYard y = new RegionYard();
    Asm.due("run of an empty queue", y.run(10), 0);
    Asm.loadPlain(y, 1, Asm.yieldTurn(), Asm.exit(0));
    Asm.loadYielder(y, 1);
    y.spawn(0, 1);
    y.spawn(0, 1);
    Asm.due("run(0)", y.run(0), 0);
    Asm.due("run(3)", y.run(3), 3);
    Asm.due("run until empty", y.run(5), 1);
    y.spawn(1, 1);
    Asm.due("run(5000)", y.run(5000), 5000);
    for (int n : new int[] {-1, 5001, Asm.MIN, Asm.MAX}) {
      Asm.dueThrow("run(" + n + ")", IllegalArgumentException.class, () -> y.run(n));
    }
    Asm.due("ticks that did something", y.count(7), 5004);
  }

  private static void kill() {
    RegionYard y = new RegionYard();
    Asm.due("kill of none", y.kill(0), false);
    Asm.open(y, 1, Asm.jump(0));
    Asm.label(y, 0, 0);
    y.verify();
    for (int i = 0; i < 4; i++) {
      y.spawn(0, 10);
    }
    y.run(2);
    Asm.due("kill(2)", y.kill(2), true);
    Asm.due("the first one's turn goes on", y.count(8), 2);
    Asm.due("3 stands behind 1", y.process(3, 7), 2);
    Asm.due("kill(0)", y.kill(0), true);
    Asm.due("the next one's turn begins anew", y.count(8), 0);
    Asm.due("tick", y.tick(), 1);
    Asm.due("kill again", y.kill(0), false);
    Asm.due("kill(-1)", y.kill(-1), false);
    Asm.due("kill(4)", y.kill(4), false);
    Asm.due("state", y.process(0, 0), 2);
    Asm.due("its region", y.process(0, 5), NONE);
    Asm.due("its size", y.process(0, 6), 10);
    Asm.due("standing", y.process(0, 7), NONE);
    Asm.due("value", y.process(0, 8), 0);
    Asm.due("done", y.process(0, 3), 2);
    Asm.due("place", y.process(0, 2), 0);
    y.kill(1);
    y.kill(3);
    Asm.due("queue is empty", y.count(8), NONE);
    Asm.loadPlain(y, 1, Asm.exit(0));
    y.spawn(1, 1);
    y.run(1);
    Asm.due("kill of one that EXITED", y.kill(4), false);
    killAcrossTheRing();
  }

  /** The queue has gone round before one amid it is killed. */
  private static void killAcrossTheRing() {
    RegionYard y = new RegionYard();
    Asm.loadYielder(y, 1);
    y.quantum(1);
    for (int i = 0; i < 40; i++) {
      y.spawn(0, 1);
    }
    y.run(35);
    Asm.due("kill(2)", y.kill(2), true);
    for (int i = 0; i < 38; i++) {
      int want = (35 + i) % 40;
      want = want >= 2 && want < 35 ? want + 1 : want;
      Asm.due("tick " + i, y.tick(), want);
    }
    Asm.due("spawn again", y.spawn(0, 1), 40);
    Asm.due("it is the last", y.process(40, 7), 39);
    Asm.due("no more", y.spawn(0, 1), -4);
  }

  private static void process() {
    RegionYard y = new RegionYard();
    Asm.loadYielder(y, 1);
    Asm.loadPlain(y, 3, Asm.set(4, -9), Asm.yieldTurn(), Asm.exit(4));
    y.spawn(0, 5);
    y.spawn(1, 6);
    y.tick();
    y.tick();
    processIs(y, 0, 0, 0, 1, 1, 0, 0, 5, 1, 0);
    processIs(y, 1, 0, 1, 1001, 1, 0, 5, 6, 0, 0);
    y.tick();
    Asm.due("tick", y.tick(), 0);
    Asm.due("tick", y.tick(), 0);
    Asm.due("tick", y.tick(), 1);
    processIs(y, 1, 1, 1, 1002, 3, 0, NONE, 6, NONE, -9);
    for (int what : new int[] {-1, 9, Asm.MIN, Asm.MAX}) {
      Asm.dueThrow("process(0, " + what + ")", NoSuchElementException.class, () -> y.process(0, what));
    }
    for (int number : new int[] {-1, 2, 300, Asm.MIN, Asm.MAX}) {
      Asm.dueThrow("process(" + number + ", 0)", NoSuchElementException.class, () -> y.process(number, 0));
      Asm.dueThrow("trace(" + number + ")", NoSuchElementException.class, () -> y.trace(number));
      Asm.dueThrow("register(" + number + ", 0)", NoSuchElementException.class, () -> y.register(number, 0));
      Asm.dueThrow("cell(" + number + ", 0)", NoSuchElementException.class, () -> y.cell(number, 0));
    }
  }

  private static void processIs(RegionYard y, int number, int... want) {
    for (int what = 0; what < want.length; what++) {
      Asm.due("process(" + number + ", " + what + ")", y.process(number, what), want[what]);
    }
  }

  private static void exitInACall() {
    RegionYard y = new RegionYard();
    Asm.open(y, 1, Asm.call(1), Asm.exit(0), Asm.exit(3));
    y.function(2);
    y.out(1, 0, Asm.INT, 0, 0);
    Asm.label(y, 0, 0, Asm.zero(3));
    Asm.label(y, 1, 0, Asm.zero(0));
    Asm.label(y, 2, 1, Asm.zero(3));
    Asm.due("verify", y.verify(), 0);
    y.spawn(0, 1);
    Asm.due("run", y.run(9), 2);
    processIs(y, 0, 1, 0, 2, 2, 1, NONE, 1, NONE, 0);
  }

  private static void registers() {
    RegionYard y = new RegionYard();
    Asm.loadPlain(y, 1, Asm.set(7, 5), Asm.set(0, 3), Asm.exit(0));
    y.spawn(0, 1);
    Asm.due("register(0, 7)", y.register(0, 7), 0);
    y.tick();
    Asm.due("register(0, 7)", y.register(0, 7), 5);
    y.run(5);
    Asm.due("register(0, 7)", y.register(0, 7), 5);
    Asm.due("register(0, 0)", y.register(0, 0), 3);
    for (int register : new int[] {-1, 8, Asm.MIN, Asm.MAX}) {
      Asm.dueThrow("register(0, " + register + ")", NoSuchElementException.class, () -> y.register(0, register));
    }
  }

  private static long told(long trace, int place, int... registers) {
    long now = trace * 31 + place;
    for (int register : registers) {
      now = now * 31 + register;
    }
    return now;
  }

  private static void trace() {
    RegionYard y = linkedYard();
    y.spawn(1, 4);
    Asm.due("trace at first", y.trace(0), 0);
    long want = 0;
    int[] places = {1003, 1, 2, 3, 4, 5, 1004, 1001, 1, 2, 3, 4, 5, 1002, 1002};
    int[] fifth = {0, 0, 2, 2, 2, 2, 2, 2, 2, 2, 2, 2, 2, 2, 2};
    int[] sixth = {0, 0, 0, 0, 1, 1, 1, 1, 1, 1, 1, 2, 2, 2, 2};
    for (int i = 0; i < places.length; i++) {
      y.tick();
      want = told(want, places[i], 0, 0, 0, 0, 0, fifth[i], sixth[i], 0);
      Asm.due("trace behind tick " + i, y.trace(0), want);
    }
    RegionYard z = new RegionYard();
    Asm.loadPlain(z, 1, Asm.set(1, -1), Asm.exit(0));
    z.spawn(0, 1);
    z.tick();
    Asm.due("trace with a number below 0", z.trace(0), told(0, 1, 0, -1, 0, 0, 0, 0, 0, 0));
    z.kill(0);
    Asm.due("trace of one KILLED", z.trace(0), told(0, 1, 0, -1, 0, 0, 0, 0, 0, 0));
  }

  private static void cells() {
    RegionYard y = new RegionYard();
    Asm.loadPlain(y, 4, Asm.base(1, 0), Asm.set(2, 77), Asm.store(2, 1, 3), Asm.yieldTurn(), Asm.exit(0));
    y.spawn(0, 4);
    y.spawn(0, 6);
    y.run(8);
    Asm.due("cell(0, 3)", y.cell(0, 3), 77);
    Asm.due("cell(1, 3)", y.cell(1, 3), 77);
    Asm.due("cell(1, 5)", y.cell(1, 5), 0);
    Asm.due("peek(3)", y.peek(3), 77);
    Asm.due("peek(7)", y.peek(7), 77);
    Asm.due("peek(4095)", y.peek(4095), 0);
    for (int offset : new int[] {-1, 4, Asm.MIN, Asm.MAX}) {
      Asm.dueThrow("cell(0, " + offset + ")", NoSuchElementException.class, () -> y.cell(0, offset));
    }
    for (int at : new int[] {-1, 4096, Asm.MIN, Asm.MAX}) {
      Asm.dueThrow("peek(" + at + ")", NoSuchElementException.class, () -> y.peek(at));
    }
    y.kill(0);
    Asm.dueThrow("cell of one KILLED", NoSuchElementException.class, () -> y.cell(0, 3));
    Asm.due("what was there stays", y.peek(3), 77);
    Asm.due("spawn again", y.spawn(0, 4), 2);
    Asm.due("all are 0", y.peek(3), 0);
    Asm.due("all are 0", y.cell(2, 3), 0);
    Asm.due("the other's stay", y.peek(7), 77);
    y.run(100);
    Asm.dueThrow("cell of one EXITED", NoSuchElementException.class, () -> y.cell(1, 3));
    Asm.due("what was there stays", y.peek(7), 77);
  }

  private static void counts() {
    RegionYard y = new RegionYard();
    Asm.loadYielder(y, 1);
    Asm.loadPlain(y, 1, Asm.yieldTurn(), Asm.set(1, 1), Asm.exit(0));
    y.begin(3);
    y.feed(0);
    y.spawn(0, 10);
    y.spawn(1, 20);
    y.spawn(1, 30);
    y.run(5);
    y.tick();
    y.kill(1);
    int[] want = {3, 6, 3, 2, 4096 - 40, 2, 4096 - 60, 6, 1};
    Asm.due("who is first", y.process(2, 7), 0);
    for (int what = 0; what < want.length - 1; what++) {
      Asm.due("count(" + what + ")", y.count(what), want[what]);
    }
    Asm.due("count(8) of a turn begun anew", y.count(8), 0);
    y.tick();
    Asm.due("count(8)", y.count(8), want[8]);
    y.run(1);
    Asm.due("count(7)", y.count(7), 8);
    for (int what : new int[] {-1, 9, Asm.MIN, Asm.MAX}) {
      Asm.dueThrow("count(" + what + ")", NoSuchElementException.class, () -> y.count(what));
    }
  }
}
