import java.util.NoSuchElementException;

/** The edges of processes: of Terms 4 and of promises 11 to 21, each sentence for itself. */
public final class YardEdgeTest {
  private static final int NONE = RegionYard.NONE;
  private static final int MIN = Asm.MIN;
  private static final int MAX = Asm.MAX;

  private YardEdgeTest() {
  }

  public static void main(String[] args) {
    numbers();
    store();
    lowestStretch();
    stretchesGrowTogether();
    queueOrder();
    exitsFree();
    turnsEnd();
    quantumAmidATurn();
    aloneInTheQueue();
    traces();
    spawnNone();
    spawnTooSmall();
    spawnTooLarge();
    spawnReadyFull();
    spawnEverFull();
    spawnOrder();
    ticks();
    runs();
    quanta();
    kills();
    killsOfTheFirst();
    processNumbers();
    processOver();
    processLooks();
    registers();
    traceNumbers();
    cells();
    peeks();
    countNumbers();
    countsOfCells();
    countsOfTurns();
    Asm.end("YardEdgeTest");
  }

  /** A program that never ends by itself and never yields. */
  private static int loadLoop(RegionYard y, int need) {
    int number = Asm.open(y, need, Asm.jump(0));
    y.label(0, 0);
    Asm.due("verify of a loop", y.verify(), 0);
    return number;
  }

  private static RegionYard loopYard(int need) {
    RegionYard y = new RegionYard();
    loadLoop(y, need);
    return y;
  }

  /** Program 0 loops, program 1 exits at once. */
  private static RegionYard exitYard(int need) {
    RegionYard y = loopYard(need);
    Asm.loadPlain(y, need, Asm.exit(0));
    return y;
  }

  private static void numbers() {
    Asm.sentence("Terms 4", "PROCESSES, numbered from 0 on, as they are spawned");
    RegionYard y = exitYard(2);
    Asm.due("the first", y.spawn(1, 2), 0);
    Asm.due("one that is refused", y.spawn(1, 1), -2);
    Asm.due("the second", y.spawn(0, 2), 1);
    y.tick();
    Asm.due("over", y.process(0, 0), 1);
    Asm.due("a number is not given again", y.spawn(0, 2), 2);
    y.kill(2);
    Asm.due("a number is not given again", y.spawn(0, 2), 3);
    Asm.sentence("Terms 4", "READY, EXITED, KILLED");
    int[] states = {1, 0, 2, 0};
    for (int i = 0; i < states.length; i++) {
      Asm.due("state of " + i, y.process(i, 0), states[i]);
    }
  }

  private static void store() {
    Asm.sentence("Terms 4", "THE STORE has 4096 cells");
    RegionYard y = loopYard(1);
    Asm.due("4097", y.spawn(0, 4097), -3);
    Asm.due("4096", y.spawn(0, 4096), 0);
    Asm.due("it begins at 0", y.process(0, 5), 0);
    Asm.due("its last cell", y.cell(0, 4095), 0);
    Asm.due("none is free", y.count(4), 0);
    Asm.due("1 more", y.spawn(0, 1), -3);
    y.kill(0);
    Asm.due("4095", y.spawn(0, 4095), 1);
    Asm.due("2 more", y.spawn(0, 2), -3);
    Asm.due("1 more", y.spawn(0, 1), 2);
    Asm.due("it is the last cell", y.process(2, 5), 4095);
  }

  private static void lowestStretch() {
    Asm.sentence("Terms 4", "a region is the lowest free stretch that is large enough, from its beginning on");
    RegionYard y = loopYard(1);
    int[] sizes = {10, 30, 10, 20, 10, 40, 10};
    for (int size : sizes) {
      y.spawn(0, size);
    }
    y.kill(1);
    y.kill(3);
    y.kill(5);
    // free are 10 .. 39, 50 .. 69, 80 .. 119 and all from 130 on
    Asm.due("41 fits behind all", y.process(y.spawn(0, 41), 5), 130);
    Asm.due("31 fits in the third", y.process(y.spawn(0, 31), 5), 80);
    Asm.due("20 fits in the first and the second", y.process(y.spawn(0, 20), 5), 10);
    Asm.due("11 fits in the second", y.process(y.spawn(0, 11), 5), 50);
    Asm.due("10 fits in the rest of the first", y.process(y.spawn(0, 10), 5), 30);
    Asm.due("10 fits behind all", y.process(y.spawn(0, 10), 5), 171);
    Asm.due("9 fits in the rest of the second", y.process(y.spawn(0, 9), 5), 61);
    Asm.due("9 fits in the rest of the third", y.process(y.spawn(0, 9), 5), 111);
    Asm.due("1 fits behind all", y.process(y.spawn(0, 1), 5), 181);
    y.kill(0);
    Asm.due("10 fits at 0", y.process(y.spawn(0, 10), 5), 0);
    freeIs(y, 4096 - 182, 1, 4096 - 182);
    Asm.due("1 fits behind all", y.process(y.spawn(0, 1), 5), 182);
  }

  private static void stretchesGrowTogether() {
    Asm.sentence("Terms 4", "its region is free: with what is free beside it, it is one stretch");
    int[][] orders = {{1, 2, 3}, {3, 2, 1}, {1, 3, 2}, {2, 1, 3}};
    for (int[] order : orders) {
      RegionYard y = loopYard(1);
      for (int i = 0; i < 5; i++) {
        y.spawn(0, 10);
      }
      for (int process : order) {
        Asm.due("31 fits behind all", y.count(6), 4046);
        y.kill(process);
      }
      Asm.due("stretches", y.count(5), 2);
      Asm.due("30 fits in all three", y.process(y.spawn(0, 30), 5), 10);
    }
    RegionYard last = loopYard(1);
    last.spawn(0, 4000);
    last.spawn(0, 90);
    last.kill(1);
    Asm.due("with the store's end", last.count(6), 96);
    Asm.due("stretches", last.count(5), 1);
  }

  private static void queueOrder() {
    Asm.sentence("Terms 4", "THE QUEUE has those that are READY: a new one comes behind all");
    RegionYard y = loopYard(1);
    y.spawn(0, 1);
    y.spawn(0, 1);
    y.run(2);
    Asm.due("spawn amid a turn", y.spawn(0, 1), 2);
    Asm.due("it stands behind all", y.process(2, 7), 2);
    Asm.due("the turn goes on", y.count(8), 2);
    y.run(2);
    Asm.due("spawn behind a turn", y.spawn(0, 1), 3);
    int[] order = {1, 2, 0, 3};
    for (int i = 0; i < order.length; i++) {
      Asm.due("how " + order[i] + " stands", y.process(order[i], 7), i);
    }
    Asm.sentence("Terms 4", "A TICK: the first one of the queue does one instruction");
    Asm.due("tick", y.tick(), 1);
    Asm.due("done by 1", y.process(1, 3), 1);
    Asm.due("done by 0", y.process(0, 3), 4);
    Asm.due("done by 2", y.process(2, 3), 0);
  }

  private static void exitsFree() {
    Asm.sentence("Terms 4", "if that was EXIT, it is over: its region is free");
    RegionYard y = exitYard(5);
    y.spawn(1, 4096);
    Asm.due("full", y.spawn(0, 5), -3);
    Asm.due("tick", y.tick(), 0);
    Asm.due("free cells", y.count(4), 4096);
    Asm.due("the queue is empty", y.tick(), NONE);
    Asm.due("spawn in it", y.process(y.spawn(0, 5), 5), 0);
    Asm.sentence("Terms 4", "EXIT: the next one's turn begins anew");
    RegionYard turns = new RegionYard();
    Asm.loadPlain(turns, 1, Asm.yieldTurn(), Asm.set(1, 1), Asm.set(1, 2), Asm.exit(0));
    loadLoop(turns, 1);
    turns.spawn(0, 1);
    turns.spawn(1, 1);
    turns.spawn(1, 1);
    // YIELD of 0, four of 1, four of 2, and then 0 is at its EXIT with its third instruction
    turns.run(9);
    turns.run(2);
    Asm.due("done in its turn", turns.count(8), 2);
    Asm.due("EXIT", turns.tick(), 0);
    Asm.due("done in the next one's turn", turns.count(8), 0);
    for (int i = 0; i < 5; i++) {
      Asm.due("tick " + i, turns.tick(), i < 4 ? 1 : 2);
    }
    Asm.sentence("Terms 4", "EXIT as the last instruction of THE QUANTUM: over, and no other one goes behind all");
    RegionYard last = new RegionYard();
    Asm.loadPlain(last, 1, Asm.set(1, 1), Asm.exit(0));
    loadLoop(last, 1);
    last.quantum(2);
    last.spawn(0, 1);
    last.spawn(1, 1);
    last.spawn(1, 1);
    last.run(2);
    Asm.due("the first", last.process(1, 7), 0);
    Asm.due("the second", last.process(2, 7), 1);
    Asm.due("done in its turn", last.count(8), 0);
  }

  private static void turnsEnd() {
    Asm.sentence("Terms 4", "else if it was YIELD .. it comes behind all others (its next turn begins anew)");
    RegionYard y = new RegionYard();
    Asm.loadYielder(y, 1);
    loadLoop(y, 1);
    y.quantum(3);
    y.spawn(0, 1);
    y.spawn(1, 1);
    y.spawn(1, 1);
    int[] order = {0, 1, 1, 1, 2, 2, 2, 0, 0, 1, 1, 1, 2, 2, 2, 0, 0, 1};
    int[] done = {0, 1, 2, 0, 1, 2, 0, 1, 0, 1, 2, 0, 1, 2, 0, 1, 0, 1};
    for (int i = 0; i < order.length; i++) {
      Asm.due("tick " + i, y.tick(), order[i]);
      Asm.due("done in a turn behind tick " + i, y.count(8), done[i]);
    }
    Asm.sentence("Terms 4", "or it has done as many as THE QUANTUM .. since its turn began");
    for (int quantum : new int[] {1, 2, 4, 99, 100}) {
      RegionYard z = loopYard(1);
      z.quantum(quantum);
      z.spawn(0, 1);
      z.spawn(0, 1);
      z.run(quantum - 1);
      Asm.due("one less than " + quantum, z.process(0, 7), 0);
      Asm.due("done in its turn", z.count(8), quantum - 1);
      z.tick();
      Asm.due("as many as " + quantum, z.process(0, 7), 1);
      Asm.due("done in a new turn", z.count(8), 0);
      z.run(quantum);
      Asm.due("as many as " + quantum + " of the other", z.process(0, 7), 0);
    }
    Asm.sentence("Terms 4", "YIELD as the last instruction of THE QUANTUM: behind all others once");
    RegionYard once = new RegionYard();
    Asm.loadYielder(once, 1);
    once.quantum(1);
    for (int i = 0; i < 3; i++) {
      once.spawn(0, 1);
    }
    once.tick();
    for (int i = 0; i < 3; i++) {
      Asm.due("how " + i + " stands", once.process(i, 7), (i + 2) % 3);
    }
  }

  private static void quantumAmidATurn() {
    Asm.sentence("Terms 4", "or more (than THE QUANTUM) since its turn began");
    RegionYard y = loopYard(1);
    y.spawn(0, 1);
    y.spawn(0, 1);
    y.run(3);
    y.quantum(1);
    Asm.due("still the first", y.process(0, 7), 0);
    Asm.due("done in its turn", y.count(8), 3);
    Asm.due("tick", y.tick(), 0);
    Asm.due("the first no more", y.process(0, 7), 1);
    Asm.due("done in a new turn", y.count(8), 0);
    Asm.due("tick", y.tick(), 1);
    Asm.due("tick", y.tick(), 0);
    Asm.sentence("Terms 4", "as many as THE QUANTUM is then, if it was made more amid a turn");
    RegionYard z = loopYard(1);
    z.spawn(0, 1);
    z.spawn(0, 1);
    z.run(3);
    z.quantum(6);
    z.run(2);
    Asm.due("five of six", z.process(0, 7), 0);
    Asm.due("done in its turn", z.count(8), 5);
    z.tick();
    Asm.due("six of six", z.process(0, 7), 1);
  }

  private static void aloneInTheQueue() {
    Asm.sentence("Terms 4", "it comes behind all others (its next turn begins anew): there may be no others");
    RegionYard y = loopYard(1);
    y.spawn(0, 1);
    for (int i = 1; i <= 9; i++) {
      Asm.due("tick", y.tick(), 0);
      Asm.due("how it stands", y.process(0, 7), 0);
      Asm.due("done in its turn", y.count(8), i % 4);
    }
    Asm.due("spawn", y.spawn(0, 1), 1);
    Asm.due("it has the rest of its turn", y.run(3), 3);
    Asm.due("done by 0", y.process(0, 3), 12);
    Asm.due("tick", y.tick(), 1);
  }

  private static long told(long trace, int place, int... registers) {
    long now = 31 * trace + place;
    for (int register : registers) {
      now = 31 * now + register;
    }
    return now;
  }

  private static void traces() {
    Asm.sentence("Terms 4", "THE TRACE of a process is 0 at first");
    RegionYard y = loopYard(1);
    Asm.loadPlain(y, 1, Asm.set(7, -1), Asm.set(0, -32768), Asm.yieldTurn(), Asm.exit(0));
    y.spawn(1, 1);
    Asm.due("trace", y.trace(0), 0);
    Asm.sentence("Terms 4", "by each instruction that it does, all done, it becomes 31 times itself and what follows");
    y.tick();
    long want = told(0, 1001, 0, 0, 0, 0, 0, 0, 0, -1);
    Asm.due("behind SET", y.trace(0), want);
    y.tick();
    want = told(want, 1002, -32768, 0, 0, 0, 0, 0, 0, -1);
    Asm.due("behind SET", y.trace(0), want);
    y.tick();
    want = told(want, 1003, -32768, 0, 0, 0, 0, 0, 0, -1);
    Asm.due("behind YIELD", y.trace(0), want);
    Asm.sentence("Terms 4", "(of one that is over, that of the EXIT)");
    y.tick();
    want = told(want, 1003, -32768, 0, 0, 0, 0, 0, 0, -1);
    Asm.due("behind EXIT", y.trace(0), want);
    y.tick();
    Asm.due("it stays", y.trace(0), want);
    Asm.sentence("Terms 4", "in 64 bits");
    RegionYard loop = new RegionYard();
    Asm.loadPlain(loop, 1, Small.words(Small.number(1, MIN), Small.number(2, MAX), Small.row(Asm.set(3, -1), Asm.jump(0))));
    loop.spawn(0, 1);
    java.math.BigInteger exact = java.math.BigInteger.ZERO;
    for (int i = 0; i < 40; i++) {
      loop.tick();
      exact = with(exact, loop.process(0, 2));
      for (int register = 0; register < 8; register++) {
        exact = with(exact, loop.register(0, register));
      }
      Asm.due("trace", loop.trace(0), exact.longValue());
    }
    Asm.due("it is more than 64 bits", exact.bitLength() > 640, true);
  }

  private static java.math.BigInteger with(java.math.BigInteger trace, int next) {
    return trace.multiply(java.math.BigInteger.valueOf(31)).add(java.math.BigInteger.valueOf(next));
  }

  private static void spawnNone() {
    Asm.sentence("Promise 11", "NONE: no such accepted program");
    RegionYard y = new RegionYard();
    Asm.due("none at all", y.spawn(0, 5), NONE);
    Asm.open(y, 1, Asm.jump(0));
    y.label(0, 0);
    Asm.due("one that is OPEN", y.spawn(0, 5), NONE);
    y.verify();
    Asm.due("one that is accepted", y.spawn(0, 5), 0);
    y.begin(1);
    y.verify();
    Asm.due("one that is refused", y.spawn(1, 5), NONE);
    for (int program : new int[] {2, 23, 24, MAX, -1, MIN}) {
      Asm.due("spawn(" + program + ", 5)", y.spawn(program, 5), NONE);
    }
    Asm.due("processes ever", y.count(2), 1);
    Look.leavesAll("spawn of one that is refused", true, z -> Asm.due("spawn", z.spawn(1, 5), NONE));
    Look.leavesAll("spawn of one that is OPEN", true, z -> Asm.due("spawn", z.spawn(3, 9), NONE));
  }

  private static void spawnTooSmall() {
    Asm.sentence("Promise 11", "-2: size is below its NEED");
    RegionYard y = loopYard(10);
    for (int size : new int[] {9, 1, 0, -1, MIN}) {
      Asm.due("spawn(0, " + size + ")", y.spawn(0, size), -2);
    }
    Asm.due("processes ever", y.count(2), 0);
    Asm.due("READY ones", y.count(3), 0);
    Asm.due("free cells", y.count(4), 4096);
    Asm.due("spawn(0, 10)", y.spawn(0, 10), 0);
    Asm.due("spawn(0, 11)", y.spawn(0, 11), 1);
    RegionYard one = loopYard(1);
    Asm.due("size 0 of NEED 1", one.spawn(0, 0), -2);
    Asm.due("size 1 of NEED 1", one.spawn(0, 1), 0);
    RegionYard most = loopYard(1024);
    Asm.due("size 1023 of NEED 1024", most.spawn(0, 1023), -2);
    Asm.due("size 1024 of NEED 1024", most.spawn(0, 1024), 0);
    Look.leavesAll("spawn below NEED", true, z -> Asm.due("spawn", z.spawn(0, 3), -2));
  }

  private static void spawnTooLarge() {
    Asm.sentence("Promise 11", "-3: no free stretch is so large");
    RegionYard y = loopYard(1);
    Asm.due("4097 of 4096", y.spawn(0, 4097), -3);
    Asm.due("the greatest int", y.spawn(0, MAX), -3);
    Asm.due("processes ever", y.count(2), 0);
    y.spawn(0, 1000);
    y.spawn(0, 1000);
    y.spawn(0, 1000);
    y.kill(1);
    // free are 1000 cells in the middle and 1096 at the end
    Asm.due("1097, of 2096 in two stretches", y.spawn(0, 1097), -3);
    Asm.due("1096", y.spawn(0, 1096), 3);
    Asm.due("1001", y.spawn(0, 1001), -3);
    Asm.due("1000", y.spawn(0, 1000), 4);
    Asm.due("none is free", y.spawn(0, 1), -3);
    Asm.due("processes ever", y.count(2), 5);
    Look.leavesAll("spawn too large", true, z -> Asm.due("spawn", z.spawn(0, 4097), -3));
    Asm.sentence("Promise 11", "in a region of size cells, all 0: the others' cells stay");
    RegionYard cells = new RegionYard();
    Asm.loadPlain(cells, 3, Asm.base(1, 0), Asm.set(2, 7), Asm.store(2, 1, 0), Asm.store(2, 1, 2), Asm.jump(0));
    for (int i = 0; i < 3; i++) {
      cells.spawn(0, 3);
    }
    cells.run(12);
    cells.kill(1);
    cells.spawn(0, 3);
    int[] want = {7, 0, 7, 0, 0, 0, 7, 0, 7};
    for (int at = 0; at < want.length; at++) {
      Asm.due("peek(" + at + ")", cells.peek(at), want[at]);
    }
  }

  private static void spawnReadyFull() {
    Asm.sentence("Promise 11", "-4: 40 are READY");
    RegionYard y = exitYard(1);
    for (int i = 0; i < 40; i++) {
      Asm.due("spawn", y.spawn(i == 0 ? 1 : 0, 10), i);
    }
    Asm.due("the 41st", y.spawn(0, 10), -4);
    Asm.due("processes ever", y.count(2), 40);
    Asm.due("READY ones", y.count(3), 40);
    Asm.due("free cells", y.count(4), 4096 - 400);
    Asm.due("how the last one stands", y.process(39, 7), 39);
    Asm.due("EXIT of one", y.tick(), 0);
    Asm.due("40 again", y.spawn(0, 10), 40);
    Asm.due("the 41st", y.spawn(0, 10), -4);
    Asm.due("kill of one", y.kill(20), true);
    Asm.due("40 again", y.spawn(0, 10), 41);
    Asm.due("the 41st", y.spawn(0, 10), -4);
    Asm.due("how the last one stands", y.process(41, 7), 39);
    Asm.sentence("Promise 11", "-4: a refused process takes no cells and leaves what is in them");
    RegionYard full = new RegionYard();
    Asm.loadPlain(full, 1, Asm.base(1, 0), Asm.set(2, 7), Asm.store(2, 1, 0), Asm.jump(0));
    full.spawn(0, 1);
    for (int i = 1; i < 40; i++) {
      full.spawn(0, 2);
    }
    full.run(160);
    full.kill(0);
    full.spawn(0, 100);
    Asm.due("what is left at 0", full.peek(0), 7);
    Asm.due("spawn at 0", full.spawn(0, 1), -4);
    Asm.due("it stays", full.peek(0), 7);
    Asm.due("it is free", full.count(5), 2);
  }

  private static void spawnEverFull() {
    Asm.sentence("Promise 11", "-4: .. or 300 were spawned");
    RegionYard y = exitYard(1);
    for (int i = 0; i < 300; i++) {
      if (i % 40 == 39) {
        y.run(40);
      }
      Asm.due("spawn", y.spawn(1, 1), i);
    }
    Asm.due("the 301st", y.spawn(1, 1), -4);
    Asm.due("READY ones", y.count(3) < 40, true);
    y.run(40);
    Asm.due("the queue is empty", y.count(3), 0);
    Asm.due("the 301st", y.spawn(1, 1), -4);
    Asm.due("-3 ahead of it", y.spawn(1, 4097), -3);
    Asm.due("-2 ahead of it", y.spawn(1, 0), -2);
    Asm.due("processes ever", y.count(2), 300);
    Asm.due("the last one", y.process(299, 0), 1);
    Asm.due("free cells", y.count(4), 4096);
    Asm.dueThrow("process(300, 0)", NoSuchElementException.class, () -> y.process(300, 0));
  }

  private static void spawnOrder() {
    Asm.sentence("Promise 11", "NONE; -2; -3; -4, in the order told");
    RegionYard y = loopYard(5);
    for (int i = 0; i < 39; i++) {
      y.spawn(0, 5);
    }
    y.spawn(0, 4096 - 39 * 5);
    Asm.due("40 are READY and none is free", y.count(3) + y.count(4), 40);
    Asm.due("NONE ahead of all", y.spawn(1, 1), NONE);
    Asm.due("-2 ahead of -3 and -4", y.spawn(0, 4), -2);
    Asm.due("-3 ahead of -4", y.spawn(0, 5), -3);
    y.kill(39);
    y.spawn(0, 5);
    Asm.due("-4", y.spawn(0, 5), -4);
    RegionYard large = loopYard(5);
    large.spawn(0, 4096);
    Asm.due("-2 ahead of -3", large.spawn(0, 4), -2);
  }

  private static void ticks() {
    Asm.sentence("Promise 12", "NONE: the queue is empty");
    RegionYard y = exitYard(1);
    Asm.due("ahead of all", y.tick(), NONE);
    Asm.due("ticks that did something", y.count(7), 0);
    y.spawn(1, 1);
    y.spawn(0, 1);
    Asm.due("the number of the process", y.tick(), 0);
    Asm.due("the number of the process", y.tick(), 1);
    y.kill(1);
    Asm.due("behind all", y.tick(), NONE);
    Asm.due("ticks that did something", y.count(7), 2);
    Asm.due("done in no turn", y.count(8), NONE);
    Asm.due("spawn", y.spawn(0, 1), 2);
    Asm.due("its turn begins anew", y.count(8), 0);
  }

  private static void runs() {
    Asm.sentence("Promise 13", "n TICKS: how many");
    RegionYard y = exitYard(1);
    y.spawn(0, 1);
    Asm.due("run(0)", y.run(0), 0);
    Asm.due("nothing was done", y.count(7), 0);
    Asm.due("run(1)", y.run(1), 1);
    Asm.due("run(5000)", y.run(5000), 5000);
    Asm.due("done by it", y.process(0, 3), 5001);
    Asm.sentence("Promise 13", "or until the queue is empty: how many");
    RegionYard few = exitYard(1);
    Asm.due("empty at once", few.run(5000), 0);
    Asm.due("empty and 0", few.run(0), 0);
    few.spawn(1, 1);
    few.spawn(1, 1);
    Asm.due("one of two", few.run(1), 1);
    Asm.due("the other", few.run(5000), 1);
    few.spawn(1, 1);
    few.spawn(1, 1);
    Asm.due("just until then", few.run(2), 2);
    Asm.due("ticks that did something", few.count(7), 4);
    Asm.sentence("Promise 13", "IllegalArgumentException: n is not 0 .. 5000");
    for (int n : new int[] {-1, MIN, 5001, MAX}) {
      Asm.dueThrow("run(" + n + ")", IllegalArgumentException.class, () -> y.run(n));
      Asm.dueThrow("run(" + n + ") of an empty queue", IllegalArgumentException.class, () -> few.run(n));
    }
    Asm.due("nothing was done", y.count(7), 5001);
    Look.leavesAll("run(-1)", true, z -> z.run(-1));
    Look.leavesAll("run(5001)", true, z -> z.run(5001));
  }

  private static void quanta() {
    Asm.sentence("Promise 14", "THE QUANTUM, 1 .. 100: what it was");
    RegionYard y = new RegionYard();
    Asm.due("quantum(1)", y.quantum(1), 4);
    Asm.due("quantum(100)", y.quantum(100), 1);
    Asm.due("quantum(100)", y.quantum(100), 100);
    Asm.due("quantum(7)", y.quantum(7), 100);
    Asm.sentence("Promise 14", "IllegalArgumentException: another number");
    for (int n : new int[] {0, -1, MIN, 101, MAX}) {
      Asm.dueThrow("quantum(" + n + ")", IllegalArgumentException.class, () -> y.quantum(n));
    }
    Asm.due("what it was stays", y.quantum(7), 7);
    Look.leavesAll("quantum(0)", true, z -> z.quantum(0));
    Look.leavesAll("quantum(101)", true, z -> z.quantum(101));
  }

  private static void kills() {
    Asm.sentence("Promise 15", "False: there is no such one");
    RegionYard y = exitYard(1);
    Asm.due("none at all", y.kill(0), false);
    y.spawn(0, 10);
    y.spawn(1, 10);
    for (int process : new int[] {2, 40, 299, 300, MAX, -1, MIN}) {
      Asm.due("kill(" + process + ")", y.kill(process), false);
    }
    Look.leavesAll("kill(3)", true, z -> Asm.due("kill", z.kill(3), false));
    Asm.sentence("Promise 15", "False: .. or it isn't READY");
    y.run(5);
    Asm.due("one that EXITED", y.kill(1), false);
    Asm.due("it stays so", y.process(1, 0), 1);
    Asm.due("READY", y.kill(0), true);
    Asm.due("one that is KILLED", y.kill(0), false);
    Asm.due("it stays so", y.process(0, 0), 2);
    Asm.due("free cells", y.count(4), 4096);
    Look.leavesAll("kill of one that EXITED", true, z -> Asm.due("kill", z.kill(1), false));
    Asm.sentence("Promise 15", "its region is free");
    RegionYard full = loopYard(1);
    full.spawn(0, 4096);
    Asm.due("kill", full.kill(0), true);
    Asm.due("free cells", full.count(4), 4096);
    Asm.due("spawn in it", full.spawn(0, 4096), 1);
    Asm.sentence("Promise 15", "it leaves the queue");
    RegionYard queue = loopYard(1);
    for (int i = 0; i < 4; i++) {
      queue.spawn(0, 1);
    }
    queue.run(1);
    queue.kill(2);
    int[] stands = {0, 1, NONE, 2};
    for (int i = 0; i < stands.length; i++) {
      Asm.due("how " + i + " stands", queue.process(i, 7), stands[i]);
    }
    queue.kill(3);
    Asm.due("how the last one stands", queue.process(1, 7), 1);
    Asm.due("READY ones", queue.count(3), 2);
  }

  private static void killsOfTheFirst() {
    Asm.sentence("Promise 15", "(the next one's turn begins anew, if it was the first)");
    RegionYard y = loopYard(1);
    for (int i = 0; i < 4; i++) {
      y.spawn(0, 1);
    }
    y.run(3);
    y.kill(0);
    Asm.due("done in its turn", y.count(8), 0);
    for (int i = 0; i < 5; i++) {
      Asm.due("tick " + i, y.tick(), i < 4 ? 1 : 2);
    }
    Asm.sentence("Promise 15", "if it was not the first, the first one's turn goes on");
    y.run(1);
    y.kill(3);
    y.kill(1);
    Asm.due("done in its turn", y.count(8), 2);
    Asm.due("tick", y.tick(), 2);
    Asm.due("done in its turn", y.count(8), 3);
    Asm.sentence("Promise 15", "the first and only one: the queue is empty, and a new one's turn begins anew");
    y.kill(2);
    Asm.due("done in no turn", y.count(8), NONE);
    Asm.due("tick", y.tick(), NONE);
    y.spawn(0, 1);
    Asm.due("done in its turn", y.count(8), 0);
  }

  private static void processNumbers() {
    Asm.sentence("Promise 16", "NoSuchElementException: no such process");
    RegionYard y = loopYard(1);
    Asm.dueThrow("process(0, 0) of none", NoSuchElementException.class, () -> y.process(0, 0));
    y.spawn(0, 1);
    for (int process : new int[] {1, 40, 299, 300, MAX, -1, MIN}) {
      for (int what = 0; what <= 8; what++) {
        int asked = what;
        Asm.dueThrow("process(" + process + ", " + what + ")", NoSuchElementException.class, () -> y.process(process, asked));
      }
    }
    Asm.sentence("Promise 16", "NoSuchElementException: no such .. what");
    for (int what : new int[] {9, MAX, -1, MIN}) {
      Asm.dueThrow("process(0, " + what + ")", NoSuchElementException.class, () -> y.process(0, what));
    }
    Look.leavesAll("process(3, 0)", true, z -> z.process(3, 0));
    Look.leavesAll("process(0, 9)", true, z -> z.process(0, 9));
  }

  private static void processIs(RegionYard y, int process, int... want) {
    for (int what = 0; what < want.length; what++) {
      Asm.due("process(" + process + ", " + what + ")", y.process(process, what), want[what]);
    }
  }

  private static void processOver() {
    Asm.sentence("Promise 16", "2 its place (.. where it was over)");
    RegionYard y = new RegionYard();
    loadLoop(y, 1);
    Asm.loadPlain(y, 1, Asm.set(4, -9), Asm.set(5, 3), Asm.exit(4));
    y.spawn(1, 6);
    y.spawn(1, 7);
    y.run(3);
    y.tick();
    y.kill(1);
    Asm.due("EXITED: at the EXIT", y.process(0, 2), 1002);
    Asm.due("KILLED: where it would have gone on", y.process(1, 2), 1001);
    Asm.sentence("Promise 16", "5 where its region begins (NONE of one that is over)");
    Asm.due("EXITED", y.process(0, 5), NONE);
    Asm.due("KILLED", y.process(1, 5), NONE);
    y.spawn(0, 5);
    Asm.due("READY, at 0", y.process(2, 5), 0);
    Asm.sentence("Promise 16", "6 its size: of one that is over too");
    Asm.due("EXITED", y.process(0, 6), 6);
    Asm.due("KILLED", y.process(1, 6), 7);
    Asm.due("READY", y.process(2, 6), 5);
    Asm.sentence("Promise 16", "7 how it stands in the queue (0 the first; NONE)");
    Asm.due("EXITED", y.process(0, 7), NONE);
    Asm.due("KILLED", y.process(1, 7), NONE);
    Asm.due("the first", y.process(2, 7), 0);
    Asm.sentence("Promise 16", "8 its value (0 unless EXITED)");
    Asm.due("EXITED", y.process(0, 8), -9);
    Asm.due("KILLED", y.process(1, 8), 0);
    Asm.due("READY", y.process(2, 8), 0);
  }

  private static void processLooks() {
    Asm.sentence("Promise 16", "0 its state, 1 its program, 3 instructions done, 4 calls that are open");
    RegionYard y = new RegionYard();
    loadLoop(y, 1);
    Asm.open(y, 2, Asm.call(1), Asm.jump(1), Asm.yieldTurn(), Asm.exit(3));
    y.function(2);
    y.label(0, 0);
    y.label(1, 0);
    Asm.label(y, 2, 1);
    Asm.label(y, 3, 1, Asm.anyInt(3));
    Asm.due("verify: r3 is any behind the entry", y.verify(), 16 * 2 + 4);
    Asm.open(y, 2, Asm.call(1), Asm.jump(1), Asm.yieldTurn(), Asm.exit(3));
    y.function(2);
    Asm.label(y, 0, 0, Asm.zero(3));
    y.label(1, 0);
    Asm.label(y, 2, 1, Asm.zero(3));
    Asm.due("verify", y.verify(), 0);
    y.spawn(0, 3);
    y.spawn(2, 4);
    processIs(y, 1, 0, 2, 2000, 0, 0, 3, 4, 1, 0);
    y.run(5);
    processIs(y, 0, 0, 0, 0, 4, 0, 0, 3, 1, 0);
    processIs(y, 1, 0, 2, 2002, 1, 1, 3, 4, 0, 0);
    y.run(6);
    processIs(y, 1, 1, 2, 2003, 3, 1, NONE, 4, NONE, 0);
  }

  private static void registers() {
    Asm.sentence("Promise 17", "NoSuchElementException: no such process");
    RegionYard y = exitYard(1);
    Asm.dueThrow("register(0, 0) of none", NoSuchElementException.class, () -> y.register(0, 0));
    Asm.loadPlain(y, 1, Asm.set(7, 5), Asm.set(0, 3), Asm.exit(0));
    y.spawn(2, 1);
    y.spawn(2, 1);
    for (int process : new int[] {2, 299, 300, MAX, -1, MIN}) {
      Asm.dueThrow("register(" + process + ", 0)", NoSuchElementException.class, () -> y.register(process, 0));
    }
    Asm.sentence("Promise 17", "NoSuchElementException: no such .. register");
    for (int register : new int[] {8, MAX, -1, MIN}) {
      Asm.dueThrow("register(0, " + register + ")", NoSuchElementException.class, () -> y.register(0, register));
    }
    Look.leavesAll("register(0, 8)", true, z -> z.register(0, 8));
    Asm.sentence("Promise 17", "A register (as it is, or was at the end)");
    y.run(4);
    Asm.due("register 0 of one that EXITED", y.register(0, 0), 3);
    Asm.due("register 7 of one that EXITED", y.register(0, 7), 5);
    Asm.due("register 0 as it is", y.register(1, 0), 0);
    Asm.due("register 7 as it is", y.register(1, 7), 5);
    y.kill(1);
    y.spawn(0, 1);
    Asm.due("register 7 of one that is KILLED", y.register(1, 7), 5);
    Asm.due("register 7 of a new one", y.register(2, 7), 0);
  }

  private static void traceNumbers() {
    Asm.sentence("Promise 18", "NoSuchElementException: no such process");
    RegionYard y = loopYard(1);
    Asm.dueThrow("trace(0) of none", NoSuchElementException.class, () -> y.trace(0));
    y.spawn(0, 1);
    for (int process : new int[] {1, 299, 300, MAX, -1, MIN}) {
      Asm.dueThrow("trace(" + process + ")", NoSuchElementException.class, () -> y.trace(process));
    }
    Look.leavesAll("trace(3)", true, z -> z.trace(3));
    Asm.sentence("Promise 18", "THE TRACE: of one that is over too");
    Asm.loadPlain(y, 1, Asm.set(1, 9), Asm.exit(0));
    y.kill(0);
    y.spawn(1, 1);
    y.spawn(1, 1);
    y.run(2);
    long first = told(0, 1001, 0, 9, 0, 0, 0, 0, 0, 0);
    Asm.due("of one that EXITED", y.trace(1), told(first, 1001, 0, 9, 0, 0, 0, 0, 0, 0));
    y.tick();
    y.kill(2);
    Asm.due("of one that is KILLED", y.trace(2), first);
    Asm.due("of one that did nothing", y.trace(0), 0);
  }

  private static void cells() {
    Asm.sentence("Promise 19", "NoSuchElementException: no such process");
    RegionYard y = new RegionYard();
    Asm.dueThrow("cell(0, 0) of none", NoSuchElementException.class, () -> y.cell(0, 0));
    Asm.loadPlain(y, 4, Asm.base(1, 0), Asm.set(2, 7), Asm.store(2, 1, 0), Asm.store(2, 1, 3), Asm.yieldTurn(), Asm.exit(0));
    y.spawn(0, 4);
    y.spawn(0, 6);
    y.spawn(0, 4);
    y.run(12);
    for (int process : new int[] {3, 299, 300, MAX, -1, MIN}) {
      Asm.dueThrow("cell(" + process + ", 0)", NoSuchElementException.class, () -> y.cell(process, 0));
    }
    Asm.sentence("Promise 19", "NoSuchElementException: no such .. offset");
    for (int offset : new int[] {4, 5, 4096, MAX, -1, MIN}) {
      Asm.dueThrow("cell(0, " + offset + ")", NoSuchElementException.class, () -> y.cell(0, offset));
    }
    Asm.dueThrow("cell(1, 6)", NoSuchElementException.class, () -> y.cell(1, 6));
    Asm.dueThrow("cell(1, -1)", NoSuchElementException.class, () -> y.cell(1, -1));
    Asm.due("the first", y.cell(1, 0), 7);
    Asm.due("the last that is needed", y.cell(1, 3), 7);
    Asm.due("the last", y.cell(1, 5), 0);
    Look.leavesAll("cell(0, 10)", true, z -> z.cell(0, 10));
    Asm.sentence("Promise 19", "A cell of a READY process's region: of no other one's");
    y.kill(0);
    Asm.dueThrow("of one that is KILLED", NoSuchElementException.class, () -> y.cell(0, 0));
    y.run(2);
    Asm.due("tick", y.process(1, 0), 0);
    y.run(20);
    Asm.due("over", y.process(1, 0), 1);
    Asm.dueThrow("of one that EXITED", NoSuchElementException.class, () -> y.cell(1, 0));
  }

  private static void peeks() {
    Asm.sentence("Promise 20", "NoSuchElementException: it is not 0 .. 4095");
    RegionYard y = new RegionYard();
    Asm.due("peek(0)", y.peek(0), 0);
    Asm.due("peek(4095)", y.peek(4095), 0);
    for (int at : new int[] {4096, MAX, -1, MIN}) {
      Asm.dueThrow("peek(" + at + ")", NoSuchElementException.class, () -> y.peek(at));
    }
    Look.leavesAll("peek(4096)", true, z -> z.peek(4096));
    Asm.sentence("Promise 20", "A cell of THE STORE, whosever it is");
    Asm.loadPlain(y, 1024, Asm.base(1, 1023), Asm.set(2, 7), Asm.store(2, 1, 0), Asm.store(2, 1, -1023), Asm.yieldTurn(), Asm.exit(0));
    for (int i = 0; i < 4; i++) {
      y.spawn(0, 1024);
    }
    y.run(16);
    for (int i = 0; i < 4; i++) {
      Asm.due("the first cell of " + i, y.peek(1024 * i), 7);
      Asm.due("the last cell of " + i, y.peek(1024 * i + 1023), 7);
    }
    Asm.sentence("Promise 20", "(what was in a region that is free stays there)");
    y.kill(0);
    Asm.due("of one that is KILLED", y.peek(0), 7);
    y.run(50);
    Asm.due("all are over", y.count(3), 0);
    Asm.due("the last cell of one that EXITED", y.peek(4095), 7);
    y.spawn(0, 1024);
    Asm.due("taken anew", y.peek(0), 0);
    Asm.due("taken anew", y.peek(1023), 0);
    Asm.due("not taken", y.peek(1024), 7);
  }

  private static void countNumbers() {
    Asm.sentence("Promise 21", "NoSuchElementException: another what");
    RegionYard y = new RegionYard();
    for (int what : new int[] {9, MAX, -1, MIN}) {
      Asm.dueThrow("count(" + what + ")", NoSuchElementException.class, () -> y.count(what));
    }
    Look.leavesAll("count(9)", true, z -> z.count(9));
    Look.leavesAll("count(-1)", false, z -> z.count(-1));
    Asm.sentence("Promise 21", "0 programs, 1 words of all: of OPEN and refused ones too");
    y.begin(1);
    Asm.due("programs", y.count(0), 1);
    y.feed(0);
    Asm.due("words", y.count(1), 1);
    y.verify();
    Asm.due("programs", y.count(0), 1);
    Asm.due("words", y.count(1), 1);
    loadLoop(y, 1);
    Asm.due("programs", y.count(0), 2);
    Asm.due("words", y.count(1), 2);
    Asm.sentence("Promise 21", "2 processes ever, 3 READY ones");
    y.spawn(1, 1);
    y.spawn(1, 1);
    y.kill(0);
    Asm.due("processes ever", y.count(2), 2);
    Asm.due("READY ones", y.count(3), 1);
  }

  private static void countsOfCells() {
    Asm.sentence("Promise 21", "4 free cells, 5 free stretches, 6 the greatest one's size: none, one, some");
    RegionYard y = loopYard(1);
    int[] sizes = {100, 200, 300, 400, 3096};
    for (int size : sizes) {
      y.spawn(0, size);
    }
    freeIs(y, 0, 0, 0);
    y.kill(1);
    freeIs(y, 200, 1, 200);
    y.kill(3);
    freeIs(y, 600, 2, 400);
    y.kill(0);
    freeIs(y, 700, 2, 400);
    y.kill(2);
    freeIs(y, 1000, 1, 1000);
    y.kill(4);
    freeIs(y, 4096, 1, 4096);
    y.spawn(0, 1);
    freeIs(y, 4095, 1, 4095);
    Asm.sentence("Promise 21", "6 the greatest one's size: neither the first's nor the last's");
    RegionYard z = loopYard(1);
    for (int size : new int[] {10, 5, 20, 5, 4050}) {
      z.spawn(0, size);
    }
    z.kill(0);
    z.kill(2);
    freeIs(z, 36, 3, 20);
  }

  private static void freeIs(RegionYard y, int cells, int stretches, int greatest) {
    Asm.due("free cells", y.count(4), cells);
    Asm.due("free stretches", y.count(5), stretches);
    Asm.due("the greatest one's size", y.count(6), greatest);
  }

  private static void countsOfTurns() {
    Asm.sentence("Promise 21", "7 ticks that did something");
    RegionYard y = exitYard(1);
    y.tick();
    y.run(10);
    Asm.due("of an empty queue", y.count(7), 0);
    y.spawn(1, 1);
    y.tick();
    y.tick();
    y.run(10);
    Asm.due("one EXIT", y.count(7), 1);
    Asm.sentence("Promise 21", "8 how many the first one has done in its turn (NONE without one)");
    Asm.due("without one", y.count(8), NONE);
    y.spawn(0, 1);
    Asm.due("of a new one", y.count(8), 0);
    y.run(3);
    Asm.due("amid its turn", y.count(8), 3);
    y.tick();
    Asm.due("of a new turn", y.count(8), 0);
  }
}
