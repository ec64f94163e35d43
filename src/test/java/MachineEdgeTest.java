/** The edges of the machine: of Terms 1, each sentence for itself. */
public final class MachineEdgeTest {
  private static final int MIN = Asm.MIN;
  private static final int MAX = Asm.MAX;

  private MachineEdgeTest() {
  }

  public static void main(String[] args) {
    atFirst();
    signs();
    exits();
    wraps();
    quotients();
    remainders();
    bits();
    cells();
    jumps();
    branches();
    branchesToTheFirst();
    ownRegisters();
    callsAndReturns();
    callsOfThisProgram();
    linksOfThisProgram();
    deepestCalls();
    Asm.end("MachineEdgeTest");
  }

  private static void atFirst() {
    Asm.sentence("Terms 1", "eight REGISTERS (ints, 0 at first)");
    RegionYard y = new RegionYard();
    Asm.loadYielder(y, 3);
    Asm.loadPlain(y, 3, Asm.base(1, 0), Asm.set(2, -1), Asm.store(2, 1, 0), Asm.store(2, 1, 2), Asm.exit(2));
    y.spawn(1, 3);
    for (int register = 0; register < 8; register++) {
      Asm.due("register " + register, y.register(0, register), 0);
    }
    Asm.sentence("Terms 1", "a PLACE (.. at first index 0 of its own)");
    Asm.due("place", y.process(0, 2), 1000);
    Asm.due("open calls", y.process(0, 4), 0);
    Asm.sentence("Terms 1", "CELLS (ints, 0 at first), offsets from 0");
    y.run(5);
    Asm.due("what was left at 0", y.peek(0), -1);
    Asm.due("what was left at 2", y.peek(2), -1);
    Asm.due("spawn in the same region", y.process(y.spawn(0, 3), 5), 0);
    for (int offset = 0; offset < 3; offset++) {
      Asm.due("cell " + offset, y.cell(1, offset), 0);
    }
    Asm.sentence("Terms 1", "registers of a process are its own");
    Asm.due("of the new one", y.register(1, 2), 0);
    Asm.due("of the one that is over", y.register(0, 2), -1);
  }

  private static void signs() {
    Asm.sentence("Terms 1", "N told with sign (S)");
    for (int s : new int[] {0, 1, 32767, -32768, -32767, -1}) {
      Asm.due("SET " + s, Small.made(Asm.set(3, s), 0), s);
      Asm.due("INC " + s, Small.made(Asm.inc(3, 1, s), 5), 5 + s);
    }
    Asm.sentence("Terms 1", "N told without (N)");
    for (int n : new int[] {0, 1, 32767, 32768, 65535}) {
      Asm.due("BASE " + n, Small.made(Asm.base(3, n), 0), n);
      Asm.due("AND " + n, Small.made(Asm.and(3, 1, n), -1), n);
    }
    Asm.sentence("Terms 1", "or as B, its highest 4 bits (0 .. 7)");
    for (int b = 0; b < 7; b++) {
      int a = (b + 1) % 7;
      int d = (b + 2) % 7;
      Asm.due("B of " + b, Small.ran(Asm.set(a, 2), Asm.set(b, 9), Asm.add(d, a, b)).register(0, d), 11);
    }
    Asm.due("B of 7", Small.ran(Asm.set(2, 2), Asm.set(7, 9), Asm.add(3, 2, 7)).register(0, 3), 11);
  }

  private static void exits() {
    Asm.sentence("Terms 1", "EXIT (A): over, with ra as its value");
    for (int register = 0; register < 7; register++) {
      for (int value : new int[] {MIN, -1, 0, 1, MAX}) {
        RegionYard y = new RegionYard();
        Asm.loadPlain(y, 1, Small.words(Small.number(register, value), Small.row(Asm.set(7, 0), Asm.exit(register))));
        y.spawn(0, 1);
        y.run(99);
        Asm.due("state", y.process(0, 0), 1);
        Asm.due("value", y.process(0, 8), value);
      }
    }
    Asm.sentence("Terms 1", "YIELD: its turn ends");
    RegionYard y = new RegionYard();
    Asm.loadYielder(y, 1);
    y.quantum(100);
    y.spawn(0, 1);
    y.spawn(0, 1);
    Asm.due("tick", y.tick(), 0);
    Asm.due("tick", y.tick(), 1);
    Asm.due("place", y.process(0, 2), 1);
    Asm.due("JUMP", y.tick(), 0);
    Asm.due("YIELD", y.tick(), 0);
    Asm.due("tick", y.tick(), 1);
  }

  private static void wraps() {
    Asm.sentence("Terms 1", "sums .. wrap");
    Asm.due("the greatest + 1", Small.computed(4, MAX, 1), MIN);
    Asm.due("the greatest + the greatest", Small.computed(4, MAX, MAX), -2);
    Asm.due("the least + -1", Small.computed(4, MIN, -1), MAX);
    Asm.due("the least + the least", Small.computed(4, MIN, MIN), 0);
    Asm.due("the greatest + 0", Small.computed(4, MAX, 0), MAX);
    Asm.due("the greatest INC 1", Small.made(Asm.inc(3, 1, 1), MAX), MIN);
    Asm.due("the greatest INC 32767", Small.made(Asm.inc(3, 1, 32767), MAX), MIN + 32766);
    Asm.due("the least INC -1", Small.made(Asm.inc(3, 1, -1), MIN), MAX);
    Asm.sentence("Terms 1", "products .. wrap");
    Asm.due("65536 * 65536", Small.computed(6, 65536, 65536), 0);
    Asm.due("65536 * 32768", Small.computed(6, 65536, 32768), MIN);
    Asm.due("the least * -1", Small.computed(6, MIN, -1), MIN);
    Asm.due("the greatest * the greatest", Small.computed(6, MAX, MAX), 1);
    Asm.due("the greatest * 2", Small.computed(6, MAX, 2), -2);
    Asm.due("the greatest * -1", Small.computed(6, MAX, -1), -MAX);
    Asm.sentence("Terms 1", "differences wrap");
    Asm.due("the least - 1", Small.computed(5, MIN, 1), MAX);
    Asm.due("the greatest - -1", Small.computed(5, MAX, -1), MIN);
    Asm.due("0 - the least", Small.computed(5, 0, MIN), MIN);
    Asm.due("-1 - the least", Small.computed(5, -1, MIN), MAX);
    Asm.due("the least - the greatest", Small.computed(5, MIN, MAX), 1);
  }

  private static void quotients() {
    Asm.sentence("Terms 1", "DIV (towards 0)");
    int[][] rows = {{7, 2, 3}, {-7, 2, -3}, {7, -2, -3}, {-7, -2, 3}, {1, 2, 0}, {-1, 2, 0}, {0, -5, 0}, {MAX, 1, MAX},
      {MIN, 1, MIN}, {MIN, 2, MIN / 2}, {MAX, -1, -MAX}, {MIN, MIN, 1}, {MAX, MIN, 0}};
    for (int[] row : rows) {
      Asm.due(row[0] + " / " + row[1], Small.computed(7, row[0], row[1]), row[2]);
    }
    Asm.sentence("Terms 1", "the least int / -1 is itself");
    Asm.due("the least / -1", Small.computed(7, MIN, -1), MIN);
    Asm.due("the next / -1", Small.computed(7, MIN + 1, -1), MAX);
  }

  private static void remainders() {
    Asm.sentence("Terms 1", "REM (towards 0)");
    int[][] rows = {{7, 2, 1}, {-7, 2, -1}, {7, -2, 1}, {-7, -2, -1}, {6, 2, 0}, {-6, 2, 0}, {1, 2, 1}, {0, -5, 0},
      {MAX, 2, 1}, {MIN, 2, 0}, {MIN, 3, -2}, {MAX, MIN, MAX}, {MIN, MIN, 0}, {MAX, -1, 0}, {MIN, 1, 0}};
    for (int[] row : rows) {
      Asm.due(row[0] + " % " + row[1], Small.computed(8, row[0], row[1]), row[2]);
    }
    Asm.sentence("Terms 1", "the least int .. % (-1) 0");
    Asm.due("the least % -1", Small.computed(8, MIN, -1), 0);
  }

  private static void bits() {
    Asm.sentence("Terms 1", "AND: rd = ra and N, bit by bit");
    Asm.due("of the least", Small.made(Asm.and(3, 1, 65535), MIN), 0);
    Asm.due("of the greatest", Small.made(Asm.and(3, 1, 65535), MAX), 65535);
    Asm.due("of -32768", Small.made(Asm.and(3, 1, 32768), -32768), 32768);
    Asm.due("of some", Small.made(Asm.and(3, 1, 0xF0F0), 0x3C3C), 0x3030);
    Asm.due("by 0", Small.made(Asm.and(3, 1, 0), -1), 0);
    Asm.sentence("Terms 1", "SHIFT (N 0 .. 31): ra shifted right by N, with its sign");
    for (int n : new int[] {0, 1, 30, 31}) {
      for (int from : new int[] {MIN, -5, -1, 0, 1, MAX}) {
        Asm.due(from + " by " + n, Small.made(Asm.shift(3, 1, n), from), Math.floorDiv((long) from, 1L << n));
      }
    }
  }

  private static void cells() {
    Asm.sentence("Terms 1", "LOAD, STORE: the cell at offset ra + S");
    int[][] places = {{0, 0}, {7, 0}, {0, 7}, {7, -7}, {3, 2}, {32768, -32768}, {32767, -32760}, {65535, -32768}};
    for (int[] place : places) {
      int offset = place[0] + place[1];
      boolean far = offset > 7;
      int[] back = far ? Small.row(Asm.inc(1, 1, -32767)) : Small.row();
      int at = far ? 0 : offset;
      RegionYard y = Small.ran(Small.words(Small.row(Asm.base(1, place[0])), back,
        Small.row(Asm.set(2, 99), Asm.store(2, 1, place[1]), Asm.load(3, 1, place[1]))));
      Asm.due("what was loaded", y.register(0, 3), 99);
      for (int i = 0; i < 8; i++) {
        Asm.due("cell " + i, y.peek(i), i == at ? 99 : 0);
      }
    }
    RegionYard below = Small.ran(Asm.base(1, 0), Asm.inc(1, 1, -32767), Asm.set(2, 5), Asm.store(2, 1, 32767));
    Asm.due("of a POINTER below 0", below.peek(0), 5);
    Asm.sentence("Terms 1", "offsets from 0 of its own region");
    RegionYard y = new RegionYard();
    Asm.loadPlain(y, 2, Asm.base(1, 1), Asm.set(2, 7), Asm.store(2, 1, -1), Asm.store(2, 1, 0), Asm.jump(0));
    y.spawn(0, 5);
    y.spawn(0, 2);
    y.kill(0);
    y.run(4);
    int[] want = {0, 0, 0, 0, 0, 7, 7, 0};
    for (int at = 0; at < want.length; at++) {
      Asm.due("peek(" + at + ")", y.peek(at), want[at]);
    }
  }

  private static void jumps() {
    Asm.sentence("Terms 1", "JUMP (N): on at index N");
    RegionYard y = new RegionYard();
    y.begin(1);
    y.feed(Asm.jump(199));
    for (int i = 1; i < 199; i++) {
      y.feed(Asm.yieldTurn());
    }
    y.feed(Asm.jump(0));
    y.label(0, 0);
    y.label(1, 0);
    y.label(199, 0);
    Asm.due("verify", y.verify(), 0);
    y.spawn(0, 1);
    y.tick();
    Asm.due("to the last index", y.process(0, 2), 199);
    y.tick();
    Asm.due("to the first index", y.process(0, 2), 0);
    Asm.sentence("Terms 1", "All else: on at the next index");
    RegionYard z = new RegionYard();
    Asm.loadPlain(z, 1, Asm.yieldTurn(), Asm.set(1, 1), Asm.move(2, 1), Asm.add(2, 1, 1), Asm.sub(2, 1, 1), Asm.mul(2, 1, 1),
      Asm.div(2, 1, 1), Asm.rem(2, 1, 1), Asm.inc(2, 1, 1), Asm.and(2, 1, 1), Asm.shift(2, 1, 1), Asm.base(3, 0),
      Asm.load(2, 3, 0), Asm.store(2, 3, 0), Asm.exit(0));
    z.spawn(0, 1);
    for (int i = 1; i <= 14; i++) {
      z.tick();
      Asm.due("place", z.process(0, 2), i);
    }
  }

  private static void branches() {
    Asm.sentence("Terms 1", "LESS: on at N if rd is below ra");
    int[] some = {MIN, MIN + 1, -1, 0, 1, MAX - 1, MAX};
    for (int left : some) {
      for (int right : some) {
        Asm.due(left + " below " + right, Small.branched(16, left, right), left < right ? 1 : 0);
      }
    }
    Asm.sentence("Terms 1", "SAME: on at N if rd is ra");
    for (int left : some) {
      for (int right : some) {
        Asm.due(left + " is " + right, Small.branched(17, left, right), left == right ? 1 : 0);
      }
    }
  }

  /** Indexes are no functions and no links: with as many of these as indexes, nothing else comes of it. */
  private static void branchesToTheFirst() {
    Asm.sentence("Terms 1", "JUMP, LESS, SAME: on at index N, with no call");
    for (int op = 15; op <= 17; op++) {
      for (int to = 0; to <= 1; to++) {
        RegionYard y = new RegionYard();
        loadLeaf(y);
        int d = op == 15 ? 0 : 1;
        int a = op == 16 ? 2 : d;
        Asm.open(y, 1, Asm.yieldTurn(), Asm.set(2, 1), Asm.word(op, d, a, to), Asm.exit(1), Asm.giveBack());
        y.link(0, 1);
        y.link(0, 1);
        y.function(4);
        Asm.label(y, 0, 0, Asm.zero(1));
        Asm.label(y, 1, 0, Asm.zero(1));
        Asm.label(y, 3, 0, Asm.zero(1));
        y.label(4, 1);
        Asm.due("verify", y.verify(), 0);
        y.spawn(1, 1);
        places(y, 0, new int[] {1001, 1002, 1000 + to}, new int[] {0, 0, 0});
      }
    }
  }

  private static void ownRegisters() {
    Asm.sentence("Terms 1", "rd, ra, rb are the registers: one may be all three");
    Asm.due("MOVE", Small.made(Asm.move(3, 1), MIN), MIN);
    Asm.due("MOVE of a POINTER", Small.ran(Asm.base(1, 65535), Asm.move(3, 1)).register(0, 3), 65535);
    Asm.due("ADD", Small.ran(Asm.set(3, 5), Asm.add(3, 3, 3)).register(0, 3), 10);
    Asm.due("SUB", Small.ran(Asm.set(3, 5), Asm.sub(3, 3, 3)).register(0, 3), 0);
    Asm.due("MUL", Small.ran(Asm.set(3, 5), Asm.mul(3, 3, 3)).register(0, 3), 25);
    Asm.due("DIV", Small.ran(Asm.set(3, 5), Asm.div(3, 3, 3)).register(0, 3), 1);
    Asm.due("REM", Small.ran(Asm.set(3, 5), Asm.rem(3, 3, 3)).register(0, 3), 0);
    Asm.due("LOAD", Small.ran(Asm.base(3, 1), Asm.load(3, 3, 0)).register(0, 3), 0);
    Asm.due("A and B are two", Small.computed(5, 9, 4), 5);
    Asm.due("A and B are two", Small.computed(7, 9, 4), 2);
    Asm.due("A and B are two", Small.computed(8, 9, 5), 4);
  }

  private static void places(RegionYard y, int process, int[] places, int[] open) {
    for (int i = 0; i < places.length; i++) {
      y.tick();
      Asm.due("place behind tick " + i, y.process(process, 2), places[i]);
      Asm.due("open calls behind tick " + i, y.process(process, 4), open[i]);
    }
  }

  private static void callsAndReturns() {
    Asm.sentence("Terms 1", "CALL (N): the place behind it is put on the open calls, on at the entry of function N");
    RegionYard y = new RegionYard();
    Asm.open(y, 1, Asm.call(1), Asm.call(2), Asm.jump(0), Asm.call(2), Asm.giveBack(), Asm.yieldTurn(), Asm.giveBack());
    y.function(3);
    y.function(5);
    int[] functions = {0, 0, 0, 1, 1, 2};
    for (int i = 0; i < functions.length; i++) {
      y.label(i, functions[i]);
    }
    Asm.due("verify", y.verify(), 0);
    y.spawn(0, 1);
    places(y, 0, new int[] {3, 5, 6}, new int[] {1, 2, 2});
    Asm.sentence("Terms 1", "RETURN: on at the latest open call's place, which is no more");
    places(y, 0, new int[] {4, 1, 5, 6, 2, 0}, new int[] {1, 0, 1, 1, 0, 0});
    Asm.sentence("Terms 1", "RETURN: .. which is no more: calls may come again and again");
    y.run(9 * 500);
    Asm.due("place", y.process(0, 2), 0);
    Asm.due("open calls", y.process(0, 4), 0);
    places(y, 0, new int[] {3, 5, 6, 4, 1, 5, 6, 2, 0}, new int[] {1, 2, 2, 1, 0, 1, 1, 0, 0});
    Asm.sentence("Terms 1", "CALL (N): function N, whatever link N is");
    RegionYard z = new RegionYard();
    loadLeaf(z);
    Asm.open(z, 1, Asm.call(1), Asm.jump(0), Asm.giveBack());
    z.link(0, 1);
    z.link(0, 1);
    z.function(2);
    z.label(0, 0);
    z.label(1, 0);
    z.label(2, 1);
    Asm.due("verify", z.verify(), 0);
    z.spawn(1, 1);
    places(z, 0, new int[] {1002, 1001, 1000}, new int[] {1, 0, 0});
  }

  private static void callsOfThisProgram() {
    Asm.sentence("Terms 1", "CALL: function N of this program, in which the place is");
    RegionYard y = new RegionYard();
    Asm.open(y, 1, Asm.jump(0), Asm.call(2), Asm.giveBack(), Asm.giveBack());
    y.function(1);
    y.function(3);
    int[] functions = {0, 1, 1, 2};
    for (int i = 0; i < functions.length; i++) {
      y.label(i, functions[i]);
    }
    Asm.due("verify of the library", y.verify(), 0);
    Asm.open(y, 1, Asm.linked(0), Asm.jump(0), Asm.giveBack(), Asm.giveBack());
    y.link(0, 1);
    y.function(2);
    y.function(2);
    y.label(0, 0);
    y.label(1, 0);
    y.label(2, 1);
    y.label(3, 2);
    Asm.due("verify", y.verify(), 0);
    y.spawn(1, 1);
    places(y, 0, new int[] {1, 3}, new int[] {1, 2});
    Asm.due("its program, amid a call", y.process(0, 1), 1);
    places(y, 0, new int[] {2, 1001, 1000}, new int[] {1, 0, 0});
    Asm.due("its program", y.process(0, 1), 1);
  }

  private static void linksOfThisProgram() {
    Asm.sentence("Terms 1", "LINKED (N): likewise, at the function that link N of this program is");
    RegionYard y = new RegionYard();
    loadLeaf(y);
    loadLeaf(y);
    Asm.open(y, 1, Asm.jump(0), Asm.linked(0), Asm.linked(1), Asm.giveBack());
    y.link(1, 1);
    y.link(0, 1);
    y.function(1);
    y.label(0, 0);
    for (int i = 1; i < 4; i++) {
      y.label(i, 1);
    }
    Asm.due("verify of the middle one", y.verify(), 0);
    Asm.open(y, 1, Asm.linked(1), Asm.linked(0), Asm.jump(0));
    y.link(0, 1);
    y.link(2, 1);
    for (int i = 0; i < 3; i++) {
      y.label(i, 0);
    }
    Asm.due("verify", y.verify(), 0);
    y.spawn(3, 1);
    places(y, 0, new int[] {2001, 1001, 2002, 1, 2003, 3001, 1, 3002, 3000}, new int[] {1, 2, 1, 2, 1, 0, 1, 0, 0});
  }

  private static void loadLeaf(RegionYard y) {
    Asm.open(y, 1, Asm.jump(0), Asm.giveBack());
    y.function(1);
    y.label(0, 0);
    y.label(1, 1);
    Asm.due("verify of a leaf", y.verify(), 0);
  }

  /** Each program has seven functions that call one another, the last one by a link; f0 calls the first. */
  private static int loadChain(RegionYard y, int last, int linkTo) {
    int number = y.begin(1);
    if (linkTo >= 0) {
      Asm.due("link of a chain", y.link(linkTo, 1), 0);
    }
    for (int f = 0; f <= last; f++) {
      boolean deepest = f == last && linkTo < 0;
      int at = y.feed(deepest ? Asm.yieldTurn() : f < last ? Asm.call(f + 1) : Asm.linked(0));
      y.feed(f == 0 ? Asm.jump(0) : Asm.giveBack());
      if (f > 0) {
        y.function(at);
      }
      y.label(at, f);
      y.label(at + 1, f);
    }
    Asm.due("verify of a chain", y.verify(), 0);
    return number;
  }

  private static void deepestCalls() {
    Asm.sentence("Terms 1", "open CALLS (places): as many as the DEPTH allows, 40");
    RegionYard y = new RegionYard();
    int under = -1;
    for (int i = 0; i < 4; i++) {
      under = loadChain(y, 7, under);
    }
    under = loadChain(y, 5, under);
    int top = loadChain(y, 7, under);
    Asm.due("DEPTH", y.program(top, 6), 40);
    y.spawn(top, 1);
    Asm.due("run to the bottom", y.run(40), 40);
    Asm.due("open calls", y.process(0, 4), 40);
    Asm.due("place", y.process(0, 2), 14);
    Asm.due("run back", y.run(41), 41);
    Asm.due("open calls", y.process(0, 4), 0);
    Asm.due("place", y.process(0, 2), 1000 * top + 1);
  }
}
