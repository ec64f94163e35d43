/** The edges of the proof: of MEETS in Terms 2, of Terms 3 and of promise 9, each sentence for itself. */
public final class RuleEdgeTest {
  private static final int NONE = RegionYard.NONE;
  private static final int MIN = Asm.MIN;
  private static final int MAX = Asm.MAX;
  private static final int FAR = 1000000;
  private static final int[][] ANY = Small.ANY;

  private RuleEdgeTest() {
  }

  public static void main(String[] args) {
    meets();
    labelsBegin();
    right();
    intWanted();
    wholeBounds();
    notReached();
    start();
    order();
    plainWords();
    pointerSums();
    products();
    quotients();
    remainders();
    bits();
    cells();
    lessThere();
    lessNext();
    sameWays();
    otherRegisters();
    sameRegister();
    wayNotGone();
    wayOrder();
    calls();
    callOrder();
    linkedCalls();
    returns();
    beyondTheLast();
    standsIn();
    depths();
    verifyEdges();
    Asm.end("RuleEdgeTest");
  }

  private static int[] ints(int register, int low, int high) {
    return Small.ints(register, low, high);
  }

  private static int[] pointer(int register, int low, int high) {
    return Small.pointer(register, low, high);
  }

  /** What a JUMP from a label with a type of register 5 to one with another type answers. */
  private static void jumps(String what, int[] from, int[] to, boolean met) {
    RegionYard y = new RegionYard();
    Asm.open(y, 1, Asm.exit(0), Asm.jump(2), Asm.jump(2));
    Asm.label(y, 0, 0, Asm.zero(0));
    Asm.label(y, 1, 0, from);
    Asm.label(y, 2, 0, to);
    Asm.due(what, y.verify(), met ? 0 : 16 + 4);
  }

  private static void meets() {
    int[] any = Asm.type(5, 0, 3, 4);
    Asm.sentence("Terms 2", "A type MEETS another one, if that is 0");
    jumps("any, any", any, any, true);
    jumps("INT, any", ints(5, MIN, MAX), any, true);
    jumps("POINTER, any", pointer(5, MIN, MAX), any, true);
    Asm.sentence("Terms 2", "or both are of one kind");
    jumps("any, INT", any, ints(5, MIN, MAX), false);
    jumps("any, POINTER", any, pointer(5, MIN, MAX), false);
    jumps("INT, POINTER", ints(5, 3, 3), pointer(5, MIN, MAX), false);
    jumps("POINTER, INT", pointer(5, 3, 3), ints(5, MIN, MAX), false);
    Asm.sentence("Terms 2", "and LOW, HIGH lie within its LOW, HIGH");
    for (int kind = 1; kind <= 2; kind++) {
      int[] from = Asm.type(5, kind, -3, 4);
      jumps("equal", from, from, true);
      jumps("wider", from, Asm.type(5, kind, -4, 5), true);
      jumps("LOW above", from, Asm.type(5, kind, -2, 4), false);
      jumps("HIGH below", from, Asm.type(5, kind, -3, 3), false);
      jumps("all above", from, Asm.type(5, kind, 5, MAX), false);
      jumps("all below", from, Asm.type(5, kind, MIN, -4), false);
      int[] all = Asm.type(5, kind, MIN, MAX);
      jumps("all", all, all, true);
      jumps("all but the least", all, Asm.type(5, kind, MIN + 1, MAX), false);
      jumps("all but the greatest", all, Asm.type(5, kind, MIN, MAX - 1), false);
      jumps("the least", Asm.type(5, kind, MIN, MIN), all, true);
      jumps("the greatest", Asm.type(5, kind, MAX, MAX), all, true);
    }
  }

  private static void labelsBegin() {
    Asm.sentence("Terms 3", "From each label on registers have its types");
    RegionYard y = new RegionYard();
    Asm.open(y, 1, Asm.set(1, 5), Asm.exit(1));
    Asm.label(y, 0, 0);
    Asm.label(y, 1, 0);
    Asm.due("what was made ahead of a label is gone", y.verify(), 16 + 2);
    RegionYard z = new RegionYard();
    Asm.open(z, 1, Asm.exit(0), Asm.yieldTurn(), Asm.exit(1));
    Asm.label(z, 0, 0, Asm.zero(0));
    Asm.label(z, 1, 0, ints(1, 3, 9));
    Asm.due("what a label tells goes on", z.verify(), 0);
    Asm.sentence("Terms 3", "an instruction makes others, and the next one goes on with these, if it is no label");
    RegionYard on = new RegionYard();
    Asm.open(on, 4, Asm.base(1, 0), Asm.set(2, 3), Asm.add(1, 1, 2), Asm.load(3, 1, 0), Asm.exit(3));
    Asm.label(on, 0, 0);
    Asm.due("verify", on.verify(), 0);
    RegionYard out = new RegionYard();
    Asm.open(out, 3, Asm.base(1, 0), Asm.set(2, 3), Asm.add(1, 1, 2), Asm.load(3, 1, 0), Asm.exit(3));
    Asm.label(out, 0, 0);
    Asm.due("verify", out.verify(), 16 * 3 + 3);
  }

  private static void right() {
    int[][] from = Small.both(0, 9, 0, 9);
    Asm.sentence("Terms 3", "RIGHT, if that is a label of the same function (else 1)");
    Asm.due("to itself", Small.branch(Asm.jump(1), from, ANY, ANY), 0);
    Asm.due("to the last word", Small.branch(Asm.jump(3), from, ANY, ANY), 0);
    Asm.due("to behind the last word", Small.branch(Asm.jump(4), from, ANY, ANY), 17);
    Asm.due("to 199", Small.branch(Asm.jump(199), from, ANY, ANY), 17);
    Asm.due("to 200", Small.branch(Asm.jump(200), from, ANY, ANY), 17);
    Asm.due("to 32768", Small.branch(Asm.jump(32768), from, ANY, ANY), 17);
    Asm.due("to 65535", Small.branch(Asm.jump(65535), from, ANY, ANY), 17);
    Asm.due("to a word that is no label", Small.branch(Asm.jump(2), from, null, ANY), 17);
    for (int function = 0; function <= 1; function++) {
      RegionYard y = new RegionYard();
      Asm.open(y, 1, Asm.exit(0), Asm.jump(2), Asm.jump(2));
      y.function(1);
      Asm.label(y, 0, 0, Asm.zero(0));
      Asm.label(y, 1, 1);
      Asm.label(y, 2, function);
      Asm.due("from function 1 to a label of " + function, y.verify(), function == 1 ? 0 : 17);
    }
    Asm.sentence("Terms 3", "whose types all of these MEET (else 4)");
    for (int register = 0; register < 8; register++) {
      RegionYard y = new RegionYard();
      Asm.open(y, 1, Asm.exit(0), Asm.jump(2), Asm.jump(2));
      Asm.label(y, 0, 0, Asm.zero(0));
      int[][] types = new int[8][];
      for (int i = 0; i < 8; i++) {
        types[i] = ints(i, i, 9);
      }
      Asm.label(y, 1, 0, types);
      types[register] = ints(register, register + 1, 9);
      Asm.label(y, 2, 0, types);
      Asm.due("register " + register + " does not", y.verify(), 16 + 4);
    }
    RegionYard y = new RegionYard();
    Asm.open(y, 1, Asm.exit(0), Asm.jump(2), Asm.jump(2));
    y.function(2);
    Asm.label(y, 0, 0, Asm.zero(0));
    Asm.label(y, 1, 0);
    Asm.label(y, 2, 1, Asm.zero(3));
    Asm.due("1 ahead of 4", y.verify(), 16 + 1);
  }

  /** With register 1 as it is told, and register 2 an INT 1 .. 1, register 4 a POINTER 0 .. 0. */
  private static void kind(String what, int word, int[] one, int reason) {
    Small.fault(what, 8, word, reason, one, ints(2, 1, 1), pointer(4, 0, 0));
  }

  private static void intWanted() {
    Asm.sentence("Terms 3", "An INT is wanted where nothing else is said / its registers' kinds (2)");
    int[] any = Asm.type(1, 0, 0, 0);
    int[] far = pointer(1, 1, 2);
    int[] good = ints(1, 1, 2);
    for (int[] wrong : new int[][] {any, far, good}) {
      int reason = wrong == good ? 0 : 2;
      kind("EXIT", Asm.exit(1), wrong, reason);
      for (int op = 6; op <= 8; op++) {
        kind("A of OP " + op, Asm.word(op, 3, 1, 2 << 12), wrong, reason);
        kind("B of OP " + op, Asm.word(op, 3, 2, 1 << 12), wrong, reason);
      }
      kind("AND", Asm.and(3, 1, 1), wrong, reason);
      kind("SHIFT", Asm.shift(3, 1, 1), wrong, reason);
      kind("D of STORE", Asm.store(1, 4, 0), wrong, reason);
      for (int op = 16; op <= 17; op++) {
        kind("D of OP " + op, Asm.word(op, 1, 2, 2), wrong, reason);
        kind("A of OP " + op, Asm.word(op, 2, 1, 2), wrong, reason);
        kind("D and A of OP " + op, Asm.word(op, 1, 1, 2), wrong, reason);
      }
      kind("B of SUB of a POINTER", Asm.sub(3, 4, 1), wrong, reason);
      kind("B of ADD of a POINTER", Asm.add(3, 4, 1), wrong, reason);
      kind("A of ADD of a POINTER", Asm.add(3, 1, 4), wrong, reason);
      kind("B of SUB of an INT", Asm.sub(3, 2, 1), wrong, reason);
      kind("A of LOAD", Asm.load(3, 1, 0), wrong, wrong == far ? 0 : 2);
      kind("A of STORE", Asm.store(2, 1, 0), wrong, wrong == far ? 0 : 2);
      kind("A of INC", Asm.inc(3, 1, 0), wrong, wrong == any ? 2 : 0);
      kind("A of ADD of an INT", Asm.add(3, 1, 2), wrong, wrong == any ? 2 : 0);
      kind("B of ADD of an INT", Asm.add(3, 2, 1), wrong, wrong == any ? 2 : 0);
      kind("A of SUB", Asm.sub(3, 1, 2), wrong, wrong == any ? 2 : 0);
      kind("A of MOVE", Asm.move(3, 1), wrong, 0);
    }
  }

  private static void wholeBounds() {
    Asm.sentence("Terms 3", "by the exact least and greatest that can come of all numbers within the parts' bounds");
    Small.makes("ADD of two wholes", Asm.add(1, 2, 3), ints(1, -8, 15), ints(2, -5, 6), ints(3, -3, 9));
    Small.makes("SUB crosses the bounds", Asm.sub(1, 2, 3), ints(1, -14, 9), ints(2, -5, 6), ints(3, -3, 9));
    Small.makes("of one register twice", Asm.sub(1, 2, 2), ints(1, -11, 11), ints(2, -5, 6));
    Small.makes("MUL of one register twice", Asm.mul(1, 2, 2), ints(1, -30, 36), ints(2, -5, 6));
    Small.makes("DIV of one register twice", Asm.div(1, 2, 2), ints(1, 0, 3), ints(2, 2, 6));
    Asm.sentence("Terms 3", "if one of them is no int: the least and the greatest int");
    Small.makes("ADD up to the greatest", Asm.add(1, 2, 3), ints(1, 7, MAX), ints(2, 5, MAX - 3), ints(3, 2, 3));
    Small.makes("ADD above the greatest", Asm.add(1, 2, 3), Asm.anyInt(1), ints(2, 5, MAX - 2), ints(3, 2, 3));
    Small.makes("ADD down to the least", Asm.add(1, 2, 3), ints(1, MIN, -7), ints(2, MIN + 3, -5), ints(3, -3, -2));
    Small.makes("ADD below the least", Asm.add(1, 2, 3), Asm.anyInt(1), ints(2, MIN + 2, -5), ints(3, -3, -2));
    Small.makes("ADD, all above", Asm.add(1, 2, 3), Asm.anyInt(1), ints(2, MAX, MAX), ints(3, MAX, MAX));
    Small.makes("ADD, all below", Asm.add(1, 2, 3), Asm.anyInt(1), ints(2, MIN, MIN), ints(3, MIN, MIN));
    Small.makes("SUB up to the greatest", Asm.sub(1, 2, 3), ints(1, 7, MAX), ints(2, 5, MAX - 3), ints(3, -3, -2));
    Small.makes("SUB above the greatest", Asm.sub(1, 2, 3), Asm.anyInt(1), ints(2, 5, MAX - 2), ints(3, -3, -2));
    Small.makes("SUB down to the least", Asm.sub(1, 2, 3), ints(1, MIN, -7), ints(2, MIN + 3, -5), ints(3, 2, 3));
    Small.makes("SUB below the least", Asm.sub(1, 2, 3), Asm.anyInt(1), ints(2, MIN + 2, -5), ints(3, 2, 3));
    Small.makes("SUB of the least", Asm.sub(1, 2, 3), Asm.anyInt(1), ints(2, 0, 0), ints(3, MIN, MIN));
    Small.makes("INC up to the greatest", Asm.inc(1, 2, 3), ints(1, 8, MAX), ints(2, 5, MAX - 3));
    Small.makes("INC above the greatest", Asm.inc(1, 2, 3), Asm.anyInt(1), ints(2, 5, MAX - 2));
    Small.makes("INC down to the least", Asm.inc(1, 2, -3), ints(1, MIN, -8), ints(2, MIN + 3, -5));
    Small.makes("INC below the least", Asm.inc(1, 2, -3), Asm.anyInt(1), ints(2, MIN + 2, -5));
  }

  private static void notReached() {
    Asm.sentence("Terms 3", "A word at which no label is and none goes on to it: 7 (the word ahead is EXIT, JUMP)");
    for (int word : new int[] {Asm.exit(0), Asm.jump(0), Asm.yieldTurn()}) {
      RegionYard y = new RegionYard();
      Asm.open(y, 1, word, Asm.exit(0));
      Asm.label(y, 0, 0, Asm.zero(0));
      Asm.due("verify", y.verify(), word == Asm.yieldTurn() ? 0 : 16 + 7);
    }
    Asm.sentence("Terms 3", "A word at which no label is and none goes on to it: 7 (the word ahead is RETURN)");
    RegionYard y = new RegionYard();
    Asm.open(y, 1, Asm.exit(0), Asm.giveBack(), Asm.giveBack());
    y.function(1);
    Asm.label(y, 0, 0, Asm.zero(0));
    Asm.label(y, 1, 1);
    Asm.due("verify", y.verify(), 16 * 2 + 7);
    Asm.sentence("Terms 3", "7 (the word ahead is .. CALL or LINKED): those ask for a label there themselves, by 1");
    RegionYard call = new RegionYard();
    Asm.open(call, 1, Asm.call(1), Asm.jump(0), Asm.giveBack());
    call.function(2);
    Asm.label(call, 0, 0);
    Asm.label(call, 2, 1);
    Asm.due("verify", call.verify(), 1);
    Asm.sentence("Terms 3", "7: a label reaches a word behind them");
    RegionYard label = new RegionYard();
    Asm.open(label, 1, Asm.exit(0), Asm.jump(2), Asm.exit(3));
    Asm.label(label, 0, 0, Asm.zero(0));
    Asm.label(label, 1, 0, Asm.zero(3));
    Asm.label(label, 2, 0, Asm.zero(3));
    Asm.due("verify", label.verify(), 0);
    Asm.sentence("Terms 3", "7: ahead of what the word itself asks");
    RegionYard first = new RegionYard();
    Asm.open(first, 1, Asm.exit(0), Asm.giveBack());
    Asm.label(first, 0, 0, Asm.zero(0));
    Asm.due("verify", first.verify(), 16 + 7);
  }

  private static int startVerdict(int word, int[]... types) {
    RegionYard y = new RegionYard();
    Asm.open(y, 1, word, Asm.jump(1));
    Asm.label(y, 0, 0, types);
    Asm.label(y, 1, 0);
    return y.verify();
  }

  private static void start() {
    Asm.sentence("Terms 3", "Index 0 is no label of function 0: 12");
    RegionYard bare = new RegionYard();
    Asm.open(bare, 1, Asm.jump(1), Asm.jump(1));
    Asm.label(bare, 1, 0);
    Asm.due("no label", bare.verify(), 12);
    RegionYard other = new RegionYard();
    Asm.open(other, 1, Asm.jump(0));
    other.function(0);
    Asm.label(other, 0, 1);
    Asm.due("a label of function 1", other.verify(), 12);
    Asm.sentence("Terms 3", "or INTS 0 .. 0 don't MEET its types: 12");
    for (int register = 0; register < 8; register++) {
      Asm.due("0 .. 0", startVerdict(Asm.yieldTurn(), ints(register, 0, 0)), 0);
      Asm.due("0 .. 5", startVerdict(Asm.yieldTurn(), ints(register, 0, 5)), 0);
      Asm.due("-5 .. 0", startVerdict(Asm.yieldTurn(), ints(register, -5, 0)), 0);
      Asm.due("all", startVerdict(Asm.yieldTurn(), ints(register, MIN, MAX)), 0);
      Asm.due("any", startVerdict(Asm.yieldTurn(), Asm.type(register, 0, 1, 1)), 0);
      Asm.due("1 .. 5", startVerdict(Asm.yieldTurn(), ints(register, 1, 5)), 12);
      Asm.due("-5 .. -1", startVerdict(Asm.yieldTurn(), ints(register, -5, -1)), 12);
      Asm.due("a POINTER 0 .. 0", startVerdict(Asm.yieldTurn(), pointer(register, 0, 0)), 12);
    }
    Asm.sentence("Terms 3", "12 (at index 0, ahead of all else of that)");
    int[] words = {Asm.giveBack(), Asm.exit(3), Asm.call(5), Asm.linked(0), Asm.jump(77), Asm.load(0, 3, 0)};
    int[] reasons = {11, 2, 8, 8, 1, 2};
    for (int i = 0; i < words.length; i++) {
      Asm.due("wrong start", startVerdict(words[i], ints(7, 1, 1)), 12);
      Asm.due("right start", startVerdict(words[i]), reasons[i]);
      RegionYard y = new RegionYard();
      Asm.open(y, 1, words[i]);
      Asm.due("no start", y.verify(), 12);
    }
  }

  private static void order() {
    Asm.sentence("Terms 3", "of each word, in this order: its registers' kinds, what is told with it");
    Small.fault("DIV, 2 ahead of 5", 8, Asm.div(1, 2, 3), 2, ints(3, 0, 0));
    Small.fault("REM, 2 ahead of 5", 8, Asm.rem(1, 2, 3), 2, ints(3, 0, 0));
    Small.fault("STORE, 2 of D ahead of 3", 8, Asm.store(1, 2, 8), 2, pointer(2, 0, 0));
    Small.fault("STORE, 2 of A", 8, Asm.store(1, 2, 8), 2, ints(1, 0, 0), ints(2, 0, 0));
    Small.fault("LOAD, 2 ahead of 3", 8, Asm.load(1, 2, 8), 2, ints(2, 0, 0));
    Small.fault("ADD of POINTERS, 2 ahead of 6", 8, Asm.add(1, 2, 3), 2, pointer(2, FAR, FAR), pointer(3, FAR, FAR));
    Small.fault("SUB of POINTERS, 2 ahead of 6", 8, Asm.sub(1, 2, 3), 2, pointer(2, FAR, FAR), pointer(3, -FAR, -FAR));
    Asm.sentence("Terms 3", "in this order: .. what is told with it, where it goes");
    Small.lastFault("DIV, 5 ahead of 1", 8, Asm.div(1, 2, 3), 5, ints(2, 0, 0), ints(3, 0, 0));
    Small.lastFault("REM, 5 ahead of 1", 8, Asm.rem(1, 2, 3), 5, ints(2, 0, 0), ints(3, 0, 0));
    Small.lastFault("STORE, 3 ahead of 1", 8, Asm.store(1, 2, 8), 3, ints(1, 0, 0), pointer(2, 0, 0));
    Small.lastFault("LOAD, 3 ahead of 1", 8, Asm.load(1, 2, 8), 3, pointer(2, 0, 0));
    Small.lastFault("ADD, 6 ahead of 1", 8, Asm.add(1, 2, 3), 6, pointer(2, FAR, FAR), ints(3, 1, 1));
    Small.lastFault("INC, 6 ahead of 1", 8, Asm.inc(1, 2, 1), 6, pointer(2, FAR, FAR));
    Small.lastFault("AND, 2 ahead of 1", 8, Asm.and(1, 2, 1), 2);
    Small.lastFault("LESS, 2 ahead of 1", 8, Asm.less(1, 2, 77), 2, ints(1, 0, 0));
    Small.lastFault("SAME, 2 ahead of 1", 8, Asm.same(1, 2, 77), 2, ints(2, 0, 0));
  }

  private static void plainWords() {
    Asm.sentence("Terms 3", "EXIT, YIELD: as told (EXIT an INT)");
    Small.lastFault("EXIT", 8, Asm.exit(7), 0, ints(7, MIN, MAX));
    Small.makes("YIELD", Asm.yieldTurn(), pointer(7, MIN, MAX), pointer(7, MIN, MAX));
    Small.fault("YIELD wants nothing", 8, Asm.yieldTurn(), 0);
    Asm.sentence("Terms 3", "SET: S .. S");
    for (int s : new int[] {-32768, -1, 0, 1, 32767}) {
      Small.makes("SET " + s, Asm.set(1, s), ints(1, s, s));
    }
    Asm.sentence("Terms 3", "MOVE: ra's type");
    Small.makes("MOVE of an INT", Asm.move(1, 2), Asm.anyInt(1), Asm.anyInt(2), pointer(1, 0, 0));
    Small.makes("MOVE of a POINTER", Asm.move(1, 2), pointer(1, MIN, MAX), pointer(2, MIN, MAX), ints(1, 0, 0));
    Small.makes("MOVE to itself", Asm.move(1, 1), ints(1, -3, 3), ints(1, -3, 3));
    Asm.due("MOVE of any", Small.verdict(8, Asm.move(1, 2), new int[][] {ints(1, 0, 0)}, Asm.anyInt(1)), 16 + 4);
    Small.makes("MOVE leaves ra", Asm.move(1, 2), ints(2, 5, 6), ints(2, 5, 6));
  }

  private static void pointerSums() {
    Asm.sentence("Terms 3", "ADD: .. of a POINTER and an INT, in any order, a POINTER");
    Small.makes("POINTER + INT", Asm.add(1, 2, 3), pointer(1, -8, 15), pointer(2, -5, 6), ints(3, -3, 9));
    Small.makes("INT + POINTER", Asm.add(1, 3, 2), pointer(1, -8, 15), pointer(2, -5, 6), ints(3, -3, 9));
    Asm.sentence("Terms 3", "ADD: (6, if LOW is below -1000000 or HIGH above 1000000)");
    Small.makes("to both edges", Asm.add(1, 2, 3), pointer(1, -FAR, FAR), pointer(2, -1, 1), ints(3, 1 - FAR, FAR - 1));
    Small.fault("HIGH above", 8, Asm.add(1, 2, 3), 6, pointer(2, -1, 1), ints(3, 1 - FAR, FAR));
    Small.fault("LOW below", 8, Asm.add(1, 2, 3), 6, pointer(2, -1, 1), ints(3, -FAR, FAR - 1));
    Small.fault("HIGH above, in the other order", 8, Asm.add(1, 3, 2), 6, pointer(2, -1, 1), ints(3, 1 - FAR, FAR));
    Small.fault("LOW below, in the other order", 8, Asm.add(1, 3, 2), 6, pointer(2, -1, 1), ints(3, -FAR, FAR - 1));
    Small.fault("the sum would wrap to 0", 8, Asm.add(1, 2, 3), 6, pointer(2, MIN, MIN), ints(3, MIN, MIN));
    Small.fault("the sum would wrap to -2", 8, Asm.add(1, 2, 3), 6, pointer(2, MAX, MAX), ints(3, MAX, MAX));
    Asm.sentence("Terms 3", "SUB: of INTS; of a POINTER less an INT likewise");
    Small.makes("POINTER - INT", Asm.sub(1, 2, 3), pointer(1, -14, 9), pointer(2, -5, 6), ints(3, -3, 9));
    Small.makes("to both edges", Asm.sub(1, 2, 3), pointer(1, -FAR, FAR), pointer(2, -1, 1), ints(3, 1 - FAR, FAR - 1));
    Small.fault("LOW below", 8, Asm.sub(1, 2, 3), 6, pointer(2, -1, 1), ints(3, 1 - FAR, FAR));
    Small.fault("HIGH above", 8, Asm.sub(1, 2, 3), 6, pointer(2, -1, 1), ints(3, -FAR, FAR - 1));
    Small.fault("the difference would wrap to 0", 8, Asm.sub(1, 2, 3), 6, pointer(2, 0, MAX), ints(3, MIN, 0));
    Small.fault("an INT less a POINTER", 8, Asm.sub(1, 3, 2), 2, pointer(2, 0, 0), ints(3, 0, 0));
    Asm.sentence("Terms 3", "INC: as ADD by S (an INT or a POINTER)");
    Small.makes("POINTER to the edge", Asm.inc(1, 2, 32767), pointer(1, 32767, FAR), pointer(2, 0, FAR - 32767));
    Small.fault("POINTER above", 8, Asm.inc(1, 2, 32767), 6, pointer(2, 0, FAR - 32766));
    Small.makes("POINTER to the low edge", Asm.inc(1, 2, -32768), pointer(1, -FAR, 0), pointer(2, 32768 - FAR, 32768));
    Small.fault("POINTER below", 8, Asm.inc(1, 2, -32768), 6, pointer(2, 32767 - FAR, 32768));
    Small.fault("POINTER that was beyond by itself", 8, Asm.inc(1, 2, 0), 6, pointer(2, 0, FAR + 1));
    Small.fault("POINTER that comes back", 8, Asm.inc(1, 2, -1), 0, pointer(2, 0, FAR + 1));
    Small.makes("INT by 32767", Asm.inc(1, 2, 32767), ints(1, 32767, 32768), ints(2, 0, 1));
    Small.makes("INT by -32768", Asm.inc(1, 2, -32768), ints(1, -32768, -32767), ints(2, 0, 1));
  }

  private static void products() {
    Asm.sentence("Terms 3", "MUL: of INTS (by all four products)");
    int[][] parts = {{2, 5, 3, 7, 6, 35}, {-5, 2, 3, 7, -35, 14}, {-5, -2, 3, 7, -35, -6}, {2, 5, -7, 3, -35, 15},
      {-5, 2, -7, 3, -15, 35}, {-5, -2, -7, 3, -15, 35}, {2, 5, -7, -3, -35, -6}, {-5, 2, -7, -3, -14, 35},
      {-5, -2, -7, -3, 6, 35}, {0, 0, MIN, MAX, 0, 0}, {-3, 7, -5, 2, -35, 15}};
    for (int[] p : parts) {
      Small.makes("MUL", Asm.mul(1, 2, 3), ints(1, p[4], p[5]), ints(2, p[0], p[1]), ints(3, p[2], p[3]));
    }
    Asm.sentence("Terms 3", "MUL: if one of them is no int: the least and the greatest int");
    Small.makes("to the greatest", Asm.mul(1, 2, 3), ints(1, 1, MAX), ints(2, 1, MAX), ints(3, 1, 1));
    Small.makes("one above the greatest", Asm.mul(1, 2, 3), Asm.anyInt(1), ints(2, 1, 32768), ints(3, 1, 65536));
    Small.makes("to the least", Asm.mul(1, 2, 3), ints(1, MIN, -1), ints(2, -32768, -1), ints(3, 1, 65536));
    Small.makes("below the least", Asm.mul(1, 2, 3), Asm.anyInt(1), ints(2, -32769, -1), ints(3, 1, 65536));
    Small.makes("the least by -1", Asm.mul(1, 2, 3), Asm.anyInt(1), ints(2, MIN, MIN), ints(3, -1, -1));
    Small.makes("the least by itself", Asm.mul(1, 2, 3), Asm.anyInt(1), ints(2, MIN, MIN), ints(3, MIN, MIN));
    Small.makes("a product that would wrap to 0", Asm.mul(1, 2, 3), Asm.anyInt(1), ints(2, 65536, 65536), ints(3, 65536, 65536));
  }

  private static void quotients() {
    Asm.sentence("Terms 3", "DIV: rb must not be able to be 0 (5) / REM: 5");
    for (int op = 7; op <= 8; op++) {
      int word = Asm.word(op, 1, 2, 3 << 12);
      int[][] zeros = {{0, 0}, {0, 1}, {-1, 0}, {-1, 1}, {0, MAX}, {MIN, 0}, {MIN, MAX}};
      for (int[] z : zeros) {
        Small.fault("OP " + op + " by " + z[0] + " .. " + z[1], 8, word, 5, ints(2, 3, 4), ints(3, z[0], z[1]));
      }
      int[][] others = {{1, 1}, {1, MAX}, {-1, -1}, {MIN, -1}, {MAX, MAX}, {MIN, MIN}};
      for (int[] z : others) {
        Small.fault("OP " + op + " by " + z[0] + " .. " + z[1], 8, word, 0, ints(2, 3, 4), ints(3, z[0], z[1]));
      }
    }
    Asm.sentence("Terms 3", "DIV: LOW and HIGH as of the four quotients");
    int[][] parts = {{20, 35, 3, 7, 2, 11}, {-20, 35, 3, 7, -6, 11}, {-35, -20, 3, 7, -11, -2}, {20, 35, -7, -3, -11, -2},
      {-20, 35, -7, -3, -11, 6}, {-35, -20, -7, -3, 2, 11}, {-1, 1, 2, 2, 0, 0}, {-7, -7, 2, 2, -3, -3},
      {MIN, MAX, 1, 1, MIN, MAX}, {MIN, MAX, MIN, MIN, 0, 1}, {MIN + 1, MAX, -1, -1, -MAX, MAX}, {MIN, MAX, 2, 9, MIN / 2, MAX / 2}};
    for (int[] p : parts) {
      Small.makes("DIV", Asm.div(1, 2, 3), ints(1, p[4], p[5]), ints(2, p[0], p[1]), ints(3, p[2], p[3]));
    }
    Asm.sentence("Terms 3", "DIV: if one of them is no int (the least by -1): the least and the greatest int");
    Small.makes("the least by -1", Asm.div(1, 2, 3), Asm.anyInt(1), ints(2, MIN, MIN), ints(3, -1, -1));
    Small.makes("the least and more by -9 .. -1", Asm.div(1, 2, 3), Asm.anyInt(1), ints(2, MIN, -4), ints(3, -9, -1));
    Small.makes("all but the least by -9 .. -1", Asm.div(1, 2, 3), ints(1, 0, MAX), ints(2, MIN + 1, -4), ints(3, -9, -1));
    Small.makes("the least by -9 .. -2", Asm.div(1, 2, 3), ints(1, MIN / -9, MIN / -2), ints(2, MIN, MIN), ints(3, -9, -2));
  }

  private static void remainders() {
    Asm.sentence("Terms 3", "REM: with m the greater of both sizes of rb's LOW and HIGH, less 1");
    int[][] by = {{1, 1, 0}, {2, 2, 1}, {3, 7, 6}, {-7, -3, 6}, {-1, -1, 0}, {1, MAX, MAX - 1}, {MIN, -1, MAX}, {MIN, MIN, MAX}};
    for (int[] b : by) {
      int m = b[2];
      Small.makes("REM of all", Asm.rem(1, 2, 3), ints(1, -m, m), ints(2, -1, 1), ints(3, b[0], b[1]));
    }
    Asm.sentence("Terms 3", "REM: LOW 0, if ra's isn't below 0, else - m");
    Small.makes("from 0 on", Asm.rem(1, 2, 3), ints(1, 0, 6), ints(2, 0, 1), ints(3, 3, 7));
    Small.makes("from 1 on", Asm.rem(1, 2, 3), ints(1, 0, 6), ints(2, 1, MAX), ints(3, 3, 7));
    Small.makes("from -1 on", Asm.rem(1, 2, 3), ints(1, -6, 6), ints(2, -1, MAX), ints(3, 3, 7));
    Asm.sentence("Terms 3", "REM: HIGH 0, if ra's isn't above 0, else m");
    Small.makes("up to 0", Asm.rem(1, 2, 3), ints(1, -6, 0), ints(2, -1, 0), ints(3, -7, -3));
    Small.makes("up to -1", Asm.rem(1, 2, 3), ints(1, -6, 0), ints(2, MIN, -1), ints(3, -7, -3));
    Small.makes("up to 1", Asm.rem(1, 2, 3), ints(1, -6, 6), ints(2, MIN, 1), ints(3, -7, -3));
    Small.makes("0 .. 0", Asm.rem(1, 2, 3), ints(1, 0, 0), ints(2, 0, 0), ints(3, 3, 7));
  }

  private static void bits() {
    Asm.sentence("Terms 3", "AND: 0 .. N");
    for (int n : new int[] {0, 1, 32767, 32768, 65535}) {
      Small.makes("AND " + n, Asm.and(1, 2, n), ints(1, 0, n), ints(2, 1, 1));
      Small.makes("AND " + n + " of all", Asm.and(1, 2, n), ints(1, 0, n), Asm.anyInt(2));
    }
    Asm.sentence("Terms 3", "SHIFT: both shifted");
    Small.makes("SHIFT 0", Asm.shift(1, 2, 0), Asm.anyInt(1), Asm.anyInt(2));
    Small.makes("SHIFT 1", Asm.shift(1, 2, 1), ints(1, MIN / 2, MAX / 2), Asm.anyInt(2));
    Small.makes("SHIFT 31", Asm.shift(1, 2, 31), ints(1, -1, 0), Asm.anyInt(2));
    Small.makes("SHIFT of those below 0", Asm.shift(1, 2, 2), ints(1, -2, -1), ints(2, -5, -1));
    Small.makes("SHIFT of those above 0", Asm.shift(1, 2, 2), ints(1, 0, 2), ints(2, 3, 11));
    Asm.sentence("Terms 3", "BASE: a POINTER N .. N");
    for (int n : new int[] {0, 1, 32767, 32768, 65535}) {
      Small.makes("BASE " + n, Asm.base(1, n), pointer(1, n, n), ints(1, 0, 0));
    }
  }

  private static void cells() {
    Asm.sentence("Terms 3", "LOAD, STORE: LOW + S must not be below 0 (3)");
    for (int op = 13; op <= 14; op++) {
      int[] one = ints(1, 0, 0);
      cell("LOW 0", 8, op, 0, one, pointer(2, 0, 7), 0);
      cell("LOW -1", 8, op, 0, one, pointer(2, -1, 7), 3);
      cell("LOW 1 less 1", 8, op, -1, one, pointer(2, 1, 7), 0);
      cell("LOW 0 less 1", 8, op, -1, one, pointer(2, 0, 7), 3);
      cell("LOW 32768 less 32768", 8, op, -32768, one, pointer(2, 32768, 32775), 0);
      cell("LOW 32767 less 32768", 8, op, -32768, one, pointer(2, 32767, 32775), 3);
      cell("LOW would wrap", 8, op, -1, one, pointer(2, MIN, 0), 3);
    }
    Asm.sentence("Terms 3", "LOAD, STORE: HIGH + S be below NEED (3)");
    for (int op = 13; op <= 14; op++) {
      int[] one = ints(1, 0, 0);
      cell("HIGH 7 of 8", 8, op, 0, one, pointer(2, 7, 7), 0);
      cell("HIGH 8 of 8", 8, op, 0, one, pointer(2, 7, 8), 3);
      cell("HIGH 6 and 1 of 8", 8, op, 1, one, pointer(2, 6, 6), 0);
      cell("HIGH 7 and 1 of 8", 8, op, 1, one, pointer(2, 6, 7), 3);
      cell("HIGH 0 of 1", 1, op, 0, one, pointer(2, 0, 0), 0);
      cell("HIGH 1 of 1", 1, op, 0, one, pointer(2, 0, 1), 3);
      cell("HIGH 1023 of 1024", 1024, op, 0, one, pointer(2, 0, 1023), 0);
      cell("HIGH 1024 of 1024", 1024, op, 0, one, pointer(2, 0, 1024), 3);
      cell("HIGH -32766 and 32767 of 2", 2, op, 32767, one, pointer(2, -32767, -32766), 0);
      cell("HIGH -32765 and 32767 of 2", 2, op, 32767, one, pointer(2, -32767, -32765), 3);
      cell("HIGH would wrap", 8, op, 1, one, pointer(2, 0, MAX), 3);
    }
    Asm.sentence("Terms 3", "LOAD: any INT");
    Small.makes("LOAD", Asm.load(1, 2, 0), Asm.anyInt(1), pointer(2, 0, 0));
    Small.makes("LOAD into ra", Asm.load(2, 2, 0), Asm.anyInt(2), pointer(2, 0, 0));
    Asm.sentence("Terms 3", "STORE: rd an INT");
    Small.makes("STORE leaves rd", Asm.store(1, 2, 0), ints(1, 3, 4), ints(1, 3, 4), pointer(2, 0, 0));
    Small.fault("STORE of a POINTER", 8, Asm.store(2, 2, 0), 2, pointer(2, 0, 0));
  }

  private static void cell(String what, int need, int op, int s, int[] one, int[] two, int reason) {
    Small.fault(what + " of OP " + op, need, Asm.word(op, 1, 2, s), reason, one, two);
  }

  private static void lessThere() {
    int word = Asm.less(1, 2, 3);
    Asm.sentence("Terms 3", "LESS: N, where rd's HIGH is at most ra's less 1");
    Small.wayIs("cut", word, Small.both(0, 9, 4, 9), null, Small.both(0, 8, 4, 9));
    Small.wayIs("cut by much", word, Small.both(0, 9, 0, 2), null, Small.both(0, 1, 1, 2));
    Small.wayIs("just not cut", word, Small.both(0, 8, 4, 9), null, Small.both(0, 8, 4, 9));
    Small.wayIs("below the greatest", word, Small.both(5, MAX, 7, MAX), null, Small.both(5, MAX - 1, 7, MAX));
    Asm.sentence("Terms 3", "LESS: N, where ra's LOW is at least rd's and 1");
    Small.wayIs("cut", word, Small.both(4, 6, 4, 9), null, Small.both(4, 6, 5, 9));
    Small.wayIs("cut by much", word, Small.both(4, 6, -9, 9), null, Small.both(4, 6, 5, 9));
    Small.wayIs("just not cut", word, Small.both(4, 6, 5, 9), null, Small.both(4, 6, 5, 9));
    Small.wayIs("above the least", word, Small.both(MIN, 7, MIN, 9), null, Small.both(MIN, 7, MIN + 1, 9));
    Small.wayIs("of all", word, Small.both(MIN, MAX, MIN, MAX), null, Small.both(MIN, MAX - 1, MIN + 1, MAX));
  }

  private static void lessNext() {
    int word = Asm.less(1, 2, 3);
    Asm.sentence("Terms 3", "LESS: the next index, where rd's LOW is at least ra's");
    Small.wayIs("cut", word, Small.both(0, 9, 4, 6), Small.both(4, 9, 4, 6), null);
    Small.wayIs("not cut", word, Small.both(4, 9, 4, 6), Small.both(4, 9, 4, 6), null);
    Small.wayIs("of all", word, Small.both(MIN, MAX, MIN, MAX), Small.both(MIN, MAX, MIN, MAX), null);
    Asm.sentence("Terms 3", "LESS: the next index, where ra's HIGH is at most rd's");
    Small.wayIs("cut", word, Small.both(2, 6, 0, 9), Small.both(2, 6, 0, 6), null);
    Small.wayIs("not cut", word, Small.both(2, 9, 0, 9), Small.both(2, 9, 0, 9), null);
    Small.wayIs("both cut", word, Small.both(0, 6, 4, 9), Small.both(4, 6, 4, 6), null);
    Asm.sentence("Terms 3", "LESS: both at once, where no label is: the next word goes on with what is so");
    RegionYard y = new RegionYard();
    Asm.open(y, 1, Asm.exit(0), Asm.less(1, 2, 3), Asm.jump(4), Asm.jump(3), Asm.jump(4));
    Asm.label(y, 0, 0, Asm.zero(0));
    Asm.label(y, 1, 0, Small.both(0, 6, 4, 9));
    Asm.label(y, 3, 0, Small.both(0, 6, 4, 9));
    Asm.label(y, 4, 0, Small.both(4, 6, 4, 6));
    Asm.due("verify", y.verify(), 0);
  }

  private static void sameWays() {
    int word = Asm.same(1, 2, 3);
    Asm.sentence("Terms 3", "SAME: N, where both have the greater LOW and the lesser HIGH");
    Small.wayIs("apart", word, Small.both(0, 6, 4, 9), null, Small.both(4, 6, 4, 6));
    Small.wayIs("apart, the other way", word, Small.both(4, 9, 0, 6), null, Small.both(4, 6, 4, 6));
    Small.wayIs("within", word, Small.both(4, 6, 0, 9), null, Small.both(4, 6, 4, 6));
    Small.wayIs("around", word, Small.both(0, 9, 4, 6), null, Small.both(4, 6, 4, 6));
    Small.wayIs("of all", word, Small.both(MIN, MAX, MIN, MAX), null, Small.both(MIN, MAX, MIN, MAX));
    Asm.due("at one number", Small.branch(word, Small.both(0, 5, 5, 9), ANY, Small.both(5, 5, 5, 5)), 0);
    Asm.sentence("Terms 3", "SAME: the next index as it was");
    Small.wayIs("apart", word, Small.both(0, 6, 4, 9), Small.both(0, 6, 4, 9), null);
    Small.wayIs("of no number in common", word, Small.both(0, 3, 4, 9), Small.both(0, 3, 4, 9), null);
    Asm.due("of one number", Small.branch(word, Small.both(5, 5, 5, 5), Small.both(5, 5, 5, 5), ANY), 0);
    Asm.due("of one number, unmet", Small.branch(word, Small.both(5, 5, 5, 5), Small.both(6, 6, 5, 5), ANY), 16 + 4);
    Asm.due("of one number, no label", Small.branch(word, Small.both(5, 5, 5, 5), null, ANY), Small.REACHED);
  }

  /** Register 5 is 5 .. 6 at the branch, with another branch ahead of it at which it was not. */
  private static void otherRegisters() {
    Asm.sentence("Terms 3", "LESS, SAME: all other registers are on both ways as they were");
    for (int op = 16; op <= 17; op++) {
      for (int way = 2; way <= 3; way++) {
        for (int low = 5; low <= 6; low++) {
          RegionYard y = new RegionYard();
          Asm.open(y, 1, Asm.exit(0), Asm.word(op, 1, 2, 3), Asm.jump(2), Asm.jump(3), Asm.word(op, 1, 2, 4), Asm.jump(5));
          Asm.label(y, 0, 0, Asm.zero(0));
          Asm.label(y, 1, 0, ints(1, 0, 9), ints(2, 0, 9), ints(5, 5, 6));
          Asm.label(y, 2, 0, way == 2 ? new int[][] {ints(5, low, 6)} : ANY);
          Asm.label(y, 3, 0, way == 3 ? new int[][] {ints(5, low, 6)} : ANY);
          Asm.label(y, 4, 0, ints(1, 0, 9), ints(2, 0, 9), pointer(5, 7, 8));
          Asm.label(y, 5, 0, pointer(5, 7, 8));
          Asm.due("OP " + op + ", index " + way, y.verify(), low == 5 ? 0 : 16 + 4);
        }
      }
    }
  }

  private static void sameRegister() {
    int[][] from = Small.both(0, 9, 0, 9);
    int[][] unmet = Small.both(77, 77, 0, 0);
    Asm.sentence("Terms 3", "(Of D and A the same register: LESS never goes to N)");
    Asm.due("N is no word", Small.branch(Asm.less(1, 1, 77), from, ANY, ANY), 0);
    Asm.due("N is unmet", Small.branch(Asm.less(1, 1, 3), from, ANY, unmet), 0);
    Asm.due("the next goes on as it was", Small.branch(Asm.less(1, 1, 3), from, from, unmet), 0);
    Asm.due("the next is unmet", Small.branch(Asm.less(1, 1, 3), from, Small.both(0, 8, 0, 9), ANY), 16 + 4);
    Asm.due("the next is unmet", Small.branch(Asm.less(1, 1, 3), from, Small.both(1, 9, 0, 9), ANY), 16 + 4);
    Asm.due("the next is no label", Small.branch(Asm.less(1, 1, 3), from, null, ANY), Small.REACHED);
    Small.lastFault("LESS of itself, next beyond", 1, Asm.less(1, 1, 1), 1, ints(1, 0, 0));
    Asm.sentence("Terms 3", "(Of D and A the same register: SAME always goes to N)");
    Asm.due("the next is unmet", Small.branch(Asm.same(1, 1, 3), from, unmet, from), 0);
    Asm.due("the next is no label", Small.branch(Asm.same(1, 1, 3), from, null, from), Small.NOT_REACHED);
    Asm.due("N is unmet", Small.branch(Asm.same(1, 1, 3), from, ANY, Small.both(0, 8, 0, 9)), 16 + 4);
    Asm.due("N is no word", Small.branch(Asm.same(1, 1, 4), from, ANY, ANY), 16 + 1);
    Small.lastFault("SAME of itself", 1, Asm.same(1, 1, 1), 0, ints(1, 0, 9));
    Asm.sentence("Terms 3", "(both only so): but INTS they must be");
    Small.fault("LESS of one POINTER", 8, Asm.less(1, 1, 2), 2, pointer(1, 0, 0));
    Small.fault("SAME of one POINTER", 8, Asm.same(1, 1, 2), 2, pointer(1, 0, 0));
  }

  private static void wayNotGone() {
    int less = Asm.less(1, 2, 77);
    int same = Asm.same(1, 2, 77);
    Asm.sentence("Terms 3", "A way on which a HIGH would be below its LOW isn't gone: nothing is asked of it (N of LESS)");
    Asm.due("rd from ra's HIGH on", Small.branch(less, Small.both(5, 9, 0, 5), ANY, ANY), 0);
    Asm.due("rd from ra's HIGH less 1 on", Small.branch(less, Small.both(4, 9, 0, 5), ANY, ANY), 16 + 1);
    Asm.due("ra the least", Small.branch(less, Small.both(MIN, MAX, MIN, MIN), ANY, ANY), 0);
    Asm.due("ra up to the next", Small.branch(less, Small.both(MIN, MAX, MIN, MIN + 1), ANY, ANY), 16 + 1);
    Asm.due("rd the greatest", Small.branch(less, Small.both(MAX, MAX, MIN, MAX), ANY, ANY), 0);
    Asm.due("rd from the next on", Small.branch(less, Small.both(MAX - 1, MAX, MIN, MAX), ANY, ANY), 16 + 1);
    Asm.due("not gone, types unmet", Small.branch(Asm.less(1, 2, 3), Small.both(5, 9, 0, 5), ANY, Small.both(77, 77, 0, 0)), 0);
    Asm.sentence("Terms 3", "A way .. isn't gone: nothing is asked of it (N of SAME)");
    Asm.due("rd below ra", Small.branch(same, Small.both(0, 4, 5, 9), ANY, ANY), 0);
    Asm.due("rd up to ra", Small.branch(same, Small.both(0, 5, 5, 9), ANY, ANY), 16 + 1);
    Asm.due("ra below rd", Small.branch(same, Small.both(5, 9, 0, 4), ANY, ANY), 0);
    Asm.due("ra up to rd", Small.branch(same, Small.both(5, 9, 0, 5), ANY, ANY), 16 + 1);
    Asm.due("the least, the greatest", Small.branch(same, Small.both(MIN, MIN, MAX, MAX), ANY, ANY), 0);
    Asm.sentence("Terms 3", "A way .. isn't gone: nothing is asked of it (the next index of LESS)");
    int on = Asm.less(1, 2, 3);
    Asm.due("unmet", Small.branch(on, Small.both(0, 4, 5, 9), Small.both(77, 77, 0, 0), ANY), 0);
    Asm.due("gone, unmet", Small.branch(on, Small.both(0, 5, 5, 9), Small.both(77, 77, 0, 0), ANY), 16 + 4);
    Small.lastFault("not gone", 1, Asm.less(1, 2, 1), 0, ints(1, 0, 4), ints(2, 5, 9));
    Small.lastFault("gone", 1, Asm.less(1, 2, 1), 1, ints(1, 0, 5), ints(2, 5, 9));
    Asm.due("the least, the greatest", Small.branch(on, Small.both(MIN, MIN, MAX, MAX), Small.both(77, 77, 0, 0), ANY), 0);
    Asm.sentence("Terms 3", "and if that is the next index, that word is as behind a JUMP");
    Asm.due("not gone, no label", Small.branch(on, Small.both(0, 4, 5, 9), null, ANY), Small.NOT_REACHED);
    Asm.due("gone, no label", Small.branch(on, Small.both(0, 5, 5, 9), null, ANY), Small.REACHED);
    RegionYard y = new RegionYard();
    Asm.open(y, 1, Asm.exit(0), Asm.less(1, 2, 1), Asm.jump(2));
    y.function(2);
    Asm.label(y, 0, 0, Asm.zero(0));
    Asm.label(y, 1, 0, Small.both(0, 4, 5, 9));
    Asm.label(y, 2, 1);
    Asm.due("not gone, a label of another function", y.verify(), 0);
  }

  private static void wayOrder() {
    Asm.sentence("Terms 3", "N is asked ahead of the next one");
    for (int op = 16; op <= 17; op++) {
      int[][] from = Small.both(0, 9, 0, 9);
      int[][] unmet = Small.both(77, 77, 0, 0);
      Asm.due("N 1, next 4", Small.branch(Asm.word(op, 1, 2, 77), from, unmet, ANY), 16 + 1);
      Asm.due("N right, next 4", Small.branch(Asm.word(op, 1, 2, 3), from, unmet, ANY), 16 + 4);
      Asm.due("N 4, next right", Small.branch(Asm.word(op, 1, 2, 3), from, ANY, unmet), 16 + 4);
      RegionYard y = new RegionYard();
      Asm.open(y, 1, Asm.exit(0), Asm.word(op, 1, 2, 3), Asm.jump(2), Asm.jump(3));
      y.function(2);
      Asm.label(y, 0, 0, Asm.zero(0));
      Asm.label(y, 1, 0, from);
      Asm.label(y, 2, 1);
      Asm.label(y, 3, 0, unmet);
      Asm.due("N 4, next 1", y.verify(), 16 + 4);
    }
  }

  /** 0: EXIT, 1: CALL of a function, 2: JUMP to itself, 3: function 1, a JUMP to itself. */
  private static int callVerdict(int callee, int[][] at, int[][] entry, int[] out, int[][] behind) {
    RegionYard y = new RegionYard();
    Asm.open(y, 1, Asm.exit(0), Asm.call(callee), Asm.jump(2), Asm.jump(3));
    y.function(3);
    Asm.label(y, 0, 0, Asm.zero(0));
    Asm.label(y, 1, 0, at);
    if (behind != null) {
      Asm.label(y, 2, 0, behind);
    }
    if (entry != null) {
      Asm.label(y, 3, 1, entry);
    }
    if (out != null) {
      y.out(1, out[0], out[1], out[2], out[3]);
    }
    return y.verify();
  }

  private static void calls() {
    int[][] five = {ints(1, 5, 5)};
    Asm.sentence("Terms 3", "CALL: 8, if there is no function N");
    Asm.due("the last one", callVerdict(1, ANY, ANY, null, ANY), 0);
    for (int callee : new int[] {2, 7, 8, 9, 32768, 65535}) {
      Asm.due("CALL " + callee, callVerdict(callee, ANY, ANY, null, ANY), 16 + 8);
    }
    Asm.sentence("Terms 3", "CALL: 8, if .. N is not above the function that it stands in");
    Asm.due("function 0 of itself", callVerdict(0, ANY, ANY, null, ANY), 16 + 8);
    for (int callee = 0; callee <= 3; callee++) {
      RegionYard y = new RegionYard();
      Asm.open(y, 1, Asm.jump(0), Asm.jump(1), Asm.call(callee), Asm.jump(3), Asm.jump(4));
      y.function(1);
      y.function(2);
      y.function(4);
      int[] functions = {0, 1, 2, 2, 3};
      for (int i = 0; i < functions.length; i++) {
        y.label(i, functions[i]);
      }
      Asm.due("function 2 of " + callee, y.verify(), callee == 3 ? 0 : 16 * 2 + 8);
    }
    Asm.sentence("Terms 3", "CALL: then the entry must be a label of that function (1)");
    Asm.due("no label", callVerdict(1, ANY, null, null, ANY), 16 + 1);
    RegionYard other = new RegionYard();
    Asm.open(other, 1, Asm.call(1), Asm.jump(1), Asm.jump(2));
    other.function(2);
    other.function(2);
    Asm.label(other, 0, 0);
    Asm.label(other, 1, 0);
    Asm.label(other, 2, 2);
    Asm.due("a label of another", other.verify(), 1);
    Asm.sentence("Terms 3", "CALL: whose types are met (9)");
    Asm.due("just met", callVerdict(1, five, five, null, ANY), 0);
    Asm.due("above", callVerdict(1, new int[][] {ints(1, 5, 6)}, five, null, ANY), 16 + 9);
    Asm.due("below", callVerdict(1, new int[][] {ints(1, 4, 5)}, five, null, ANY), 16 + 9);
    Asm.due("any", callVerdict(1, ANY, five, null, ANY), 16 + 9);
    Asm.sentence("Terms 3", "CALL: behind it must be a label of its own function (1)");
    Asm.due("no label", callVerdict(1, ANY, ANY, null, null), 16 + 1);
    RegionYard foreign = new RegionYard();
    Asm.open(foreign, 1, Asm.call(1), Asm.jump(1), Asm.jump(2));
    foreign.function(2);
    Asm.label(foreign, 0, 0);
    Asm.label(foreign, 1, 1);
    Asm.label(foreign, 2, 1);
    Asm.due("a label of another", foreign.verify(), 1);
    RegionYard last = new RegionYard();
    Asm.open(last, 1, Asm.jump(0), Asm.jump(1), Asm.call(1));
    last.function(1);
    Asm.label(last, 0, 0);
    Asm.label(last, 1, 1);
    Asm.label(last, 2, 0);
    Asm.due("beyond the last word", last.verify(), 16 * 2 + 1);
  }

  private static void callOrder() {
    int[][] five = {ints(1, 5, 5)};
    Asm.sentence("Terms 3", "CALL: whose types the OUT types of N meet (4)");
    Asm.due("just met", callVerdict(1, ANY, ANY, ints(1, 5, 5), five), 0);
    Asm.due("above", callVerdict(1, ANY, ANY, ints(1, 5, 6), five), 16 + 4);
    Asm.due("below", callVerdict(1, ANY, ANY, ints(1, 4, 5), five), 16 + 4);
    Asm.due("a POINTER", callVerdict(1, ANY, ANY, pointer(1, 5, 5), five), 16 + 4);
    Asm.due("what was so ahead of it is gone", callVerdict(1, five, five, null, five), 16 + 4);
    Asm.sentence("Terms 3", "CALL: 8; then 1; 9; 1; 4, in this order");
    Asm.due("8 ahead of all", callVerdict(0, ANY, null, ints(1, 4, 5), null), 16 + 8);
    Asm.due("9 ahead of 1", callVerdict(1, ANY, five, null, null), 16 + 9);
    Asm.due("9 ahead of 4", callVerdict(1, ANY, five, null, five), 16 + 9);
    Asm.due("1 ahead of 4", callVerdict(1, ANY, null, null, five), 16 + 1);
  }

  /** Program 0 has NEED 3 and a function that wants r1 in 0 .. 5 and gives r2 in 4 .. 6; link 0 is to it. */
  private static int linkedVerdict(int link, int[][] at, int[][] behind) {
    RegionYard y = new RegionYard();
    Asm.open(y, 3, Asm.exit(0), Asm.set(2, 4), Asm.giveBack());
    y.function(1);
    Asm.label(y, 0, 0, Asm.zero(0));
    Asm.label(y, 1, 1, ints(1, 0, 5));
    y.out(1, 2, Asm.INT, 4, 6);
    Asm.due("verify of the library", y.verify(), 0);
    Asm.open(y, 3, Asm.exit(0), Asm.linked(link), Asm.jump(2));
    Asm.due("link", y.link(0, 1), 0);
    Asm.label(y, 0, 0, Asm.zero(0));
    Asm.label(y, 1, 0, at);
    if (behind != null) {
      Asm.label(y, 2, 0, behind);
    }
    return y.verify();
  }

  private static void linkedCalls() {
    int[][] good = {ints(1, 0, 5)};
    Asm.sentence("Terms 3", "LINKED: 8, if there is no link N");
    Asm.due("the last one", linkedVerdict(0, good, ANY), 0);
    for (int link : new int[] {1, 7, 8, 32768, 65535}) {
      Asm.due("LINKED " + link, linkedVerdict(link, ANY, null), 16 + 8);
    }
    RegionYard none = new RegionYard();
    Asm.open(none, 1, Asm.linked(0), Asm.jump(1));
    none.label(0, 0);
    none.label(1, 0);
    Asm.due("LINKED 0 without links", none.verify(), 8);
    Asm.sentence("Terms 3", "LINKED: the types of the entry in that program (9)");
    Asm.due("just met", linkedVerdict(0, good, ANY), 0);
    Asm.due("above", linkedVerdict(0, new int[][] {ints(1, 0, 6)}, ANY), 16 + 9);
    Asm.due("below", linkedVerdict(0, new int[][] {ints(1, -1, 5)}, ANY), 16 + 9);
    Asm.due("any", linkedVerdict(0, ANY, ANY), 16 + 9);
    Asm.due("9 ahead of 1", linkedVerdict(0, ANY, null), 16 + 9);
    Asm.due("9 ahead of 4", linkedVerdict(0, ANY, good), 16 + 9);
    Asm.sentence("Terms 3", "LINKED: 4, 1 likewise");
    Asm.due("no label behind", linkedVerdict(0, good, null), 16 + 1);
    Asm.due("OUT just met", linkedVerdict(0, good, new int[][] {ints(2, 4, 6)}), 0);
    Asm.due("OUT above", linkedVerdict(0, good, new int[][] {ints(2, 4, 5)}), 16 + 4);
    Asm.due("OUT below", linkedVerdict(0, good, new int[][] {ints(2, 5, 6)}), 16 + 4);
    Asm.due("what was so ahead of it is gone", linkedVerdict(0, good, good), 16 + 4);
    RegionYard y = new RegionYard();
    Asm.open(y, 1, Asm.jump(0), Asm.giveBack());
    y.function(1);
    y.label(0, 0);
    y.label(1, 1);
    Asm.due("verify of the library", y.verify(), 0);
    Asm.open(y, 1, Asm.linked(0), Asm.jump(1));
    y.link(0, 1);
    y.function(1);
    y.label(0, 0);
    y.label(1, 1);
    Asm.due("a label of another function behind", y.verify(), 1);
    Asm.open(y, 1, Asm.linked(0));
    y.link(0, 1);
    y.label(0, 0);
    Asm.due("nothing behind", y.verify(), 1);
  }

  private static void returns() {
    Asm.sentence("Terms 3", "RETURN: 11 in function 0");
    for (int function = 0; function <= 2; function++) {
      RegionYard y = new RegionYard();
      Asm.open(y, 1, Asm.jump(0), Asm.giveBack());
      y.function(1);
      y.function(1);
      y.label(0, 0);
      y.label(1, function);
      Asm.due("in function " + function, y.verify(), function == 0 ? 16 + 11 : 0);
    }
    RegionYard y = new RegionYard();
    Asm.open(y, 1, Asm.giveBack());
    y.out(0, 5, 1, 7, 7);
    y.label(0, 0);
    Asm.due("11 ahead of 10", y.verify(), 11);
    Asm.sentence("Terms 3", "RETURN: the registers MEET the OUT types of the function it stands in (10)");
    for (int register = 0; register < 8; register++) {
      for (int number = 3; number <= 6; number++) {
        RegionYard z = new RegionYard();
        Asm.open(z, 1, Asm.jump(0), Asm.set(register, number), Asm.giveBack());
        z.function(1);
        z.function(1);
        z.out(2, register, Asm.INT, 4, 5);
        z.out(1, register, Asm.POINTER, 4, 5);
        z.label(0, 0);
        z.label(1, 2);
        Asm.due("RETURN with " + number, z.verify(), number == 4 || number == 5 ? 0 : 16 * 2 + 10);
      }
    }
  }

  private static void beyondTheLast() {
    Asm.sentence("Terms 3", "The next index beyond the last word: 1");
    int[] words = {Asm.yieldTurn(), Asm.set(1, 0), Asm.move(1, 2), Asm.add(1, 2, 2), Asm.sub(1, 2, 2), Asm.mul(1, 2, 2),
      Asm.div(1, 2, 2), Asm.rem(1, 2, 2), Asm.inc(1, 2, 0), Asm.and(1, 2, 0), Asm.shift(1, 2, 0), Asm.base(1, 0),
      Asm.load(1, 3, 0), Asm.store(2, 3, 0), Asm.less(2, 4, 1), Asm.same(2, 4, 1)};
    for (int word : words) {
      Small.lastFault("OP " + (word >>> 24), 1, word, 1, ints(2, 1, 1), pointer(3, 0, 0), ints(4, 1, 1));
    }
    RegionYard y = new RegionYard();
    Asm.open(y, 1, Asm.yieldTurn());
    y.label(0, 0);
    Asm.due("the only word", y.verify(), 1);
  }

  private static void standsIn() {
    Asm.sentence("Terms 3", "(The function an instruction stands in is that of the label ahead of it.)");
    RegionYard y = new RegionYard();
    Asm.open(y, 1, Asm.exit(0), Asm.yieldTurn(), Asm.yieldTurn(), Asm.giveBack(), Asm.yieldTurn(), Asm.giveBack());
    y.function(1);
    Asm.label(y, 0, 0, Asm.zero(0));
    y.label(1, 1);
    y.label(4, 0);
    Asm.due("the first RETURN is of 1, the second of 0", y.verify(), 16 * 5 + 11);
    Asm.sentence("Terms 3", "all that goes on to the next index where a label is: RIGHT");
    for (int function = 0; function <= 1; function++) {
      RegionYard z = new RegionYard();
      Asm.open(z, 1, Asm.yieldTurn(), Asm.yieldTurn(), Asm.jump(2));
      z.function(2);
      z.label(0, 0);
      z.label(2, function);
      Asm.due("into a label of " + function, z.verify(), function == 0 ? 0 : 16 + 1);
    }
    RegionYard unmet = new RegionYard();
    Asm.open(unmet, 1, Asm.set(1, 5), Asm.jump(1));
    unmet.label(0, 0);
    Asm.label(unmet, 1, 0, ints(1, 6, 9));
    Asm.due("into a label that is not met", unmet.verify(), 4);
  }

  /** A program whose functions call as told, one row each; a row's number below 0 is LINKED. */
  private static int depth(RegionYard y, int linkTo, int[]... callees) {
    int number = y.begin(1);
    if (linkTo != NONE) {
      Asm.due("link", y.link(linkTo, 1), 0);
    }
    int at = 0;
    for (int f = 0; f < callees.length; f++) {
      int entry = at;
      for (int callee : callees[f]) {
        y.feed(callee < 0 ? Asm.linked(0) : Asm.call(callee));
        at++;
      }
      y.feed(f == 0 ? Asm.jump(at) : Asm.giveBack());
      if (f > 0) {
        y.function(entry);
      }
      for (int i = entry; i <= at; i++) {
        y.label(i, f);
      }
      at++;
    }
    Asm.due("verify", y.verify(), 0);
    return number;
  }

  private static int[] calling(int... callees) {
    return callees;
  }

  private static void depths() {
    RegionYard y = new RegionYard();
    Asm.sentence("Terms 3", "The DEPTH of a function: 0 without CALL and LINKED among its words");
    int leaf = depth(y, NONE, calling(), calling(2), calling());
    Asm.due("function 1's CALL is none of function 0's words", y.program(leaf, 6), 0);
    Asm.sentence("Terms 3", "DEPTH: else 1 more than the greatest one of the functions that these call");
    Asm.due("one", y.program(depth(y, NONE, calling(1), calling()), 6), 1);
    Asm.due("the greatest is the first", y.program(depth(y, NONE, calling(1, 2), calling(2), calling()), 6), 2);
    Asm.due("the greatest is the last", y.program(depth(y, NONE, calling(2, 1), calling(2), calling()), 6), 2);
    Asm.due("all eight", y.program(depth(y, NONE, calling(1), calling(2), calling(3), calling(4), calling(5), calling(6),
      calling(7), calling()), 6), 7);
    Asm.due("LINKED, 1 deep", y.program(depth(y, leaf, calling(-1)), 6), 2);
    Asm.due("LINKED by function 1", y.program(depth(y, leaf, calling(1), calling(-1)), 6), 3);
    Asm.due("LINKED is the greater", y.program(depth(y, leaf, calling(1, -1), calling()), 6), 2);
  }

  private static void verifyEdges() {
    Asm.sentence("Promise 9", "NONE: none is OPEN");
    RegionYard y = new RegionYard();
    Asm.due("ahead of all", y.verify(), NONE);
    Asm.open(y, 1, Asm.jump(0));
    y.label(0, 0);
    Asm.due("verify", y.verify(), 0);
    Asm.due("verify again", y.verify(), NONE);
    Asm.due("what it answered stays", y.program(0, 5), 0);
    Look.leavesAll("verify with none OPEN", false, z -> Asm.due("verify", z.verify(), NONE));
    Asm.sentence("Promise 9", "1 without words");
    y.begin(1);
    Asm.due("verify", y.verify(), 1);
    Asm.due("refused", y.program(1, 0), 2);
    Asm.due("what it answered", y.program(1, 5), 1);
    Asm.sentence("Promise 9", "What is OPEN is closed");
    Asm.due("feed", y.feed(0), NONE);
    Asm.due("begin", y.begin(1), 2);
    Asm.sentence("Promise 9", "0, it is accepted");
    Asm.due("state", y.program(0, 0), 1);
    Asm.due("spawn", y.spawn(0, 1), 0);
    Asm.sentence("Promise 9", "else 16 * index + the reason, of the first word (by index) that doesn't keep the rules");
    RegionYard first = new RegionYard();
    Asm.open(first, 1, Asm.yieldTurn(), Asm.exit(5), Asm.exit(0), Asm.jump(99));
    first.label(0, 0);
    first.label(3, 0);
    Asm.due("the first of three", first.verify(), 16 + 2);
    Asm.due("refused", first.program(0, 0), 2);
    Asm.due("spawn", first.spawn(0, 1), NONE);
    RegionYard far = new RegionYard();
    far.begin(1);
    for (int i = 0; i < 199; i++) {
      far.feed(Asm.yieldTurn());
    }
    far.feed(Asm.giveBack());
    far.label(0, 0);
    Asm.due("the last of 200", far.verify(), 16 * 199 + 11);
  }
}
