import java.util.NoSuchElementException;
import java.util.Random;

/** Random runs of calls on a yard and on the model: every answer must be the same. */
public final class FuzzTest {
  private static final int RUNS = 5000;
  private static final int CALLS_MAX = 512;
  private static final int[] BOUNDS = {Asm.MIN, Asm.MIN + 1, -1000001, -1000000, -70000, -9, -2, -1, 0, 0, 1, 2, 3, 5, 8,
    9, 100, 70000, 1000000, 1000001, Asm.MAX - 1, Asm.MAX};
  private static final int[] ODD = {-1, 0, 1, 7, 8, 9, 24, 200, 1025, 4096, 5001, Asm.MIN, Asm.MAX};
  /** What seldom fits by chance is tried more often. */
  private static final int[] HARD = {4, 5, 6, 6, 7, 7, 8, 8, 13, 13, 14, 14, 16, 16, 16, 17, 17};
  private static int accepted = 0;
  private static final long[] byReason = new long[16];
  private static final long[] byOp = new long[21];

  private final Random random;
  private final RegionYard yard = new RegionYard();
  private final Model model = new Model();
  private int calls;

  private FuzzTest(long seed) {
    random = new Random(seed);
  }

  public static void main(String[] args) {
    int runs = args.length > 0 ? Integer.parseInt(args[0]) : RUNS;
    long first = args.length > 1 ? Long.parseLong(args[1]) : 0;
    for (int i = 0; i < runs; i++) {
      new FuzzTest(first + i).go();
    }
    StringBuilder text = new StringBuilder();
    text.append(accepted).append(" programs accepted; by reason");
    for (long n : byReason) {
      text.append(' ').append(n);
    }
    text.append("; words of accepted ones by OP");
    for (long n : byOp) {
      text.append(' ').append(n);
    }
    System.out.println(text);
    Asm.due("programs are accepted often", accepted > runs / 3, true);
    Asm.end("FuzzTest");
  }

  private static long answer(Asm.Call call) {
    try {
      return call.answer();
    } catch (NoSuchElementException e) {
      return Long.MIN_VALUE + 1;
    } catch (IllegalArgumentException e) {
      return Long.MIN_VALUE + 2;
    }
  }

  private void both(String what, Asm.Call got, Asm.Call want) {
    if (calls < CALLS_MAX) {
      calls++;
      Asm.due(what, answer(got), answer(want));
    }
  }

  private int below(int n) {
    return random.nextInt(n);
  }

  private boolean oneIn(int n) {
    return random.nextInt(n) == 0;
  }

  private int odd(int usual) {
    return oneIn(40) ? ODD[below(ODD.length)] : usual;
  }

  private void go() {
    int programs = 1 + below(5);
    for (int i = 0; i < programs; i++) {
      Model.Prog plan = plan();
      if (calls + 2 * plan.words.size() + 40 * plan.marks.size() < 400) {
        tellPlan(plan);
      }
      work(10);
    }
    work(40);
    lookAround();
  }

  /** A program that the model mostly finds right, word by word. */
  private Model.Prog plan() {
    Model.Prog plan = new Model.Prog();
    plan.need = 1 + below(12);
    plan.funs.add(new Model.Fun());
    int length = 2 + below(24);
    for (int i = 0; i < length; i++) {
      plan.words.add(Asm.exit(0));
    }
    int functions = below(4);
    int at = 0;
    int function = 0;
    for (int i = 0; i < length; i++) {
      if (function < functions && i > 0 && oneIn(5)) {
        function++;
        Model.Fun fun = new Model.Fun();
        fun.entry = i;
        randomTypes(fun.out, 12);
        plan.funs.add(fun);
        at = i;
      }
      if (i == at || oneIn(3)) {
        Model.Mark mark = new Model.Mark();
        mark.function = function;
        if (i > 0 || oneIn(30)) {
          randomTypes(mark.types, 2 + below(4));
        } else {
          mark.types[below(8)] = Model.Type.of(1, -below(5), below(5));
          mark.types[below(8)] = Model.Type.of(1, 0, 0);
        }
        plan.marks.put(i, mark);
      }
    }
    if (!model.progs.isEmpty()) {
      tie(plan);
    }
    for (int i = 0; i < length; i++) {
      fit(plan, i);
    }
    return plan;
  }

  private void tie(Model.Prog plan) {
    for (int tries = 0; tries < 6; tries++) {
      int program = below(model.progs.size());
      Model.Prog other = model.progs.get(program);
      int function = other.funs.size() > 1 ? 1 + below(other.funs.size() - 1) : 0;
      if (other.state == 1 && function > 0 && other.marks.containsKey(other.funs.get(function).entry)
        && other.marks.get(other.funs.get(function).entry).function == function && plan.ties.size() < 8) {
        plan.need = Math.max(plan.need, other.need);
        plan.ties.add(new Model.Tie(program, function));
      }
    }
  }

  private void randomTypes(Model.Type[] types, int rare) {
    for (int i = 0; i < 8; i++) {
      if (oneIn(rare)) {
        int x = bound();
        int y = bound();
        boolean pointer = oneIn(i < 6 ? 12 : 2);
        if (pointer && !oneIn(6)) {
          x = below(6) - 1;
          y = x + below(4);
        }
        types[i] = Model.Type.of(pointer ? 2 : 1, Math.min(x, y), Math.max(x, y));
      }
    }
  }

  private int bound() {
    return oneIn(2) ? BOUNDS[below(BOUNDS.length)] : below(20) - 5;
  }

  private void fit(Model.Prog plan, int index) {
    int tries = oneIn(60) ? 1 : 60;
    for (int i = 0; i < tries; i++) {
      plan.words.set(index, randomWord(plan, index));
      int fault = model.fault(plan, index + 1);
      if (fault == 16 * index + 4 && oneIn(2) || fault == 16 * index + 9) {
        widen(plan, index);
        fault = model.fault(plan, index + 1);
      }
      if (fault == 0 || fault < 16 * index) {
        return;
      }
    }
  }

  /** Asks less of the labels ahead that this word goes to: some registers become any. */
  private void widen(Model.Prog plan, int index) {
    int word = plan.words.get(index);
    int op = word >>> 24;
    int n = word & 0xFFFF;
    int to = op == 15 || op == 16 || op == 17 ? n : index + 1;
    if (op == 18 && n < plan.funs.size() && oneIn(2)) {
      to = plan.funs.get(n).entry;
    }
    for (int at : new int[] {to, index + 1}) {
      Model.Mark mark = plan.marks.get(at);
      for (int r = 0; mark != null && at > index && r < 8; r++) {
        if (oneIn(2)) {
          mark.types[r] = Model.Type.ANY;
        }
      }
    }
  }

  private int randomOp(Model.Prog plan, int index) {
    int[] ends = {0, 15, 20};
    if (index == plan.words.size() - 1 || plan.marks.containsKey(index + 1)
      && plan.marks.get(index + 1).function != plan.marks.get(firstMark(plan, index)).function) {
      return ends[below(3)];
    }
    if (plan.marks.containsKey(index + 1) && oneIn(3)) {
      return 18 + below(2);
    }
    if (!oneIn(4)) {
      return HARD[below(HARD.length)];
    }
    int op = below(21);
    return op == 0 || op == 15 || op == 20 ? below(21) : op;
  }

  private static int firstMark(Model.Prog plan, int index) {
    for (int i = index; i > 0; i--) {
      if (plan.marks.containsKey(i)) {
        return i;
      }
    }
    return 0;
  }

  /** Pointers are kept in the last two registers mostly. */
  private int register(boolean pointer) {
    return oneIn(8) ? below(8) : pointer ? 6 + below(2) : below(6);
  }

  private int randomWord(Model.Prog plan, int index) {
    int op = randomOp(plan, index);
    boolean moves = (op == 3 || op == 4 || op == 5 || op == 9) && oneIn(3);
    int d = register(op == 12 || moves);
    int a = oneIn(12) ? d : register(op == 13 || op == 14 || moves);
    int n = oneIn(4) ? random.nextInt(65536) : below(12) - 3;
    switch (op) {
      case 0: return Asm.exit(a);
      case 1: return Asm.yieldTurn();
      case 2: return Asm.set(d, n);
      case 3: return Asm.move(d, a);
      case 4: case 5: case 6: case 7: case 8: return Asm.word(op, d, a, register(op == 4 && oneIn(5)) << 12);
      case 9: case 10: return Asm.word(op, d, a, moves ? below(5) - 2 : n);
      case 11: return Asm.shift(d, a, below(32));
      case 12: return Asm.base(d, oneIn(5) ? n : below(6));
      case 13: case 14: return Asm.word(op, d, a, below(8) - 3);
      case 15: case 16: case 17: return Asm.word(op, op == 15 ? 0 : d, op == 15 ? 0 : a, target(plan));
      case 18: return Asm.call(below(plan.funs.size() + (oneIn(8) ? 2 : 0)));
      case 19: return Asm.linked(below(plan.ties.size() + (oneIn(8) || plan.ties.isEmpty() ? 2 : 0)));
      default: return Asm.giveBack();
    }
  }

  private int target(Model.Prog plan) {
    Object[] marks = plan.marks.keySet().toArray();
    return oneIn(20) ? below(30) : (Integer) marks[below(marks.length)];
  }

  private void tellPlan(Model.Prog plan) {
    int need = odd(plan.need);
    both("begin(" + need + ")", () -> yard.begin(need), () -> model.begin(need));
    for (int word : plan.words) {
      if (oneIn(50)) {
        int wrong = random.nextInt() >>> 3;
        both("feed(" + wrong + ")", () -> yard.feed(wrong), () -> model.feed(wrong));
      }
      both("feed(" + word + ")", () -> yard.feed(word), () -> model.feed(word));
    }
    for (int f = 1; f < plan.funs.size(); f++) {
      int entry = odd(plan.funs.get(f).entry);
      both("function(" + entry + ")", () -> yard.function(entry), () -> model.function(entry));
      tellTypes(plan.funs.get(f).out, f, false);
    }
    for (Model.Tie tie : plan.ties) {
      int program = odd(tie.program());
      int function = odd(tie.function());
      both("link(" + program + ", " + function + ")", () -> yard.link(program, function), () -> model.link(program, function));
    }
    for (int index : plan.marks.keySet()) {
      int at = odd(index);
      int function = odd(plan.marks.get(index).function);
      both("label(" + at + ", " + function + ")", () -> yard.label(at, function) ? 1 : 0, () -> model.label(at, function) ? 1 : 0);
      tellTypes(plan.marks.get(index).types, index, true);
    }
    verifyBoth();
  }

  private void verifyBoth() {
    Model.Prog open = model.open();
    int number = model.progs.size() - 1;
    both("verify()", yard::verify, model::verify);
    if (open == null) {
      return;
    }
    byReason[open.answer & 15]++;
    if (open.state == 1) {
      accepted++;
      for (int word : open.words) {
        byOp[word >>> 24]++;
      }
    }
    for (int what = -1; what <= 7; what++) {
      int asked = what;
      both("program(" + number + ", " + what + ")", () -> yard.program(number, asked), () -> model.program(number, asked));
    }
  }

  private void tellTypes(Model.Type[] types, int index, boolean label) {
    for (int i = 0; i < 8; i++) {
      if (types[i].kind() == 0) {
        continue;
      }
      int at = odd(index);
      int register = odd(i);
      int kind = odd(types[i].kind());
      int low = types[i].low().intValue();
      int high = odd(types[i].high().intValue());
      if (label) {
        both("type(" + at + ", " + register + ", " + kind + ", " + low + ", " + high + ")",
          () -> yard.type(at, register, kind, low, high) ? 1 : 0, () -> model.type(at, register, kind, low, high) ? 1 : 0);
      } else {
        both("out(" + at + ", " + register + ", " + kind + ", " + low + ", " + high + ")",
          () -> yard.out(at, register, kind, low, high) ? 1 : 0, () -> model.out(at, register, kind, low, high) ? 1 : 0);
      }
    }
  }

  private void work(int times) {
    for (int i = 0; i < times; i++) {
      int process = odd(below(model.procs.size() + 1));
      switch (below(8)) {
        case 0: case 1: {
          int program = odd(below(model.progs.size() + 1));
          int size = odd(oneIn(10) ? below(4000) : 1 + below(60));
          both("spawn(" + program + ", " + size + ")", () -> yard.spawn(program, size), () -> model.spawn(program, size));
          break;
        }
        case 2: {
          int n = odd(below(40));
          both("run(" + n + ")", () -> yard.run(n), () -> model.run(n));
          break;
        }
        case 3: case 4: case 5:
          both("tick()", yard::tick, model::tick);
          break;
        case 6: {
          int n = odd(1 + below(9));
          both("quantum(" + n + ")", () -> yard.quantum(n), () -> model.quantum(n));
          break;
        }
        default:
          if (oneIn(3)) {
            both("kill(" + process + ")", () -> yard.kill(process) ? 1 : 0, () -> model.kill(process) ? 1 : 0);
          }
      }
      both("count(8)", () -> yard.count(8), () -> model.count(8));
      both("trace", () -> yard.trace(process), () -> model.trace(process));
    }
  }

  /** Looks at this and that, until the calls for which a yard's answers are promised are used up. */
  private void lookAround() {
    for (int what = -1; what <= 9; what++) {
      int asked = what;
      both("count(" + what + ")", () -> yard.count(asked), () -> model.count(asked));
    }
    while (calls < CALLS_MAX) {
      int process = odd(below(model.procs.size() + 1));
      int what = odd(below(10));
      int at = odd(below(200));
      both("process(" + process + ", " + what + ")", () -> yard.process(process, what), () -> model.process(process, what));
      both("register(" + process + ", " + what + ")", () -> yard.register(process, what), () -> model.register(process, what));
      both("cell(" + process + ", " + what + ")", () -> yard.cell(process, what), () -> model.cell(process, what));
      both("trace(" + process + ")", () -> yard.trace(process), () -> model.trace(process));
      both("peek(" + at + ")", () -> yard.peek(at), () -> model.peek(at));
    }
  }
}
