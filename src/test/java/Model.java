import java.math.BigInteger;
import java.util.ArrayDeque;
import java.util.ArrayList;
import java.util.Arrays;
import java.util.Deque;
import java.util.List;
import java.util.Map;
import java.util.NoSuchElementException;
import java.util.TreeMap;

/**
 * The document once more, for ease of reading, in another style than the class and with the whole
 * library: FuzzTest asks both the same. By the same hand as the class, so it finds slips, not a
 * misreading of the document. A step that the rules should have ruled out is an error, and so is a
 * register outside of the type that was proved for it: that finds a misreading that proves too much.
 */
final class Model {
  static final BigInteger LEAST = BigInteger.valueOf(Integer.MIN_VALUE);
  static final BigInteger GREATEST = BigInteger.valueOf(Integer.MAX_VALUE);

  record Type(int kind, BigInteger low, BigInteger high) {
    static final Type ANY = new Type(0, BigInteger.ZERO, BigInteger.ZERO);

    static Type of(int kind, long low, long high) {
      return kind == 0 ? ANY : new Type(kind, BigInteger.valueOf(low), BigInteger.valueOf(high));
    }

    static Type integer(BigInteger... corners) {
      BigInteger low = corners[0];
      BigInteger high = corners[0];
      for (BigInteger corner : corners) {
        low = low.min(corner);
        high = high.max(corner);
      }
      boolean ints = low.compareTo(LEAST) >= 0 && high.compareTo(GREATEST) <= 0;
      return ints ? new Type(1, low, high) : new Type(1, LEAST, GREATEST);
    }

    boolean meets(Type other) {
      return other.kind == 0
        || kind == other.kind && other.low.compareTo(low) <= 0 && high.compareTo(other.high) <= 0;
    }

    boolean isEmpty() {
      return low.compareTo(high) > 0;
    }

    boolean holds(int number) {
      return kind == 0 || low.intValue() <= number && number <= high.intValue();
    }
  }

  static Type[] anyTypes() {
    Type[] types = new Type[8];
    Arrays.fill(types, Type.ANY);
    return types;
  }

  static boolean allMeet(Type[] these, Type[] those) {
    for (int i = 0; i < 8; i++) {
      if (!these[i].meets(those[i])) {
        return false;
      }
    }
    return true;
  }

  static final class Mark {
    int function;
    Type[] types = anyTypes();
  }

  static final class Fun {
    int entry;
    Type[] out = anyTypes();
    int depth;
  }

  record Tie(int program, int function) {
  }

  static final class Prog {
    int need;
    List<Integer> words = new ArrayList<>();
    Map<Integer, Mark> marks = new TreeMap<>();
    List<Fun> funs = new ArrayList<>();
    List<Tie> ties = new ArrayList<>();
    /** By index: the types with which the word was gone through when it was last looked at. */
    Map<Integer, Type[]> proved = new TreeMap<>();
    int state;
    int answer = -1;

    int standsIn(int index) {
      for (int i = index; i >= 0; i--) {
        if (marks.containsKey(i)) {
          return marks.get(i).function;
        }
      }
      return -1;
    }
  }

  static final class Proc {
    int program;
    int at;
    int index;
    int[] registers = new int[8];
    Deque<int[]> calls = new ArrayDeque<>();
    int begin;
    int size;
    int state;
    int done;
    int value;
    long trace;
  }

  final List<Prog> progs = new ArrayList<>();
  final List<Proc> procs = new ArrayList<>();
  final List<Integer> queue = new ArrayList<>();
  final int[] cells = new int[4096];
  final boolean[] taken = new boolean[4096];
  int quantum = 4;
  int turn;
  int ticks;

  Prog open() {
    return !progs.isEmpty() && progs.get(progs.size() - 1).state == 0 ? progs.get(progs.size() - 1) : null;
  }

  int words() {
    int all = 0;
    for (Prog prog : progs) {
      all += prog.words.size();
    }
    return all;
  }

  int begin(int need) {
    if (open() != null || progs.size() == 24 || need < 1 || need > 1024) {
      return -1;
    }
    Prog prog = new Prog();
    prog.need = need;
    prog.funs.add(new Fun());
    progs.add(prog);
    return progs.size() - 1;
  }

  private static final String[] HAS = {"A", "", "DN", "DA", "DAB", "DAB", "DAB", "DAB", "DAB", "DAN", "DAN", "DAN",
    "DN", "DAN", "DAN", "N", "DAN", "DAN", "N", "N", ""};

  static boolean isWord(int word) {
    String hex = String.format("%08x", word);
    int op = Integer.parseInt(hex.substring(0, 2), 16);
    if (op > 20) {
      return false;
    }
    String has = HAS[op];
    boolean right = hex.charAt(2) == '0' || has.contains("D") && hex.charAt(2) < '8';
    right &= hex.charAt(3) == '0' || has.contains("A") && hex.charAt(3) < '8';
    if (has.contains("B")) {
      return right && hex.charAt(4) < '8' && hex.endsWith("000");
    }
    if (op == 11) {
      return right && Integer.parseInt(hex.substring(4), 16) <= 31;
    }
    return right && (has.contains("N") || hex.endsWith("0000"));
  }

  int feed(int word) {
    Prog prog = open();
    if (prog == null || !isWord(word) || prog.words.size() == 200 || words() == 2000) {
      return -1;
    }
    prog.words.add(word);
    return prog.words.size() - 1;
  }

  boolean label(int index, int function) {
    Prog prog = open();
    if (prog == null || index < 0 || index >= prog.words.size() || function < 0 || function >= prog.funs.size()) {
      return false;
    }
    Mark mark = new Mark();
    mark.function = function;
    prog.marks.put(index, mark);
    return true;
  }

  private static boolean tell(Type[] types, int register, int kind, int low, int high) {
    if (register < 0 || register > 7 || kind < 0 || kind > 2 || kind != 0 && low > high) {
      return false;
    }
    types[register] = Type.of(kind, low, high);
    return true;
  }

  boolean type(int index, int register, int kind, int low, int high) {
    Prog prog = open();
    return prog != null && prog.marks.containsKey(index) && tell(prog.marks.get(index).types, register, kind, low, high);
  }

  int function(int entry) {
    Prog prog = open();
    if (prog == null || prog.funs.size() == 8 || entry < 0 || entry >= prog.words.size()) {
      return -1;
    }
    Fun fun = new Fun();
    fun.entry = entry;
    prog.funs.add(fun);
    return prog.funs.size() - 1;
  }

  boolean out(int function, int register, int kind, int low, int high) {
    Prog prog = open();
    return prog != null && function >= 0 && function < prog.funs.size()
      && tell(prog.funs.get(function).out, register, kind, low, high);
  }

  int link(int program, int function) {
    Prog prog = open();
    if (prog == null || prog.ties.size() == 8 || program < 0 || program >= progs.size()) {
      return -1;
    }
    Prog other = progs.get(program);
    if (other.state != 1 || function < 1 || function >= other.funs.size() || other.need > prog.need) {
      return -1;
    }
    Fun fun = other.funs.get(function);
    Mark mark = other.marks.get(fun.entry);
    if (mark == null || mark.function != function || fun.depth > 32) {
      return -1;
    }
    prog.ties.add(new Tie(program, function));
    return prog.ties.size() - 1;
  }

  int verify() {
    Prog prog = open();
    if (prog == null) {
      return -1;
    }
    prog.answer = fault(prog, prog.words.size());
    prog.state = prog.answer == 0 ? 1 : 2;
    if (prog.state == 1) {
      for (int f = 0; f < prog.funs.size(); f++) {
        prog.funs.get(f).depth = depth(prog, f);
      }
    }
    return prog.answer;
  }

  private int depth(Prog prog, int function) {
    int depth = 0;
    for (int i = 0; i < prog.words.size(); i++) {
      int op = prog.words.get(i) >>> 24;
      int n = prog.words.get(i) & 0xFFFF;
      if (prog.standsIn(i) == function && op == 18) {
        depth = Math.max(depth, 1 + depth(prog, n));
      }
      if (prog.standsIn(i) == function && op == 19) {
        Tie tie = prog.ties.get(n);
        depth = Math.max(depth, 1 + progs.get(tie.program).funs.get(tie.function).depth);
      }
    }
    return depth;
  }

  /** The first fault among the words below an index. */
  int fault(Prog prog, int below) {
    if (prog.words.isEmpty()) {
      return 1;
    }
    Type[] types = null;
    for (int i = 0; i < below; i++) {
      Mark mark = prog.marks.get(i);
      Type[] zeros = new Type[8];
      Arrays.fill(zeros, Type.of(1, 0, 0));
      if (i == 0 && (mark == null || mark.function != 0 || !allMeet(zeros, mark.types))) {
        return 12;
      }
      if (mark != null) {
        types = mark.types.clone();
      }
      if (types == null) {
        return 16 * i + 7;
      }
      prog.proved.put(i, types.clone());
      Walk walk = new Walk(this, prog, i, types);
      int reason = walk.reason();
      if (reason != 0) {
        return 16 * i + reason;
      }
      types = walk.next;
    }
    return 0;
  }

  /** One word: what it asks, and the types with which the next index is gone to (null: it is not). */
  static final class Walk {
    final Model model;
    final Prog prog;
    final int index;
    final Type[] types;
    final int d;
    final int a;
    final int b;
    final int n;
    final int op;
    final BigInteger s;
    Type[] next;

    Walk(Model model, Prog prog, int index, Type[] types) {
      this.model = model;
      this.prog = prog;
      this.index = index;
      this.types = types;
      int word = prog.words.get(index);
      op = word >>> 24;
      d = word >> 20 & 15;
      a = word >> 16 & 15;
      n = word & 65535;
      b = n >> 12;
      s = BigInteger.valueOf(n >= 32768 ? n - 65536 : n);
    }

    int right(int to, Type[] with) {
      Mark mark = prog.marks.get(to);
      if (mark == null || mark.function != prog.standsIn(index)) {
        return 1;
      }
      return allMeet(with, mark.types) ? 0 : 4;
    }

    int onward(Type[] with) {
      next = with;
      if (index + 1 == prog.words.size()) {
        return 1;
      }
      return prog.marks.containsKey(index + 1) ? right(index + 1, with) : 0;
    }

    int becomes(Type type) {
      Type[] after = types.clone();
      after[d] = type;
      return onward(after);
    }

    int reason() {
      Type td = types[d];
      Type ta = types[a];
      Type tb = b < 8 ? types[b] : null;
      switch (op) {
        case 0: return ta.kind == 1 ? 0 : 2;
        case 1: return onward(types.clone());
        case 2: return becomes(new Type(1, s, s));
        case 3: return becomes(ta);
        case 4: return sum(ta, tb);
        case 5: return tb.kind != 1 ? 2 : sum(ta, new Type(1, tb.high.negate(), tb.low.negate()));
        case 6:
          if (ta.kind != 1 || tb.kind != 1) return 2;
          return becomes(Type.integer(ta.low.multiply(tb.low), ta.low.multiply(tb.high), ta.high.multiply(tb.low), ta.high.multiply(tb.high)));
        case 7: case 8: return parted(ta, tb);
        case 9: return sum(ta, new Type(1, s, s));
        case 10: return ta.kind != 1 ? 2 : becomes(Type.of(1, 0, n));
        case 11: return ta.kind != 1 ? 2 : becomes(new Type(1, ta.low.shiftRight(n), ta.high.shiftRight(n)));
        case 12: return becomes(Type.of(2, n, n));
        case 13: case 14:
          if (op == 14 && td.kind != 1 || ta.kind != 2) return 2;
          if (ta.low.add(s).signum() < 0 || ta.high.add(s).compareTo(BigInteger.valueOf(prog.need)) >= 0) return 3;
          return op == 13 ? becomes(new Type(1, LEAST, GREATEST)) : onward(types.clone());
        case 15: return right(n, types);
        case 16: case 17: return td.kind != 1 || ta.kind != 1 ? 2 : forked(td, ta);
        case 18: case 19: return called();
        default:
          int function = prog.standsIn(index);
          if (function == 0) return 11;
          return allMeet(types, prog.funs.get(function).out) ? 0 : 10;
      }
    }

    int sum(Type x, Type y) {
      if (x.kind == 0 || y.kind == 0 || x.kind + y.kind == 4) {
        return 2;
      }
      BigInteger low = x.low.add(y.low);
      BigInteger high = x.high.add(y.high);
      if (x.kind == y.kind) {
        return becomes(Type.integer(low, high));
      }
      BigInteger most = BigInteger.valueOf(1000000);
      return low.compareTo(most.negate()) < 0 || high.compareTo(most) > 0 ? 6 : becomes(new Type(2, low, high));
    }

    int parted(Type x, Type y) {
      if (x.kind != 1 || y.kind != 1) {
        return 2;
      }
      if (y.low.signum() <= 0 && y.high.signum() >= 0) {
        return 5;
      }
      if (op == 7) {
        return becomes(Type.integer(x.low.divide(y.low), x.low.divide(y.high), x.high.divide(y.low), x.high.divide(y.high)));
      }
      BigInteger m = y.low.abs().max(y.high.abs()).subtract(BigInteger.ONE);
      return becomes(new Type(1, x.low.signum() < 0 ? m.negate() : BigInteger.ZERO, x.high.signum() > 0 ? m : BigInteger.ZERO));
    }

    int forked(Type x, Type y) {
      Type[] there = types.clone();
      Type[] on = types.clone();
      boolean goesThere = true;
      boolean goesOn = true;
      if (d == a) {
        goesThere = op == 17;
        goesOn = op == 16;
      } else if (op == 16) {
        there[d] = new Type(1, x.low, x.high.min(y.high.subtract(BigInteger.ONE)));
        there[a] = new Type(1, y.low.max(x.low.add(BigInteger.ONE)), y.high);
        on[d] = new Type(1, x.low.max(y.low), x.high);
        on[a] = new Type(1, y.low, y.high.min(x.high));
      } else {
        there[d] = new Type(1, x.low.max(y.low), x.high.min(y.high));
        there[a] = there[d];
      }
      goesThere &= !there[d].isEmpty() && !there[a].isEmpty();
      goesOn &= !on[d].isEmpty() && !on[a].isEmpty();
      int reason = goesThere ? right(n, there) : 0;
      return reason != 0 || !goesOn ? reason : onward(on);
    }

    int called() {
      Prog other = prog;
      int number = n;
      if (op == 18) {
        if (n >= prog.funs.size() || n <= prog.standsIn(index)) {
          return 8;
        }
      } else {
        if (n >= prog.ties.size()) {
          return 8;
        }
        other = model.progs.get(prog.ties.get(n).program);
        number = prog.ties.get(n).function;
      }
      Fun fun = other.funs.get(number);
      Mark mark = other.marks.get(fun.entry);
      if (mark == null || mark.function != number) {
        return 1;
      }
      return allMeet(types, mark.types) ? right(index + 1, fun.out) : 9;
    }
  }

  int program(int program, int what) {
    if (program < 0 || program >= progs.size() || what < 0 || what > 6) {
      throw new NoSuchElementException();
    }
    Prog p = progs.get(program);
    int[] all = {p.state, p.need, p.words.size(), p.funs.size(), p.ties.size(), p.answer, p.funs.get(0).depth};
    return all[what];
  }

  private int lowest(int size) {
    int free = 0;
    for (int i = 0; i < 4096; i++) {
      free = taken[i] ? 0 : free + 1;
      if (free == size) {
        return i - size + 1;
      }
    }
    return -1;
  }

  int spawn(int program, int size) {
    if (program < 0 || program >= progs.size() || progs.get(program).state != 1) {
      return -1;
    }
    if (size < progs.get(program).need) {
      return -2;
    }
    int begin = lowest(size);
    if (begin < 0) {
      return -3;
    }
    if (queue.size() == 40 || procs.size() == 300) {
      return -4;
    }
    Proc proc = new Proc();
    proc.program = program;
    proc.at = program;
    proc.begin = begin;
    proc.size = size;
    Arrays.fill(cells, begin, begin + size, 0);
    Arrays.fill(taken, begin, begin + size, true);
    queue.add(procs.size());
    procs.add(proc);
    return procs.size() - 1;
  }

  private void over(Proc proc, int state) {
    Arrays.fill(taken, proc.begin, proc.begin + proc.size, false);
    proc.begin = -1;
    proc.state = state;
  }

  int tick() {
    if (queue.isEmpty()) {
      return -1;
    }
    int number = queue.get(0);
    Proc proc = procs.get(number);
    int op = step(proc);
    proc.done++;
    proc.trace = proc.trace * 31 + 1000L * proc.at + proc.index;
    for (int register : proc.registers) {
      proc.trace = proc.trace * 31 + register;
    }
    ticks++;
    turn++;
    if (op == 0) {
      over(proc, 1);
      queue.remove(0);
      turn = 0;
    } else if (op == 1 || turn >= quantum) {
      queue.add(queue.remove(0));
      turn = 0;
    }
    return number;
  }

  private int step(Proc p) {
    Prog prog = progs.get(p.at);
    int word = prog.words.get(p.index);
    int op = word >>> 24;
    int d = word >> 20 & 15;
    int a = word >> 16 & 15;
    int n = word & 65535;
    int b = n >> 12;
    int s = n >= 32768 ? n - 65536 : n;
    int[] r = p.registers;
    holdsWhatIsProved(prog, p);
    if (op == 0) {
      p.value = r[a];
      return op;
    }
    p.index++;
    switch (op) {
      case 1: break;
      case 2: r[d] = s; break;
      case 3: r[d] = r[a]; break;
      case 4: r[d] = r[a] + r[b]; break;
      case 5: r[d] = r[a] - r[b]; break;
      case 6: r[d] = r[a] * r[b]; break;
      case 7: r[d] = r[a] / r[b]; break;
      case 8: r[d] = r[a] % r[b]; break;
      case 9: r[d] = r[a] + s; break;
      case 10: r[d] = r[a] & n; break;
      case 11: r[d] = r[a] >> n; break;
      case 12: r[d] = n; break;
      case 13: r[d] = cells[where(p, (long) r[a] + s)]; break;
      case 14: cells[where(p, (long) r[a] + s)] = r[d]; break;
      case 15: p.index = n; break;
      case 16: p.index = r[d] < r[a] ? n : p.index; break;
      case 17: p.index = r[d] == r[a] ? n : p.index; break;
      case 18:
        p.calls.push(new int[] {p.at, p.index});
        p.index = prog.funs.get(n).entry;
        break;
      case 19:
        p.calls.push(new int[] {p.at, p.index});
        p.at = prog.ties.get(n).program;
        p.index = progs.get(p.at).funs.get(prog.ties.get(n).function).entry;
        break;
      default:
        int[] back = p.calls.pop();
        p.at = back[0];
        p.index = back[1];
    }
    return op;
  }

  private static void holdsWhatIsProved(Prog prog, Proc p) {
    Type[] types = prog.proved.get(p.index);
    for (int i = 0; i < 8; i++) {
      if (!types[i].holds(p.registers[i])) {
        throw new IllegalStateException("the rules prove of register " + i + " what is not so");
      }
    }
  }

  private int where(Proc p, long offset) {
    if (offset < 0 || offset >= progs.get(p.at).need || offset >= p.size) {
      throw new IllegalStateException("the rules let a cell outside be reached");
    }
    return p.begin + (int) offset;
  }

  int run(int n) {
    if (n < 0 || n > 5000) {
      throw new IllegalArgumentException();
    }
    int done = 0;
    while (done < n && tick() >= 0) {
      done++;
    }
    return done;
  }

  int quantum(int n) {
    if (n < 1 || n > 100) {
      throw new IllegalArgumentException();
    }
    int was = quantum;
    quantum = n;
    return was;
  }

  boolean kill(int process) {
    int position = queue.indexOf(process);
    if (position < 0) {
      return false;
    }
    queue.remove(position);
    turn = position == 0 ? 0 : turn;
    over(procs.get(process), 2);
    return true;
  }

  private Proc proc(int process) {
    if (process < 0 || process >= procs.size()) {
      throw new NoSuchElementException();
    }
    return procs.get(process);
  }

  int process(int process, int what) {
    Proc p = proc(process);
    if (what < 0 || what > 8) {
      throw new NoSuchElementException();
    }
    int[] all = {p.state, p.program, 1000 * p.at + p.index, p.done, p.calls.size(), p.begin, p.size, queue.indexOf(process), p.value};
    return all[what];
  }

  int register(int process, int register) {
    Proc p = proc(process);
    if (register < 0 || register > 7) {
      throw new NoSuchElementException();
    }
    return p.registers[register];
  }

  long trace(int process) {
    return proc(process).trace;
  }

  int cell(int process, int offset) {
    Proc p = proc(process);
    if (p.state != 0 || offset < 0 || offset >= p.size) {
      throw new NoSuchElementException();
    }
    return cells[p.begin + offset];
  }

  int peek(int at) {
    if (at < 0 || at > 4095) {
      throw new NoSuchElementException();
    }
    return cells[at];
  }

  int count(int what) {
    if (what < 0 || what > 8) {
      throw new NoSuchElementException();
    }
    int free = 0;
    int stretches = 0;
    int greatest = 0;
    int stretch = 0;
    for (boolean one : taken) {
      stretch = one ? 0 : stretch + 1;
      free += one ? 0 : 1;
      stretches += stretch == 1 ? 1 : 0;
      greatest = Math.max(greatest, stretch);
    }
    int[] all = {progs.size(), words(), procs.size(), queue.size(), free, stretches, greatest, ticks, queue.isEmpty() ? -1 : turn};
    return all[what];
  }
}
