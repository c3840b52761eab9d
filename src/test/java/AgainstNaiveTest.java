import java.lang.reflect.Method;
import java.util.ArrayList;
import java.util.Arrays;
import java.util.List;

/**
 * Long runs of calls, the same ones each time, on a PairingHall and on a NaiveHall: both must answer alike.
 * Behind every call the whole state that can be asked for cheaply is held against the other one, too; these questions
 * are not counted among the 512 calls, as the program keeps no count of them.
 */
public final class AgainstNaiveTest {
  private static final int CALLS = 512;
  private static long seed;

  private static int below(int n) {
    seed = seed * 6364136223846793005L + 1442695040888963407L;
    return (int) Long.remainderUnsigned(seed >>> 33, n);
  }

  private static int between(int a, int b) { return a + below(b - a + 1); }

  private static int wild() {
    int[] odd = {-2147483648, 2147483647, -1, -2, 99, 24, 25, 60, 10, 6, 5, -100, 1000000};
    return odd[below(odd.length)];
  }

  /** The TOURNAMENT and the ROUND that the numbers of this call told last, so that the next ones may fit. */
  private static int cup, row;

  private static int fitting(NaiveHall hall, char sort) {
    List<NaiveHall.Cup> cups = hall.cups;
    boolean isCup = cup >= 0 && cup < cups.size();
    boolean isRow = isCup && row >= 0 && row < cups.get(cup).rounds.size();
    switch (sort) {
      case 't': cup = cups.isEmpty() ? 0 : below(cups.size()); return cup;
      case 'p': return hall.players.isEmpty() ? 0 : below(hall.players.size());
      case 'i': return isCup && !cups.get(cup).in.isEmpty() ? cups.get(cup).in.get(below(cups.get(cup).in.size())) : fitting(hall, 'p');
      case 'r': row = isCup && !cups.get(cup).rounds.isEmpty() ? below(cups.get(cup).rounds.size()) : 0; return row;
      case 'k': return isRow ? below(cups.get(cup).rounds.get(row).duels().size()) : 0;
      case 'x': return fitting(hall, 'r') * 10 + fitting(hall, 'k');
      case 'e': return isCup && !cups.get(cup).entries.isEmpty() ? below(cups.get(cup).entries.size()) : 0;
      case 'D': return (isCup && !cups.get(cup).rounds.isEmpty() ? cups.get(cup).rounds.get(cups.get(cup).rounds.size() - 1).day() : 0) + below(2);
      case 'd': return below(9);
      case 'K': return below(10) == 0 ? 3 + below(2) : below(3);
      case 'B': return below(3) == 0 ? 1000 + 100 * below(4) : between(0, 2400);
      case 'n': return between(0, 4);
      case 'c': return below(4);
      case 'o': return below(4) == 0 ? between(3, 6) : below(3);
      case 's': return between(1, 5);
      case '4': return between(1, 4);
      case 'P': return below(4);
      case '1': return below(2);
      case 'w': return below(4);
      case 'y': return below(200);
      case 'T': return below(54);
      default: throw new IllegalStateException();
    }
  }

  private static int number(NaiveHall hall, char sort, int oddity) {
    int fit = fitting(hall, sort);
    int luck = below(oddity);
    if (luck == 0) return wild();
    if (luck == 1) return fit + between(-1, 1);
    if (luck == 2) return between(-1, 12);
    return fit;
  }

  /** Each method with the sorts of its numbers, as often as it is called. */
  private static final String[] SCRIPT = {
    "player KB", "places pn", "seat pcp", "seat pcp", "held pc", "worth p", "stepOf p", "trace y", "tournament ", "enter tp",
    "enter tp", "withdraw ti", "rule t4s", "draw tD", "draw tD", "pair trkw", "round trw",
    "tell trkodd", "tell trkodd", "tell trkodd", "tell trkodd", "takeBack ted", "takeBack ted", "counts trkd",
    "counts trkd", "points tidd", "sum tisdd", "sum tisdd", "place tidd", "standing tkdd", "why tiidd", "why tiidd", "rated tird",
    "rated tird", "mean t", "could ti1d", "could ti1d", "found 4", "empty P", "run P", "run P", "ran w", "copy t",
    "alike tt", "finding ", "told T"
  };

  /** What follows the PLAN and the act of a STEP, by its act. */
  private static final String[] STEPS = {"KBdd", "pndd", "pcpd", "dddd", "tpdd", "tidd", "tDdd", "txod", "tedd", "pddd", "tid1", "Pddd"};

  private static int call(Object hall, String name, int[] numbers) throws Exception {
    for (Method m : hall.getClass().getMethods()) {
      if (m.getName().equals(name) && m.getReturnType() == int.class && m.getParameterCount() == numbers.length) {
        Object[] boxed = Arrays.stream(numbers).boxed().toArray();
        return (Integer) m.invoke(hall, boxed);
      }
    }
    throw new IllegalStateException(name);
  }

  private static String text(String name, int[] numbers) {
    return name + Arrays.toString(numbers).replace('[', '(').replace(']', ')');
  }

  private static final class Both {
    final PairingHall hall = new PairingHall();
    final NaiveHall naive = new NaiveHall();
    final List<String> said = new ArrayList<>();
    int count = 0;

    void both(String name, int... numbers) throws Exception {
      int got = call(hall, name, numbers), want = call(naive, name, numbers);
      said.add(text(name, numbers) + " = " + got);
      count++;
      if (got != want) throw new AssertionError(text(name, numbers) + " answered " + got + ", the naive one " + want);
    }

    void compareAll() {
      for (int i = 0; i <= 3; i++) same("told", i, hall.told(i), naive.told(i));
      for (int i = 10; i < 60; i++) same("told", i, hall.told(i), naive.told(i));
      for (int i = 0; i < hall.told(3); i++) same("trace", i, hall.trace(i), naive.trace(i));
      for (int i = 0; i <= 3; i++) same("ran", i, hall.ran(i), naive.ran(i));
      for (int i = 0; i <= 4; i++) same("found", i, hall.found(i), naive.found(i));
      same("finding", 0, hall.finding(), naive.finding());
      for (int t = 0; t < naive.cups.size(); t++) {
        for (int u = 0; u < naive.cups.size(); u++) same("alike", t * 10 + u, hall.alike(t, u), naive.alike(t, u));
        for (int r = 0; r < naive.cups.get(t).rounds.size(); r++) {
          for (int w = 0; w < 4; w++) same("round", r * 10 + w, hall.round(t, r, w), naive.round(t, r, w));
          for (int k = 0; k < naive.round(t, r, 1); k++) {
            same("white", r * 10 + k, hall.pair(t, r, k, 0), naive.pair(t, r, k, 0));
            same("black", r * 10 + k, hall.pair(t, r, k, 1), naive.pair(t, r, k, 1));
          }
        }
      }
    }

    private static void same(String what, int i, int got, int want) {
      if (got != want) throw new AssertionError("behind it " + what + " " + i + " is " + got + ", in the naive one " + want);
    }
  }

  private static void callOne(Both it, String script, int oddity) throws Exception {
    String[] line = script.split(" ", -1);
    // what unmakes all of a hall comes seldom in the calmer runs
    if (oddity > 40 && List.of("places", "withdraw", "tournament", "copy").contains(line[0]) && below(8) != 0) return;
    int[] numbers = new int[line[1].length()];
    for (int i = 0; i < numbers.length; i++) numbers[i] = number(it.naive, line[1].charAt(i), oddity);
    it.both(line[0], numbers);
  }

  private static void addStep(Both it, int oddity) throws Exception {
    int act = below(STEPS.length);
    int[] numbers = new int[6];
    numbers[0] = number(it.naive, 'P', oddity);
    numbers[1] = below(oddity) == 0 ? wild() : act;
    for (int i = 0; i < 4; i++) numbers[i + 2] = number(it.naive, STEPS[act].charAt(i), oddity);
    it.both("step", numbers);
  }

  /** A hall in which something is going on, so that most calls are no refusals. */
  private static void furnish(Both it) throws Exception {
    int players = between(4, 14);
    for (int i = 0; i < players; i++) it.both("player", fitting(it.naive, 'K'), fitting(it.naive, 'B'));
    for (int i = 0; i < players; i++) {
      if (it.naive.players.get(i).kind == 3 && below(4) != 0) {
        int n = between(1, 4);
        it.both("places", i, n);
        for (int c = 0; c < n; c++) it.both("seat", i, c, below(players));
      }
    }
    it.both("tournament");
    int in = between(2, 10);
    for (int i = 0; i < in; i++) it.both("enter", 0, below(players));
    for (int i = 1; i <= 4; i++) it.both("rule", 0, i, between(0, 5));
  }

  private static void play(Both it, int day) throws Exception {
    it.both("draw", 0, day);
    int r = it.naive.told(30) - 1;
    int pairs = r < 0 ? 0 : it.naive.round(0, r, 1);
    for (int k = 0; k < pairs; k++) {
      if (below(6) != 0) it.both("tell", 0, r, k, below(4) == 0 ? between(3, 6) : below(3), day + below(2), day + below(3));
    }
  }

  private static void oneRun(int run) throws Exception {
    seed = run * 7919L + 17;
    for (int i = 0; i < 5; i++) below(2);
    Both it = new Both();
    int oddity = run % 3 == 0 ? 12 : run % 3 == 1 ? 60 : 400;
    try {
      furnish(it);
      int rounds = below(7);
      for (int r = 0; r < rounds; r++) play(it, r);
      it.compareAll();
      while (it.count < CALLS) {
        if (below(8) == 0) addStep(it, oddity);
        else callOne(it, SCRIPT[below(SCRIPT.length)], oddity);
        it.compareAll();
      }
    } catch (AssertionError | Exception e) {
      System.out.println("run " + run + ": " + e);
      Throwable cause = e.getCause();
      if (cause != null) cause.printStackTrace(System.out);
      it.said.forEach(s -> System.out.println("  " + s));
      System.exit(1);
    }
    if (it.count > CALLS + 60) throw new IllegalStateException();
    tallyAnswers(it);
  }

  private static final java.util.TreeMap<String, int[]> SEEN = new java.util.TreeMap<>();

  private static void tallyAnswers(Both it) {
    for (String s : it.said) {
      String name = s.substring(0, s.indexOf('('));
      int answer = Integer.parseInt(s.substring(s.lastIndexOf(' ') + 1));
      int sort = answer >= 0 || answer < -6 ? 0 : -answer;
      SEEN.computeIfAbsent(name, n -> new int[7])[sort]++;
    }
  }

  public static void main(String[] args) throws Exception {
    int runs = args.length > 0 ? Integer.parseInt(args[0]) : 300;
    for (int run = 0; run < runs; run++) oneRun(run);
    if (args.length > 1) SEEN.forEach((n, row) -> System.out.println(n + " " + Arrays.toString(row)));
    System.out.println(runs + " runs of calls are as in the naive hall");
  }
}
