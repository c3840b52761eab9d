import java.util.ArrayList;
import java.util.Arrays;
import java.util.Collections;
import java.util.Comparator;
import java.util.HashSet;
import java.util.List;
import java.util.Set;
import java.util.TreeSet;

/**
 * The document once more, word by word and without care for speed or room, to hold PairingHall against.
 * It shares no code and as few ways of thinking as can be with the program: every question is answered
 * from the bare facts, all ways of a ROUND are listed, and a RUN works on copies.
 */
public final class NaiveHall {
  static final int NONE = -1, BAD = -2, NO = -3, FULL = -4, FINDING = -5, FAILED = -6;

  static final class Met extends RuntimeException {
    final int what;
    Met(int what) { super(null, null, false, false); this.what = what; }
  }

  static final class Player {
    int kind, base;
    List<Integer> places = null;
    Player like() {
      Player q = new Player();
      q.kind = kind; q.base = base;
      q.places = places == null ? null : new ArrayList<>(places);
      return q;
    }
  }

  record Duel(int white, int black) { }

  record Round(int day, List<Duel> duels, int cost, int broken) { }

  record Entry(int r, int k, int outcome, int day, int known, int back) { }

  static final class Cup {
    int serial;
    List<Integer> in = new ArrayList<>();
    Set<Integer> gone = new TreeSet<>();
    List<Round> rounds = new ArrayList<>();
    List<Entry> entries = new ArrayList<>();
    List<Integer> sums = new ArrayList<>(List.of(0, 0, 0, 0));
    Cup like() {
      Cup c = new Cup();
      c.serial = serial;
      c.in.addAll(in); c.gone.addAll(gone); c.rounds.addAll(rounds); c.entries.addAll(entries);
      c.sums = new ArrayList<>(sums);
      return c;
    }
  }

  List<Player> players = new ArrayList<>();
  List<Cup> cups = new ArrayList<>();
  final List<Integer> trace = new ArrayList<>();
  final List<List<int[]>> plans = new ArrayList<>();
  final int[] tries = new int[4];
  final int[] ran = {0, NONE, NONE, 0};
  List<Integer> found = new ArrayList<>();
  int serial = 0, finding = 0;

  public NaiveHall() { for (int i = 0; i < 4; i++) plans.add(new ArrayList<>()); }

  private int meet(int what) { finding = what; return FINDING; }
  private boolean noPlayer(int p) { return p < 0 || p >= players.size(); }
  private boolean noCup(int t) { return t < 0 || t >= cups.size(); }
  private void write(int body) { if (trace.size() < 200) trace.add(body); }

  // PLAYERS

  public int player(int kind, int base) {
    if (!List.of(0, 1, 2, 3, 4).contains(kind) || base < 0 || base > 3000) return BAD;
    if (players.size() == 24) return FULL;
    Player p = new Player();
    p.kind = kind; p.base = base;
    players.add(p);
    return players.size() - 1;
  }

  public int places(int p, int n) {
    if (noPlayer(p) || n > 4) return BAD;
    if (players.get(p).kind != 3) return meet(3);
    if (n < 0) return meet(5);
    players.get(p).places = new ArrayList<>(Collections.nCopies(n, NONE));
    return n;
  }

  public int seat(int p, int place, int who) {
    if (noPlayer(p)) return BAD;
    if (who != NONE && noPlayer(who)) return BAD;
    if (players.get(p).kind != 3) return meet(3);
    if (who != NONE && players.get(who).kind == 3) return meet(3);
    List<Integer> row = players.get(p).places;
    if (row == null) return meet(1);
    if (place < 0 || place >= row.size()) return meet(2);
    row.set(place, who);
    return 1;
  }

  public int held(int p, int place) {
    if (noPlayer(p)) return BAD;
    if (players.get(p).kind != 3) return meet(3);
    List<Integer> row = players.get(p).places;
    if (row == null) return meet(1);
    if (place < 0 || place >= row.size()) return meet(2);
    return row.get(place);
  }

  private int bodyWorth(int p) {
    Player it = players.get(p);
    if (it.kind == 0) { write(10); return it.base; }
    if (it.kind == 1) { write(11); return it.base > 1500 ? 1500 : it.base; }
    if (it.kind == 2) { write(12); write(10); return it.base + 25; }
    if (it.kind == 4) throw new Met(3);
    write(13);
    if (it.places == null) throw new Met(1);
    int all = 0;
    for (int who : it.places) {
      if (who == NONE) throw new Met(1);
      all += bodyWorth(who);
    }
    if (it.places.isEmpty()) throw new Met(4);
    return all / it.places.size();
  }

  private int bodyStep(int p) {
    switch (players.get(p).kind) {
      case 0: case 1: write(20); return 20;
      case 2: write(22); write(20); return 40;
      case 3: write(23); return 10;
      default: throw new Met(3);
    }
  }

  private int actWorth(int p) {
    if (noPlayer(p)) return BAD;
    try { return bodyWorth(p); } catch (Met m) { return meet(m.what); }
  }

  public int worth(int p) { trace.clear(); return actWorth(p); }

  public int stepOf(int p) {
    trace.clear();
    if (noPlayer(p)) return BAD;
    try { return bodyStep(p); } catch (Met m) { return meet(m.what); }
  }

  public int trace(int i) { return i < 0 || i >= trace.size() ? NONE : trace.get(i); }

  // TOURNAMENTS

  private int addCup(Cup c) {
    if (cups.size() == 4) return FULL;
    serial++;
    c.serial = serial;
    cups.add(c);
    return cups.size() - 1;
  }

  public int tournament() { return addCup(new Cup()); }

  public int enter(int t, int p) {
    if (noCup(t) || noPlayer(p)) return BAD;
    Cup c = cups.get(t);
    if (c.in.contains(p)) return NO;
    if (!c.rounds.isEmpty()) return NO;
    if (c.in.size() == 10) return FULL;
    if (players.get(p).kind == 4) return meet(3);
    c.in.add(p);
    return c.in.size();
  }

  public int withdraw(int t, int p) {
    if (noCup(t) || noPlayer(p)) return BAD;
    Cup c = cups.get(t);
    if (!c.in.contains(p) || c.gone.contains(p)) return NO;
    c.gone.add(p);
    return 1;
  }

  public int rule(int t, int i, int what) {
    if (noCup(t) || i < 1 || i > 4 || what < 0 || what > 5) return BAD;
    return cups.get(t).sums.set(i - 1, what);
  }

  // COSTS: what one PAIR costs, and how many rules it breaks, as {cost, broken, 1 if the greater one is white}

  private List<Duel> duelsOf(Cup c, int p) {
    List<Duel> list = new ArrayList<>();
    for (Round r : c.rounds) for (Duel d : r.duels()) {
      if ((d.white() == p || d.black() == p) && d.black() != 99) list.add(d);
    }
    return list;
  }

  private int[] colour(Cup c, int p, boolean white) {
    List<Duel> before = duelsOf(c, p);
    int balance = 0;
    for (Duel d : before) balance += d.white() == p ? 1 : -1;
    int cost = 0, broken = 0;
    if (balance > 0 && white || balance < 0 && !white) cost += 40;
    int n = before.size();
    if (n >= 2 && (before.get(n - 1).white() == p) == white && (before.get(n - 2).white() == p) == white) broken++;
    return new int[] {cost + 1000000 * broken, broken};
  }

  private int[] price(Cup c, int a, int b, int[] points, int[] worths, int least) {
    boolean before = false;
    for (Round r : c.rounds) for (Duel d : r.duels()) {
      if (d.white() == a && d.black() == b || d.white() == b && d.black() == a) before = true;
    }
    int repeated = before ? 1 : 0;
    if (b == 99) {
      int more = points[a] - least;
      return new int[] {200 * more * more + 1000000 * repeated, repeated, 0};
    }
    int apart = points[a] - points[b];
    int cost = 200 * apart * apart + Math.abs(worths[a] - worths[b]) / 10 + 1000000 * repeated;
    int[] aw = colour(c, a, true), ab = colour(c, a, false), bw = colour(c, b, true), bb = colour(c, b, false);
    int plain = aw[0] + bb[0], turned = ab[0] + bw[0];
    if (plain <= turned) return new int[] {cost + plain, repeated + aw[1] + bb[1], 0};
    return new int[] {cost + turned, repeated + ab[1] + bw[1], 1};
  }

  /** All ways, each as the row of partners by numbers. */
  private static void ways(List<Integer> left, boolean chair, List<Integer> all, int[] partner, List<int[]> out) {
    if (left.isEmpty()) {
      int[] row = new int[all.size()];
      for (int i = 0; i < row.length; i++) row[i] = partner[all.get(i)];
      out.add(row);
      return;
    }
    // the last one first, so that the order of the search is not that of the answer
    int a = left.get(left.size() - 1);
    List<Integer> rest = new ArrayList<>(left);
    rest.remove(Integer.valueOf(a));
    if (chair) {
      partner[a] = 99;
      ways(rest, false, all, partner, out);
    }
    for (int b : rest) {
      List<Integer> fewer = new ArrayList<>(rest);
      fewer.remove(Integer.valueOf(b));
      partner[a] = b; partner[b] = a;
      ways(fewer, chair, all, partner, out);
    }
  }

  private int actDraw(int t, int day) {
    if (noCup(t) || day < 0) return BAD;
    Cup c = cups.get(t);
    if (!c.rounds.isEmpty() && day < c.rounds.get(c.rounds.size() - 1).day()) return BAD;
    List<Integer> who = new ArrayList<>(new TreeSet<>(c.in));
    who.removeAll(c.gone);
    if (who.size() < 2) return NO;
    if (c.rounds.size() == 6) return FULL;
    int[] worths = new int[24], points = new int[24];
    try {
      for (int p : who) worths[p] = bodyWorth(p);
    } catch (Met m) {
      return meet(m.what);
    }
    int least = 1000;
    for (int p : who) {
      points[p] = pts(c, p, day, day, null);
      least = Math.min(least, points[p]);
    }
    int[][][] prices = new int[24][100][];
    for (int a : who) {
      prices[a][99] = price(c, a, 99, points, worths, least);
      for (int b : who) if (a < b) prices[a][b] = price(c, a, b, points, worths, least);
    }
    List<int[]> all = new ArrayList<>();
    ways(who, who.size() % 2 == 1, who, new int[24], all);
    Round best = null;
    int[] bestRow = null;
    for (int[] row : all) {
      int cost = 0, broken = 0;
      for (int i = 0; i < row.length; i++) if (row[i] > who.get(i)) {
        cost += prices[who.get(i)][row[i]][0];
        broken += prices[who.get(i)][row[i]][1];
      }
      if (best == null || cost < best.cost() || cost == best.cost() && Arrays.compare(row, bestRow) < 0) {
        List<Duel> duels = new ArrayList<>();
        for (int i = 0; i < row.length; i++) if (row[i] > who.get(i)) {
          int a = who.get(i), b = row[i];
          duels.add(prices[a][b][2] == 1 ? new Duel(b, a) : new Duel(a, b));
        }
        best = new Round(day, duels, cost, broken);
        bestRow = row;
      }
    }
    c.rounds.add(best);
    return best.duels().size();
  }

  public int draw(int t, int day) { trace.clear(); return actDraw(t, day); }

  /** 0, or the FINDING that the ROUND or the PAIR is. */
  private int missing(Cup c, int r, int k) {
    if (r < 0 || r > 5) return 2;
    if (r >= c.rounds.size()) return 1;
    if (k < 0 || k >= c.rounds.get(r).duels().size()) return 2;
    return 0;
  }

  public int pair(int t, int r, int k, int what) {
    if (noCup(t)) return BAD;
    int lack = missing(cups.get(t), r, k);
    if (lack != 0) return meet(lack);
    Duel d = cups.get(t).rounds.get(r).duels().get(k);
    if (what == 0) return d.white();
    if (what == 1) return d.black();
    return meet(2);
  }

  public int round(int t, int r, int what) {
    if (noCup(t) || what < 0 || what > 3) return BAD;
    int lack = missing(cups.get(t), r, 0);
    if (lack != 0) return meet(lack);
    Round it = cups.get(t).rounds.get(r);
    return new int[] {it.day(), it.duels().size(), it.cost(), it.broken()}[what];
  }

  // ENTRIES

  public int tell(int t, int r, int k, int outcome, int day, int known) {
    if (noCup(t) || outcome < 0 || outcome > 6 || day < 0 || known < 0) return BAD;
    Cup c = cups.get(t);
    int lack = missing(c, r, k);
    if (lack != 0) return meet(lack);
    if (c.rounds.get(r).duels().get(k).black() == 99) return NO;
    if (c.entries.size() == 60) return FULL;
    c.entries.add(new Entry(r, k, outcome, day, known, NONE));
    return c.entries.size() - 1;
  }

  public int takeBack(int t, int entry, int known) {
    if (noCup(t) || entry < 0 || entry >= cups.get(t).entries.size() || known < 0) return BAD;
    Entry e = cups.get(t).entries.get(entry);
    if (known < e.known()) return BAD;
    if (e.back() != NONE) return NO;
    cups.get(t).entries.set(entry, new Entry(e.r(), e.k(), e.outcome(), e.day(), e.known(), known));
    return 1;
  }

  private int counting(Cup c, int r, int k, int knowing) {
    return java.util.stream.IntStream.range(0, c.entries.size()).boxed()
        .filter(i -> c.entries.get(i).r() == r && c.entries.get(i).k() == k)
        .filter(i -> c.entries.get(i).known() <= knowing)
        .filter(i -> c.entries.get(i).back() == NONE || c.entries.get(i).back() > knowing)
        .max(Comparator.comparing((Integer i) -> c.entries.get(i).known()).thenComparing(i -> i))
        .orElse(NONE);
  }

  public int counts(int t, int r, int k, int knowing) {
    if (noCup(t) || knowing < 0) return BAD;
    int lack = missing(cups.get(t), r, k);
    if (lack != 0) return meet(lack);
    return counting(cups.get(t), r, k, knowing);
  }

  /** The OUTCOME that counts and is of the DAY or before (or is supposed), or NONE. */
  private int outcome(Cup c, int r, int k, int day, int knowing, int[][] supposed) {
    if (supposed != null && supposed[r][k] != NONE) return supposed[r][k];
    int e = counting(c, r, k, knowing);
    if (e == NONE || c.entries.get(e).day() > day) return NONE;
    return c.entries.get(e).outcome();
  }

  private static int halves(int outcome, boolean white) {
    switch (outcome) {
      case 0: case 3: return white ? 0 : 2;
      case 1: return 1;
      case 2: case 4: return white ? 2 : 0;
      default: return 0;
    }
  }

  private int pts(Cup c, int p, int day, int knowing, int[][] supposed) {
    int all = 0;
    for (int r = 0; r < c.rounds.size(); r++) {
      List<Duel> duels = c.rounds.get(r).duels();
      for (int k = 0; k < duels.size(); k++) {
        Duel d = duels.get(k);
        if (d.white() != p && d.black() != p) continue;
        if (d.black() == 99) all += c.rounds.get(r).day() <= day ? 2 : 0;
        else all += halves(outcome(c, r, k, day, knowing, supposed), d.white() == p);
      }
    }
    return all;
  }

  private int sums(Cup c, int p, int what, int day, int knowing, int[][] supposed) {
    List<Integer> foes = new ArrayList<>();
    int wins = 0, level = 0, blacks = 0, mine = pts(c, p, day, knowing, supposed);
    for (int r = 0; r < c.rounds.size(); r++) {
      List<Duel> duels = c.rounds.get(r).duels();
      for (int k = 0; k < duels.size(); k++) {
        Duel d = duels.get(k);
        if (d.black() == 99 || d.white() != p && d.black() != p) continue;
        boolean white = d.white() == p;
        int his = pts(c, white ? d.black() : d.white(), day, knowing, supposed);
        int o = outcome(c, r, k, day, knowing, supposed);
        foes.add(his);
        if (o == (white ? 2 : 0)) wins++;
        if (his == mine) level += halves(o, white);
        if (!white && (o == 0 || o == 1 || o == 2)) blacks++;
      }
    }
    if (what == 2) {
      if (foes.size() < 3) return 0;
      Collections.sort(foes);
      foes = foes.subList(1, foes.size() - 1);
    }
    if (what <= 2) return foes.stream().mapToInt(i -> i).sum();
    return what == 3 ? wins : what == 4 ? level : blacks;
  }

  private int noAsking(int t, int[] who, int day, int knowing) {
    if (noCup(t) || day < 0 || knowing < 0) return BAD;
    for (int p : who) if (noPlayer(p)) return BAD;
    for (int p : who) if (!cups.get(t).in.contains(p)) return NO;
    return 0;
  }

  public int points(int t, int p, int day, int knowing) {
    int no = noAsking(t, new int[] {p}, day, knowing);
    return no != 0 ? no : pts(cups.get(t), p, day, knowing, null);
  }

  public int sum(int t, int p, int what, int day, int knowing) {
    if (what < 1 || what > 5) return BAD;
    int no = noAsking(t, new int[] {p}, day, knowing);
    return no != 0 ? no : sums(cups.get(t), p, what, day, knowing, null);
  }

  private int parts(Cup c, int a, int b, int day, int knowing, int[][] supposed) {
    int d = Integer.compare(pts(c, a, day, knowing, supposed), pts(c, b, day, knowing, supposed));
    if (d != 0) return d > 0 ? 1 : 2;
    for (int i = 0; i < 4; i++) {
      int what = c.sums.get(i);
      if (what == 0) continue;
      d = Integer.compare(sums(c, a, what, day, knowing, supposed), sums(c, b, what, day, knowing, supposed));
      if (d != 0) return 10 * (i + 1) + (d > 0 ? 1 : 2);
    }
    return 0;
  }

  public int place(int t, int p, int day, int knowing) {
    int no = noAsking(t, new int[] {p}, day, knowing);
    if (no != 0) return no;
    Cup c = cups.get(t);
    return 1 + (int) c.in.stream().filter(q -> parts(c, q, p, day, knowing, null) % 10 == 1).count();
  }

  public int standing(int t, int k, int day, int knowing) {
    if (noCup(t) || day < 0 || knowing < 0) return BAD;
    Cup c = cups.get(t);
    List<Integer> row = new ArrayList<>(c.in);
    row.sort((a, b) -> {
      int w = parts(c, a, b, day, knowing, null) % 10;
      return w == 1 ? -1 : w == 2 ? 1 : Integer.compare(a, b);
    });
    return k < 0 || k >= row.size() ? NONE : row.get(k);
  }

  public int why(int t, int a, int b, int day, int knowing) {
    int no = noAsking(t, new int[] {a, b}, day, knowing);
    return no != 0 ? no : parts(cups.get(t), a, b, day, knowing, null);
  }

  // RATINGS

  private static int rounded(int thousandths) {
    return java.math.BigDecimal.valueOf(thousandths, 3).setScale(0, java.math.RoundingMode.HALF_EVEN).intValueExact();
  }

  private static int more(int step, int halves, int own, int other) {
    int d = Math.max(-400, Math.min(400, own - other));
    int part = (int) Math.signum(d) * (5 * Math.abs(d) / 4);
    return rounded(step * (500 * halves - (500 + part)));
  }

  public int rated(int t, int p, int r, int knowing) {
    trace.clear();
    if (r < -1 || r > 5) return BAD;
    int no = noAsking(t, new int[] {p}, 0, knowing);
    if (no != 0) return no;
    Cup c = cups.get(t);
    int[] now = new int[24];
    try {
      for (int q : new TreeSet<>(c.in)) now[q] = bodyWorth(q);
    } catch (Met m) {
      return meet(m.what);
    }
    for (int i = 0; i <= r; i++) {
      if (i >= c.rounds.size()) return meet(1);
      int[] next = now.clone();
      for (int k = 0; k < c.rounds.get(i).duels().size(); k++) {
        Duel d = c.rounds.get(i).duels().get(k);
        int o = outcome(c, i, k, Integer.MAX_VALUE, knowing, null);
        if (d.black() == 99 || !Set.of(0, 1, 2).contains(o)) continue;
        next[d.white()] += more(bodyStep(d.white()), o, now[d.white()], now[d.black()]);
        next[d.black()] += more(bodyStep(d.black()), 2 - o, now[d.black()], now[d.white()]);
      }
      now = next;
    }
    return now[p];
  }

  public int mean(int t) {
    trace.clear();
    if (noCup(t)) return BAD;
    int all = 0;
    try {
      for (int q : new TreeSet<>(cups.get(t).in)) all += bodyWorth(q);
    } catch (Met m) {
      return meet(m.what);
    }
    return cups.get(t).in.isEmpty() ? meet(4) : all / cups.get(t).in.size();
  }

  // WHAT COULD STILL BE

  public int could(int t, int p, int alone, int knowing) {
    if (alone != 0 && alone != 1) return BAD;
    int no = noAsking(t, new int[] {p}, 0, knowing);
    if (no != 0) return no;
    Cup c = cups.get(t);
    List<int[]> open = new ArrayList<>();
    for (int r = 0; r < c.rounds.size(); r++) for (int k = 0; k < c.rounds.get(r).duels().size(); k++) {
      int e = counting(c, r, k, knowing);
      if (c.rounds.get(r).duels().get(k).black() != 99 && (e == NONE || c.entries.get(e).outcome() == 5)) open.add(new int[] {r, k});
    }
    if (open.size() > 4) return NO;
    int[][] supposed = new int[6][5];
    for (int[] row : supposed) Arrays.fill(row, NONE);
    return tryAll(c, p, alone, knowing, open, 0, supposed) ? 1 : 0;
  }

  private boolean tryAll(Cup c, int p, int alone, int knowing, List<int[]> open, int i, int[][] supposed) {
    if (i == open.size()) {
      for (int q : c.in) if (q != p) {
        int w = parts(c, p, q, Integer.MAX_VALUE, knowing, supposed);
        if (w % 10 == 2 || w == 0 && alone == 1) return false;
      }
      found = new ArrayList<>();
      for (int[] at : open) found.add(supposed[at[0]][at[1]]);
      return true;
    }
    for (int o = 0; o <= 2; o++) {
      supposed[open.get(i)[0]][open.get(i)[1]] = o;
      if (tryAll(c, p, alone, knowing, open, i + 1, supposed)) return true;
    }
    return false;
  }

  public int found(int i) { return i < 0 || i >= found.size() ? NONE : found.get(i); }

  // PLANS

  public int step(int plan, int act, int a, int b, int c, int d) {
    if (plan < 0 || plan > 3 || act < 0 || act > 11) return BAD;
    if (plans.get(plan).size() == 10) return FULL;
    plans.get(plan).add(new int[] {act, a, b, c, d});
    return plans.get(plan).size();
  }

  public int empty(int plan) {
    if (plan < 0 || plan > 3) return BAD;
    int n = plans.get(plan).size();
    plans.get(plan).clear();
    return n;
  }

  private int act(int[] s) {
    int a = s[1], b = s[2], c = s[3], d = s[4];
    switch (s[0]) {
      case 0: return player(a, b);
      case 1: return places(a, b);
      case 2: return seat(a, b, c);
      case 3: return tournament();
      case 4: return enter(a, b);
      case 5: return withdraw(a, b);
      case 6: return actDraw(a, b);
      case 7: return tell(a, b / 10, b % 10, c, d, d);
      case 8: return takeBack(a, b, c);
      case 9: return actWorth(a);
      default:
        int has = points(a, b, c, c);
        return has < 0 || has >= d ? has : meet(6);
    }
  }

  private boolean go(int plan) {
    tries[plan]++;
    for (int i = 0; i < plans.get(plan).size(); i++) {
      int[] s = plans.get(plan).get(i);
      int answer;
      if (s[0] == 11) {
        if (s[1] >= 0 && s[1] < plan) {
          if (!go(s[1])) return false;
          continue;
        }
        answer = BAD;
      } else if (ran[3] == 60) {
        answer = FULL;
      } else {
        answer = act(s);
        if (answer >= 0) ran[3]++;
      }
      if (answer < 0) {
        ran[0] = answer; ran[1] = plan; ran[2] = i;
        return false;
      }
    }
    return true;
  }

  public int run(int plan) {
    trace.clear();
    if (plan < 0 || plan > 3) return BAD;
    List<Player> oldPlayers = new ArrayList<>();
    for (Player p : players) oldPlayers.add(p.like());
    List<Cup> oldCups = new ArrayList<>();
    for (Cup c : cups) oldCups.add(c.like());
    ran[0] = 0; ran[1] = NONE; ran[2] = NONE; ran[3] = 0;
    if (go(plan)) return 1;
    players = oldPlayers;
    cups = oldCups;
    return FAILED;
  }

  public int ran(int what) { return what < 0 || what > 3 ? BAD : ran[what]; }

  // ALL

  public int copy(int t) {
    if (noCup(t)) return BAD;
    return addCup(cups.get(t).like());
  }

  public int alike(int t, int u) {
    if (noCup(t) || noCup(u)) return BAD;
    Cup c = cups.get(t), d = cups.get(u);
    return c.in.equals(d.in) && new HashSet<>(c.gone).equals(new HashSet<>(d.gone)) && c.rounds.equals(d.rounds)
        && c.entries.equals(d.entries) && c.sums.equals(d.sums) ? 1 : 0;
  }

  public int finding() { return finding; }

  public int told(int what) {
    if (what == 0) return players.size();
    if (what == 1) return cups.size();
    if (what == 2) return serial;
    if (what == 3) return trace.size();
    for (int k = 0; k < 4; k++) {
      if (what == 10 + k) return tries[k];
      if (k >= cups.size()) continue;
      if (what == 20 + k) return cups.get(k).in.size();
      if (what == 30 + k) return cups.get(k).rounds.size();
      if (what == 40 + k) return cups.get(k).entries.size();
      if (what == 50 + k) return cups.get(k).serial;
    }
    return BAD;
  }
}
