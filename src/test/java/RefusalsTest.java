import java.util.ArrayList;
import java.util.List;

/**
 * Each refusal of each promise by itself, which of them comes first where several are due at once, and that a refused
 * call changes nothing: a twin of the hall, to which the call was not made, must answer alike ever after.
 */
public final class RefusalsTest extends Checks {
  private interface Hall { PairingHall make(); }
  private interface Call { int on(PairingHall x); }

  /** No finding, and THE TRACE as it was. */
  private static final int[] KEPT = null;
  /** Numbers of which none is a PLAYER, a TOURNAMENT, a ROUND, a PLAN, .. */
  private static final int[] FAR = {-2, 24, 99, MAX, MIN};

  /** BAD, NO or FULL of a call that leaves THE TRACE. */
  private static void refused(String what, Hall hall, int answer, Call call) { hold(what, hall, call, answer, 0, KEPT); }

  /** FINDING of a call that leaves THE TRACE. */
  private static void finds(String what, Hall hall, int finding, Call call) { hold(what, hall, call, FINDING, finding, KEPT); }

  /** BAD, NO or FULL of a call that empties THE TRACE. */
  private static void refusedEmptying(String what, Hall hall, int answer, Call call) { hold(what, hall, call, answer, 0, new int[0]); }

  /** FINDING of a call that empties THE TRACE and writes these. */
  private static void findsWriting(String what, Hall hall, int finding, Call call, int... trace) { hold(what, hall, call, FINDING, finding, trace); }

  private static void hold(String what, Hall hall, Call call, int answer, int finding, int[] trace) {
    PairingHall x = hall.make(), twin = hall.make();
    // so that THE TRACE is not empty, if there is somebody
    x.stepOf(0); twin.stepOf(0);
    int before = x.finding();
    due(what, call.on(x), answer);
    due(what + ", finding()", x.finding(), answer == FINDING ? finding : before);
    if (trace != KEPT) traced(x, what, trace);
    for (int i = -1; trace == KEPT && i <= twin.told(3); i++) due(what + ", trace(" + i + ")", x.trace(i), twin.trace(i));
    List<String> asked = new ArrayList<>();
    List<Integer> answers = answersOf(x, asked), due = answersOf(twin, new ArrayList<>());
    for (int i = 0; i < due.size(); i++) due(what + ", then " + asked.get(i), answers.get(i), due.get(i));
  }

  /** What of the state can be asked for, but for THE TRACE and finding(); the last calls change it. */
  private static List<Integer> answersOf(PairingHall x, List<String> asked) {
    List<Integer> all = new ArrayList<>();
    for (int i = 0; i < 4; i++) note(all, asked, "ran(" + i + ")", x.ran(i));
    for (int i = 0; i < 5; i++) note(all, asked, "found(" + i + ")", x.found(i));
    for (int i = 0; i < 54; i++) if (i != 3 && i % 10 < 4) note(all, asked, "told(" + i + ")", x.told(i));
    int players = x.told(0), rounds = Math.max(0, x.told(30));
    for (int p = 0; p < Math.min(players, 7); p++) for (int i = 0; i < 4; i++) note(all, asked, "held(" + p + ", " + i + ")", x.held(p, i));
    for (int t = 1; t < x.told(1); t++) note(all, asked, "alike(0, " + t + ")", x.alike(0, t));
    for (int r = 0; r < rounds; r++) roundOf(x, r, all, asked);
    for (int p = 0; p < players; p++) note(all, asked, "worth(" + p + ")", x.worth(p));
    for (int i = 1; i <= 4; i++) note(all, asked, "rule(0, " + i + ", 0)", x.rule(0, i, 0));
    for (int p = 0; p < Math.min(players, 12); p++) note(all, asked, "withdraw(0, " + p + ")", x.withdraw(0, p));
    for (int plan = 0; plan < 4; plan++) {
      note(all, asked, "run(" + plan + ")", x.run(plan)); note(all, asked, "ran(3)", x.ran(3)); note(all, asked, "empty(" + plan + ")", x.empty(plan));
    }
    return all;
  }

  private static void roundOf(PairingHall x, int r, List<Integer> all, List<String> asked) {
    for (int w = 0; w < 4; w++) note(all, asked, "round(0, " + r + ", " + w + ")", x.round(0, r, w));
    for (int k = 0; k < x.round(0, r, 1); k++) {
      for (int w = 0; w < 2; w++) note(all, asked, "pair(0, " + r + ", " + k + ", " + w + ")", x.pair(0, r, k, w));
      for (int day : new int[] {0, 7, MAX}) note(all, asked, "counts(0, " + r + ", " + k + ", " + day + ")", x.counts(0, r, k, day));
    }
  }

  private static void note(List<Integer> all, List<String> asked, String what, int answer) { all.add(answer); asked.add(what); }

  // ---- halls

  /** 0 a MEMBER, 1 a GUEST, 2 a JUNIOR, 3 a TEAM without PLACES, 4 a BYE, 5 a TEAM with 0 in the first of two PLACES, 6 one with none. */
  private static PairingHall people() {
    PairingHall x = kinds();
    x.player(3, 0); x.player(3, 0);
    x.places(5, 2); x.seat(5, 0, 0); x.places(6, 0);
    return x;
  }

  private static PairingHall fullOfPeople() {
    PairingHall x = people();
    for (int p = 7; p < 24; p++) x.player(0, p);
    return x;
  }

  private static PairingHall fullOfTournaments() {
    PairingHall x = people();
    x.tournament(); x.enter(0, 0); x.enter(0, 1); x.copy(0); x.draw(1, 0); x.copy(1); x.tournament();
    return x;
  }

  /** people() with TOURNAMENT 0, in which 0, 1, 2 are. */
  private static PairingHall three() {
    PairingHall x = people();
    x.tournament(); x.enter(0, 0); x.enter(0, 1); x.enter(0, 2); x.rule(0, 2, 3);
    return x;
  }

  /** people() and four more, with TOURNAMENT 0, in which ten are: 0, 1, 2, 3, 5, 6, 7, 8, 9, 10; not the BYE and 11. */
  private static PairingHall ten() {
    PairingHall x = people();
    for (int p = 7; p < 12; p++) x.player(0, p);
    x.tournament();
    for (int p = 0; p < 11; p++) if (p != 4) x.enter(0, p);
    return x;
  }

  /** ten() whose TEAMS have WORTHS. */
  private static PairingHall tenWithWorths() {
    PairingHall x = ten();
    for (int p : new int[] {3, 5, 6}) { x.places(p, 1); x.seat(p, 0, 0); }
    return x;
  }

  /** three() with a ROUND on day 5: 0-1 or such, one with nobody; an ENTRY known on 7, one TAKEN BACK on 8. */
  private static PairingHall drawn() {
    PairingHall x = three();
    x.draw(0, 5); x.tell(0, 0, pairOfTwo(x), 2, 6, 7); x.tell(0, 0, pairOfTwo(x), 1, 6, 7); x.takeBack(0, 1, 8);
    return x;
  }

  private static int pairOfTwo(PairingHall x) { return x.pair(0, 0, 0, 1) == 99 ? 1 : 0; }

  private static int pairOfOne(PairingHall x) { return 1 - pairOfTwo(x); }

  private static PairingHall sixRounds() {
    PairingHall x = three();
    for (int r = 0; r < 6; r++) x.draw(0, 5);
    return x;
  }

  private static PairingHall sixtyEntries() {
    PairingHall x = three();
    x.draw(0, 5); x.draw(0, 5);
    for (int e = 0; e < 60; e++) x.tell(0, 0, pairOfTwo(x), e % 7, e, e);
    return x;
  }

  /** PLAN 0 asks for a WORTH ten times, PLAN 1 has none, PLAN 2 fails behind a new PLAYER. */
  private static PairingHall planned() {
    PairingHall x = three();
    for (int i = 0; i < 10; i++) x.step(0, 9, i % 3, 0, 0, 0);
    x.step(2, 0, 0, 0, 0, 0); x.step(2, 9, 4, 0, 0, 0);
    x.run(2);
    return x;
  }

  /** drawn() with a row that could() has found. */
  private static PairingHall couldBe() {
    PairingHall x = drawn();
    x.draw(0, 9); x.draw(0, 9);
    x.could(0, 0, 0, 9);
    return x;
  }

  // ---- promises 2 to 8

  private static void player() {
    says("player: BAD: KIND, BASE; FULL");
    for (int kind : new int[] {-1, 5, MAX, MIN}) {
      refused("KIND " + kind, RefusalsTest::people, BAD, x -> x.player(kind, 0));
      refused("KIND " + kind + " ahead of FULL", RefusalsTest::fullOfPeople, BAD, x -> x.player(kind, 0));
    }
    for (int base : new int[] {-1, 3001, MAX, MIN}) {
      refused("BASE " + base, RefusalsTest::people, BAD, x -> x.player(0, base));
      refused("BASE " + base + " ahead of FULL", RefusalsTest::fullOfPeople, BAD, x -> x.player(4, base));
    }
    for (int kind = 0; kind <= 4; kind++) { int k = kind; refused("FULL", RefusalsTest::fullOfPeople, FULL, x -> x.player(k, 3000)); }
  }

  private static void places() {
    says("places: BAD: no such PLAYER, n above 4; FINDING: UNLIKE, SIZE");
    for (int p : new int[] {-1, 7, MAX, MIN}) {
      refused("no PLAYER " + p, RefusalsTest::people, BAD, x -> x.places(p, 1));
      refused("no PLAYER " + p + " ahead of SIZE", RefusalsTest::people, BAD, x -> x.places(p, -1));
      refused("no PLAYER " + p + ", and 5", RefusalsTest::people, BAD, x -> x.places(p, 5));
    }
    for (int n : new int[] {5, MAX}) {
      for (int p : new int[] {3, 5}) refused("n " + n + " of TEAM " + p, RefusalsTest::people, BAD, x -> x.places(p, n));
      for (int p : new int[] {0, 1, 2, 4}) refused("n " + n + " ahead of UNLIKE", RefusalsTest::people, BAD, x -> x.places(p, n));
    }
    for (int p : new int[] {0, 1, 2, 4}) {
      for (int n : new int[] {0, 4}) finds("no TEAM " + p, RefusalsTest::people, UNLIKE, x -> x.places(p, n));
      for (int n : new int[] {-1, MIN}) finds("UNLIKE ahead of SIZE", RefusalsTest::people, UNLIKE, x -> x.places(p, n));
    }
    for (int n : new int[] {-1, -2, MIN}) for (int p : new int[] {3, 5, 6}) finds("SIZE " + n, RefusalsTest::people, SIZE, x -> x.places(p, n));
  }

  private static void seat() {
    says("seat: BAD: no such PLAYERS; FINDING: UNLIKE (it is no TEAM), UNLIKE (he is not SOLO), NOBODY (no PLACES were told), BEYOND");
    Hall people = RefusalsTest::people;
    for (int p : new int[] {-1, 7, MAX, MIN}) {
      refused("no TEAM " + p, people, BAD, x -> x.seat(p, 0, 0)); refused("BAD ahead of UNLIKE", people, BAD, x -> x.seat(p, 0, 5));
      refused("BAD ahead of BEYOND", people, BAD, x -> x.seat(p, 9, 0)); refused("nobody to seat", people, BAD, x -> x.seat(p, 0, NONE));
    }
    for (int who : new int[] {-2, 7, MAX, MIN}) {
      refused("no PLAYER " + who, people, BAD, x -> x.seat(5, 0, who)); refused("BAD ahead of UNLIKE", people, BAD, x -> x.seat(0, 0, who));
      refused("BAD ahead of NOBODY", people, BAD, x -> x.seat(3, 0, who)); refused("BAD ahead of BEYOND", people, BAD, x -> x.seat(5, 2, who));
    }
    for (int p : new int[] {0, 1, 2, 4}) {
      finds("it is no TEAM", people, UNLIKE, x -> x.seat(p, 0, 0)); finds("it is no TEAM, nobody", people, UNLIKE, x -> x.seat(p, 0, NONE));
      finds("UNLIKE ahead of BEYOND", people, UNLIKE, x -> x.seat(p, -1, 0)); finds("both UNLIKE", people, UNLIKE, x -> x.seat(p, 0, 5));
    }
    for (int who : new int[] {3, 5, 6}) {
      finds("he is not SOLO", people, UNLIKE, x -> x.seat(5, 0, who)); finds("not SOLO ahead of NOBODY", people, UNLIKE, x -> x.seat(3, 0, who));
      finds("not SOLO ahead of BEYOND", people, UNLIKE, x -> x.seat(5, 2, who)); finds("not SOLO ahead of BEYOND", people, UNLIKE, x -> x.seat(6, 0, who));
    }
    for (int place : new int[] {-1, 0, 4, MAX, MIN}) for (int who : new int[] {NONE, 0, 4}) finds("no PLACES were told, " + place, people, NOBODY, x -> x.seat(3, place, who));
    for (int place : new int[] {-1, 2, 4, MAX, MIN}) for (int who : new int[] {NONE, 0, 4}) finds("beyond: " + place, people, BEYOND, x -> x.seat(5, place, who));
    for (int place : new int[] {-1, 0, 1}) finds("beyond none: " + place, people, BEYOND, x -> x.seat(6, place, 0));
  }

  private static void held() {
    says("held: BAD: no such PLAYER; FINDING: UNLIKE, NOBODY (no PLACES were told), BEYOND");
    Hall people = RefusalsTest::people;
    for (int p : new int[] {-1, 7, MAX, MIN}) for (int place : new int[] {-1, 0, 9}) refused("no PLAYER " + p, people, BAD, x -> x.held(p, place));
    for (int p : new int[] {0, 1, 2, 4}) for (int place : new int[] {-1, 0, 9}) finds("no TEAM " + p, people, UNLIKE, x -> x.held(p, place));
    for (int place : new int[] {-1, 0, 4, MAX, MIN}) finds("no PLACES, " + place, people, NOBODY, x -> x.held(3, place));
    for (int place : new int[] {-1, 2, 4, MAX, MIN}) finds("beyond: " + place, people, BEYOND, x -> x.held(5, place));
    for (int place : new int[] {-1, 0, 1}) finds("beyond none: " + place, people, BEYOND, x -> x.held(6, place));
  }

  private static void worthAndStep() {
    says("worth: BAD; FINDING: UNLIKE (he is not RATED); of a TEAM NOBODY (no PLACES were told), PLACE by PLACE NOBODY (it holds nobody) or UNLIKE (one who is there is not RATED), and behind them SHARED (they were told as 0)");
    Hall people = RefusalsTest::people;
    for (int p : new int[] {-1, 7, MAX, MIN}) {
      refusedEmptying("worth of " + p, people, BAD, x -> x.worth(p)); refusedEmptying("step of " + p, people, BAD, x -> x.stepOf(p));
      refusedEmptying("worth of nobody", PairingHall::new, BAD, x -> x.worth(p)); refusedEmptying("step of nobody", PairingHall::new, BAD, x -> x.stepOf(p));
    }
    refusedEmptying("worth of nobody", PairingHall::new, BAD, x -> x.worth(0)); refusedEmptying("step of nobody", PairingHall::new, BAD, x -> x.stepOf(0));
    findsWriting("he is not RATED", people, UNLIKE, x -> x.worth(4));
    findsWriting("no PLACES were told", people, NOBODY, x -> x.worth(3), 13);
    findsWriting("it holds nobody", people, NOBODY, x -> x.worth(5), 13, 10);
    findsWriting("they were told as 0", people, SHARED, x -> x.worth(6), 13);
    // who is in PLACES 0, 1, 2, 3 of TEAM 3, the FINDING, and what is written
    int[][][] rows = {{{NONE, 0, 0, 0}, {NOBODY}, {13}}, {{0, 2, 1, NONE}, {NOBODY}, {13, 10, 12, 10, 11}}, {{4, 0, 0, 0}, {UNLIKE}, {13}}, {{0, 0, 0, 4}, {UNLIKE}, {13, 10, 10, 10}},
        {{0, 4, NONE, 0}, {UNLIKE}, {13, 10}}, {{0, NONE, 4, 0}, {NOBODY}, {13, 10}}, {{NONE, NONE, NONE, NONE}, {NOBODY}, {13}}};
    for (int[][] row : rows) {
      Hall hall = () -> {
        PairingHall x = people();
        x.places(3, 4);
        for (int i = 0; i < 4; i++) x.seat(3, i, row[0][i]);
        return x;
      };
      findsWriting("of a TEAM", hall, row[1][0], x -> x.worth(3), row[2]);
    }
    says("stepOf: STEP. BAD; FINDING: UNLIKE");
    findsWriting("he is not RATED", people, UNLIKE, x -> x.stepOf(4));
    for (int p : new int[] {3, 5, 6}) due("a TEAM's needs no PLACES", people().stepOf(p), 10);
  }

  private static void trace() {
    says("trace: Number i of THE TRACE; NONE");
    for (int i : new int[] {-1, 1, 200, MAX, MIN}) refused("of one, " + i, RefusalsTest::people, NONE, x -> x.trace(i));
    for (int i : new int[] {-1, 0, 1}) refused("of none, " + i, PairingHall::new, NONE, x -> x.trace(i));
  }

  // ---- promises 9 to 15

  private static void tournament() {
    says("tournament: FULL");
    refused("FULL", RefusalsTest::fullOfTournaments, FULL, x -> x.tournament());
  }

  private static void enter() {
    says("enter: BAD; NO: he is IN, or a ROUND was drawn; FULL; FINDING: UNLIKE (he is not RATED)");
    for (int t : new int[] {-1, 1, 4, MAX, MIN}) {
      refused("no TOURNAMENT " + t, RefusalsTest::three, BAD, x -> x.enter(t, 5)); refused("BAD ahead of NO", RefusalsTest::three, BAD, x -> x.enter(t, 0));
      refused("BAD ahead of UNLIKE", RefusalsTest::three, BAD, x -> x.enter(t, 4));
    }
    refused("none at all", RefusalsTest::people, BAD, x -> x.enter(0, 0));
    for (int p : new int[] {-1, 7, MAX, MIN}) {
      refused("no PLAYER " + p, RefusalsTest::three, BAD, x -> x.enter(0, p)); refused("BAD ahead of NO", RefusalsTest::drawn, BAD, x -> x.enter(0, p));
    }
    for (int p : new int[] {-1, 12, MAX, MIN}) {
      refused("BAD ahead of FULL", RefusalsTest::ten, BAD, x -> x.enter(0, p));
      refused("BAD ahead of NO and FULL", RefusalsTest::tenDrawn, BAD, x -> x.enter(0, p));
    }
    for (int p = 0; p < 3; p++) { int q = p; refused("he is IN", RefusalsTest::three, NO, x -> x.enter(0, q)); }
    refused("he is IN and WITHDRAWN", () -> { PairingHall x = three(); x.withdraw(0, 1); return x; }, NO, x -> x.enter(0, 1));
    for (int p : new int[] {3, 5, 6}) refused("a ROUND was drawn", RefusalsTest::drawn, NO, x -> x.enter(0, p));
    refused("he is IN, and a ROUND was drawn", RefusalsTest::drawn, NO, x -> x.enter(0, 0));
    refused("he is IN ahead of FULL", RefusalsTest::ten, NO, x -> x.enter(0, 10));
    refused("drawn ahead of FULL", RefusalsTest::tenDrawn, NO, x -> x.enter(0, 11));
    refused("drawn ahead of UNLIKE", RefusalsTest::drawn, NO, x -> x.enter(0, 4));
    refused("drawn ahead of FULL and UNLIKE", RefusalsTest::tenDrawn, NO, x -> x.enter(0, 4));
    refused("FULL", RefusalsTest::ten, FULL, x -> x.enter(0, 11));
    refused("FULL ahead of UNLIKE", RefusalsTest::ten, FULL, x -> x.enter(0, 4));
    finds("he is not RATED", RefusalsTest::three, UNLIKE, x -> x.enter(0, 4));
    due("a TEAM without PLACES is RATED", three().enter(0, 3), 4);
  }

  private static PairingHall tenDrawn() {
    PairingHall x = tenWithWorths();
    x.draw(0, 0);
    return x;
  }

  private static void withdraw() {
    says("withdraw: BAD; NO: he is not IN, or is that already");
    Hall gone = () -> { PairingHall x = drawn(); x.withdraw(0, 1); return x; };
    for (int t : new int[] {-1, 1, 4, MAX, MIN}) {
      refused("no TOURNAMENT " + t, RefusalsTest::three, BAD, x -> x.withdraw(t, 0)); refused("BAD ahead of NO", gone, BAD, x -> x.withdraw(t, 1));
    }
    refused("none at all", RefusalsTest::people, BAD, x -> x.withdraw(0, 0));
    for (int p : new int[] {-1, 7, MAX, MIN}) refused("no PLAYER " + p, RefusalsTest::three, BAD, x -> x.withdraw(0, p));
    for (int p : new int[] {3, 4, 5, 6}) { refused("he is not IN", RefusalsTest::three, NO, x -> x.withdraw(0, p)); refused("he is not IN", gone, NO, x -> x.withdraw(0, p)); }
    refused("he is that already", gone, NO, x -> x.withdraw(0, 1));
    due("one who was drawn may", drawn().withdraw(0, 0), 1);
  }

  private static void rule() {
    says("rule: SUM i (1 .. 4) is what (0 .. 5): what it was. BAD");
    for (int t : new int[] {-1, 1, 4, MAX, MIN}) refused("no TOURNAMENT " + t, RefusalsTest::three, BAD, x -> x.rule(t, 2, 1));
    for (int i : new int[] {-1, 0, 5, MAX, MIN}) refused("no SUM " + i, RefusalsTest::three, BAD, x -> x.rule(0, i, 1));
    for (int what : new int[] {-1, 6, MAX, MIN}) refused("not " + what, RefusalsTest::three, BAD, x -> x.rule(0, 2, what));
  }

  private static void draw() {
    says("draw: BAD: t, the DAY, or it is before that of the latest ROUND; NO: fewer than two are IN and not WITHDRAWN; FULL; FINDING: of a WORTH");
    Hall one = () -> { PairingHall x = drawn(); x.withdraw(0, 0); x.withdraw(0, 1); return x; };
    Hall oneOfSix = () -> { PairingHall x = sixRounds(); x.withdraw(0, 0); x.withdraw(0, 1); return x; };
    Hall oneTeam = () -> { PairingHall x = people(); x.tournament(); x.enter(0, 3); return x; };
    Hall spoilt = () -> { PairingHall x = withTeam(); x.draw(0, 5); x.places(3, 2); return x; };
    Hall sixSpoilt = () -> { PairingHall x = withTeam(); for (int r = 0; r < 6; r++) x.draw(0, 5); x.places(3, 2); return x; };
    Hall oneOfSixSpoilt = () -> { PairingHall x = sixSpoilt.make(); x.withdraw(0, 0); return x; };
    for (int t : new int[] {-1, 1, 4, MAX, MIN}) for (Hall h : new Hall[] {RefusalsTest::drawn, one, RefusalsTest::sixRounds, spoilt}) refusedEmptying("no TOURNAMENT " + t, h, BAD, x -> x.draw(t, 9));
    for (int day : new int[] {-1, MIN}) {
      for (Hall h : new Hall[] {RefusalsTest::three, RefusalsTest::drawn, one, oneTeam, RefusalsTest::sixRounds, spoilt, sixSpoilt}) refusedEmptying("day " + day, h, BAD, x -> x.draw(0, day));
    }
    for (int day : new int[] {0, 4}) {
      for (Hall h : new Hall[] {RefusalsTest::drawn, one, RefusalsTest::sixRounds, oneOfSix, spoilt, sixSpoilt}) refusedEmptying("before the latest", h, BAD, x -> x.draw(0, day));
    }
    for (int day : new int[] {5, 6, MAX}) for (Hall h : new Hall[] {one, oneOfSix, oneTeam, oneOfSixSpoilt}) refusedEmptying("fewer than two", h, NO, x -> x.draw(0, day));
    for (int day : new int[] {5, 6, MAX}) for (Hall h : new Hall[] {RefusalsTest::sixRounds, sixSpoilt}) refusedEmptying("FULL", h, FULL, x -> x.draw(0, day));
    refusedEmptying("nobody is IN", () -> { PairingHall x = people(); x.tournament(); return x; }, NO, x -> x.draw(0, 0));
    findsWriting("of a WORTH", spoilt, NOBODY, x -> x.draw(0, 5), 10, 13);
    findsWriting("of a WORTH, by numbers", () -> { PairingHall x = people(); x.tournament(); x.enter(0, 6); x.enter(0, 5); x.enter(0, 2); return x; }, NOBODY, x -> x.draw(0, 0), 12, 10, 13, 10);
    findsWriting("by nought", () -> { PairingHall x = people(); x.tournament(); x.enter(0, 6); x.enter(0, 1); return x; }, SHARED, x -> x.draw(0, 0), 11, 13);
    findsWriting("a BYE in a PLACE", () -> { PairingHall x = people(); x.seat(5, 0, 4); x.tournament(); x.enter(0, 5); x.enter(0, 6); return x; }, UNLIKE, x -> x.draw(0, 0), 13);
    PairingHall y = three();
    y.enter(0, 3); y.withdraw(0, 3);
    due("who is WITHDRAWN is not asked", y.draw(0, 0), 2);
    due("the very day of the latest", drawn().draw(0, 5), 2); due("the first day", three().draw(0, 0), 2); due("the last day", drawn().draw(0, MAX), 2);
  }

  /** 0 and TEAM 3, who has the same WORTH, IN TOURNAMENT 0. */
  private static PairingHall withTeam() {
    PairingHall x = people();
    x.places(3, 1); x.seat(3, 0, 0); x.tournament(); x.enter(0, 0); x.enter(0, 3);
    return x;
  }

  private static void pair() {
    says("pair: BAD: t; FINDING: BEYOND (r is not 0 .. 5), NOBODY, BEYOND (k), BEYOND (what)");
    Hall drawn = RefusalsTest::drawn;
    for (int t : new int[] {-1, 1, 4, MAX, MIN}) for (int other : new int[] {0, 1, 9}) refused("no TOURNAMENT " + t, drawn, BAD, x -> x.pair(t, other, other, other));
    for (int r : new int[] {-1, 6, MAX, MIN}) {
      finds("no ROUND " + r, drawn, BEYOND, x -> x.pair(0, r, 0, 0)); finds("no ROUND " + r, RefusalsTest::sixRounds, BEYOND, x -> x.pair(0, r, 0, 0));
      finds("no ROUND " + r, RefusalsTest::three, BEYOND, x -> x.pair(0, r, 9, 9));
    }
    for (int r = 1; r <= 5; r++) {
      int q = r;
      finds("not drawn", drawn, NOBODY, x -> x.pair(0, q, 0, 0)); finds("NOBODY ahead of BEYOND (k)", drawn, NOBODY, x -> x.pair(0, q, 9, 0));
      finds("NOBODY ahead of BEYOND (what)", drawn, NOBODY, x -> x.pair(0, q, 0, 9));
    }
    finds("none was drawn", RefusalsTest::three, NOBODY, x -> x.pair(0, 0, 0, 0));
    for (int k : new int[] {-1, 2, 4, 5, MAX, MIN}) { finds("k " + k, drawn, BEYOND, x -> x.pair(0, 0, k, 0)); finds("k " + k + " and what", drawn, BEYOND, x -> x.pair(0, 0, k, 2)); }
    for (int what : new int[] {-1, 2, MAX, MIN}) for (int k = 0; k < 2; k++) { int j = k; finds("what " + what, drawn, BEYOND, x -> x.pair(0, 0, j, what)); }
    finds("k 5 of five", RefusalsTest::tenDrawn, BEYOND, x -> x.pair(0, 0, 5, 0));
    PairingHall y = tenDrawn();
    due("k 4 of five", y.pair(0, 0, 4, 0) >= 0 && y.pair(0, 0, 4, 1) >= 0 ? 1 : 0, 1);
    due("with nobody", drawn().pair(0, 0, pairOfOne(drawn()), 1), 99);
  }

  private static void round() {
    says("round: BAD: t, what; FINDING: BEYOND, NOBODY");
    Hall drawn = RefusalsTest::drawn;
    for (int t : new int[] {-1, 1, 4, MAX, MIN}) for (int r : new int[] {-1, 0, 1, 6}) refused("no TOURNAMENT " + t, drawn, BAD, x -> x.round(t, r, 0));
    for (int what : new int[] {-1, 4, MAX, MIN}) for (int r : new int[] {-1, 0, 1, 6}) refused("what " + what, drawn, BAD, x -> x.round(0, r, what));
    for (int what = 0; what < 4; what++) {
      int w = what;
      for (int r : new int[] {-1, 6, MAX, MIN}) { finds("no ROUND " + r, drawn, BEYOND, x -> x.round(0, r, w)); finds("no ROUND " + r, RefusalsTest::sixRounds, BEYOND, x -> x.round(0, r, w)); }
      for (int r : new int[] {1, 5}) finds("not drawn", drawn, NOBODY, x -> x.round(0, r, w));
      finds("none was drawn", RefusalsTest::three, NOBODY, x -> x.round(0, 0, w));
    }
    for (int r = 0; r < 6; r++) due("of six", sixRounds().round(0, r, 0), 5);
  }

  // ---- promises 16 to 23

  private static void tell() {
    says("tell: BAD: t, OUTCOME, days; FINDING: BEYOND (r), NOBODY, BEYOND (k); NO: the PAIR is with nobody; FULL");
    // r and k that are fine, with nobody, beyond, not drawn; in halls with and without room
    for (Hall h : new Hall[] {RefusalsTest::drawn, RefusalsTest::sixtyEntries}) {
      int two = pairOfTwo(h.make()), one = pairOfOne(h.make());
      int[][] cells = {{0, two}, {0, one}, {0, 2}, {0, -1}, {5, 0}, {6, 0}, {-1, 0}};
      for (int[] c : cells) {
        for (int t : new int[] {-1, 1, 4, MAX, MIN}) refused("no TOURNAMENT " + t, h, BAD, x -> x.tell(t, c[0], c[1], 0, 0, 0));
        for (int o : new int[] {-1, 7, MAX, MIN}) refused("OUTCOME " + o, h, BAD, x -> x.tell(0, c[0], c[1], o, 0, 0));
        for (int day : new int[] {-1, MIN}) {
          refused("day " + day, h, BAD, x -> x.tell(0, c[0], c[1], 0, day, 0)); refused("known on " + day, h, BAD, x -> x.tell(0, c[0], c[1], 0, 0, day));
        }
      }
      for (int r : new int[] {-1, 6, MAX, MIN}) for (int k : new int[] {two, one, 9}) finds("no ROUND " + r, h, BEYOND, x -> x.tell(0, r, k, 0, 0, 0));
      for (int r : new int[] {2, 5}) for (int k : new int[] {two, one, 9, -1}) finds("not drawn", h, NOBODY, x -> x.tell(0, r, k, 0, 0, 0));
      for (int k : new int[] {-1, 2, 5, MAX, MIN}) finds("k " + k, h, BEYOND, x -> x.tell(0, 0, k, 0, 0, 0));
      for (int o = 0; o <= 6; o++) { int out = o; refused("with nobody", h, NO, x -> x.tell(0, 0, one, out, 0, 0)); }
    }
    int two = pairOfTwo(sixtyEntries());
    for (int o = 0; o <= 6; o++) { int out = o; refused("FULL", RefusalsTest::sixtyEntries, FULL, x -> x.tell(0, 0, two, out, MAX, MAX)); }
    finds("none was drawn", RefusalsTest::three, NOBODY, x -> x.tell(0, 0, 0, 0, 0, 0));
  }

  private static void takeBack() {
    says("takeBack: BAD: t, the ENTRY, the day, or it is before that on which it is KNOWN; NO: it is already");
    Hall drawn = RefusalsTest::drawn;
    for (int t : new int[] {-1, 1, 4, MAX, MIN}) for (int e : new int[] {0, 1, 2}) refused("no TOURNAMENT " + t, drawn, BAD, x -> x.takeBack(t, e, 9));
    for (int e : new int[] {-1, 2, 60, MAX, MIN}) refused("no ENTRY " + e, drawn, BAD, x -> x.takeBack(0, e, 9));
    refused("no ENTRY at all", RefusalsTest::three, BAD, x -> x.takeBack(0, 0, 9));
    refused("no ENTRY 60", RefusalsTest::sixtyEntries, BAD, x -> x.takeBack(0, 60, MAX));
    for (int e = 0; e < 2; e++) {
      int entry = e;
      for (int day : new int[] {-1, MIN}) refused("day " + day + ", ahead of NO", drawn, BAD, x -> x.takeBack(0, entry, day));
      for (int day : new int[] {0, 6}) refused("before it is KNOWN, ahead of NO", drawn, BAD, x -> x.takeBack(0, entry, day));
    }
    for (int day : new int[] {7, 8, 9, MAX}) refused("it is already", drawn, NO, x -> x.takeBack(0, 1, day));
    due("the very day", drawn().takeBack(0, 0, 7), 1); due("the last day", drawn().takeBack(0, 0, MAX), 1); due("the last ENTRY", sixtyEntries().takeBack(0, 59, 59), 1);
    refused("the last ENTRY too early", RefusalsTest::sixtyEntries, BAD, x -> x.takeBack(0, 59, 58));
  }

  private static void counts() {
    says("counts: The ENTRY of a PAIR that counts, as known on a day; NONE. BAD: t, the day; FINDING as tell(). (With nobody: NONE.)");
    Hall drawn = RefusalsTest::drawn;
    int two = pairOfTwo(drawn()), one = pairOfOne(drawn());
    int[][] cells = {{0, two}, {0, one}, {0, 2}, {0, -1}, {5, 0}, {6, 0}, {-1, 0}};
    for (int[] c : cells) {
      for (int t : new int[] {-1, 1, 4, MAX, MIN}) refused("no TOURNAMENT " + t, drawn, BAD, x -> x.counts(t, c[0], c[1], 9));
      for (int day : new int[] {-1, MIN}) refused("day " + day, drawn, BAD, x -> x.counts(0, c[0], c[1], day));
    }
    for (int r : new int[] {-1, 6, MAX, MIN}) for (int k : new int[] {0, 9}) finds("no ROUND " + r, drawn, BEYOND, x -> x.counts(0, r, k, 0));
    for (int r : new int[] {1, 5}) for (int k : new int[] {0, 9, -1}) finds("not drawn", drawn, NOBODY, x -> x.counts(0, r, k, 0));
    for (int k : new int[] {-1, 2, 5, MAX, MIN}) finds("k " + k, drawn, BEYOND, x -> x.counts(0, 0, k, 0));
    for (int day : new int[] {0, 7, MAX}) refused("with nobody", drawn, NONE, x -> x.counts(0, 0, one, day));
    refused("nothing is known", drawn, NONE, x -> x.counts(0, 0, two, 6));
    due("the greater one", drawn().counts(0, 0, two, 7), 1); due("it is taken back", drawn().counts(0, 0, two, 8), 0);
  }

  private interface Question { int of(PairingHall x, int t, int p, int day, int knowing); }

  /** Calls of a PLAYER IN a TOURNAMENT on two days: BAD: t, p, days; NO: he is not IN. */
  private static void questions() {
    ask("points: BAD: t, p, days; NO: he is not IN", (x, t, p, day, knowing) -> x.points(t, p, day, knowing));
    for (int what = 1; what <= 5; what++) {
      int w = what;
      ask("sum: BAD: t, p, what, days; NO", (x, t, p, day, knowing) -> x.sum(t, p, w, day, knowing));
    }
    ask("place: BAD: t, p, days; NO", (x, t, p, day, knowing) -> x.place(t, p, day, knowing));
    ask("why: BAD: t, a, b, days; NO: one is not IN", (x, t, p, day, knowing) -> x.why(t, p, 0, day, knowing));
    ask("why: BAD: t, a, b, days; NO: one is not IN", (x, t, p, day, knowing) -> x.why(t, 0, p, day, knowing));
    ask("why: BAD: t, a, b, days; NO: one is not IN", (x, t, p, day, knowing) -> x.why(t, p, p, day, knowing));
  }

  private static void ask(String words, Question q) {
    says(words);
    Hall drawn = RefusalsTest::drawn;
    for (int t : new int[] {-1, 1, 4, MAX, MIN}) for (int p : new int[] {0, 3}) refused("no TOURNAMENT " + t, drawn, BAD, x -> q.of(x, t, p, 9, 9));
    for (int p : new int[] {-1, 7, MAX, MIN}) refused("no PLAYER " + p, drawn, BAD, x -> q.of(x, 0, p, 9, 9));
    for (int day : new int[] {-1, MIN}) {
      for (int p : new int[] {0, 3}) { refused("day " + day, drawn, BAD, x -> q.of(x, 0, p, day, 9)); refused("known on " + day, drawn, BAD, x -> q.of(x, 0, p, 9, day)); }
    }
    for (int p : new int[] {3, 4, 5, 6}) refused("not IN: " + p, drawn, NO, x -> q.of(x, 0, p, 9, 9));
    Hall gone = () -> { PairingHall x = drawn(); for (int p = 0; p < 3; p++) x.withdraw(0, p); return x; };
    for (int p = 0; p < 3; p++) due("who is WITHDRAWN is IN", q.of(gone.make(), 0, p, 9, 9), q.of(drawn(), 0, p, 9, 9));
  }

  private static void sumAndWhy() {
    says("sum: A SUM of its sort (1 .. 5). BAD: t, p, what, days; NO");
    for (int what : new int[] {-1, 0, 6, MAX, MIN}) for (int p : new int[] {0, 3}) refused("what " + what, RefusalsTest::drawn, BAD, x -> x.sum(0, p, what, 9, 9));
    says("why: BAD: t, a, b, days; NO: one is not IN");
    for (int bad : new int[] {-1, 7, MAX, MIN}) {
      refused("b ahead of NO of a", RefusalsTest::drawn, BAD, x -> x.why(0, 3, bad, 9, 9)); refused("a ahead of NO of b", RefusalsTest::drawn, BAD, x -> x.why(0, bad, 3, 9, 9));
    }
    refused("none of both", RefusalsTest::drawn, NO, x -> x.why(0, 3, 5, 9, 9));
    refused("days ahead of NO", RefusalsTest::drawn, BAD, x -> x.why(0, 3, 5, 9, -1));
  }

  private static void standing() {
    says("standing: Who is k-th (from 0), of those that are alike the lesser number first. BAD: t, days; NONE: none such");
    Hall drawn = RefusalsTest::drawn;
    for (int k : new int[] {-1, 0, 3}) {
      for (int t : new int[] {-1, 1, 4, MAX, MIN}) refused("no TOURNAMENT " + t, drawn, BAD, x -> x.standing(t, k, 9, 9));
      for (int day : new int[] {-1, MIN}) { refused("day " + day, drawn, BAD, x -> x.standing(0, k, day, 9)); refused("known on " + day, drawn, BAD, x -> x.standing(0, k, 9, day)); }
    }
    for (int k : new int[] {-1, 3, 10, MAX, MIN}) refused("none such: " + k, drawn, NONE, x -> x.standing(0, k, 9, 9));
    refused("nobody is IN", () -> { PairingHall x = people(); x.tournament(); return x; }, NONE, x -> x.standing(0, 0, 0, 0));
    for (int k = 0; k < 3; k++) due("alike", three().standing(0, k, 0, 0), k);
    int[] rows = {0, 1, 2, 3, 5, 6, 7, 8, 9, 10};
    for (int k = 0; k < 10; k++) due("of ten", ten().standing(0, k, 0, 0), rows[k]);
    refused("an eleventh", RefusalsTest::ten, NONE, x -> x.standing(0, 10, 0, 0));
  }

  // ---- promises 24 to 27

  private static void rated() {
    says("rated: BAD: t, p, r (-1 .. 5), the day; NO: he is not IN; FINDING: of a WORTH, NOBODY (a ROUND up to r was not drawn)");
    Hall drawn = RefusalsTest::drawn;
    Hall spoilt = () -> { PairingHall x = withTeam(); x.draw(0, 5); x.tell(0, 0, 0, 1, 0, 0); x.places(3, 2); return x; };
    for (Hall h : new Hall[] {drawn, spoilt}) {
      int out = h == drawn ? 3 : 1;
      for (int p : new int[] {0, out}) {
        for (int t : new int[] {-1, 1, 4, MAX, MIN}) refusedEmptying("no TOURNAMENT " + t, h, BAD, x -> x.rated(t, p, 1, 9));
        for (int r : new int[] {-2, 6, MAX, MIN}) refusedEmptying("r " + r, h, BAD, x -> x.rated(0, p, r, 9));
        for (int day : new int[] {-1, MIN}) for (int r : new int[] {NONE, 0, 5}) refusedEmptying("day " + day, h, BAD, x -> x.rated(0, p, r, day));
      }
      for (int p : new int[] {-1, 7, MAX, MIN}) refusedEmptying("no PLAYER " + p, h, BAD, x -> x.rated(0, p, 1, 9));
      for (int r : new int[] {NONE, 0, 1, 5}) { refusedEmptying("not IN", h, NO, x -> x.rated(0, out, r, 9)); refusedEmptying("a BYE is not IN", h, NO, x -> x.rated(0, 4, r, 9)); }
    }
    for (int r : new int[] {NONE, 0, 1, 5}) findsWriting("of a WORTH, ahead of NOBODY", spoilt, NOBODY, x -> x.rated(0, 0, r, 9), 10, 13);
    findsWriting("by nought", () -> { PairingHall x = spoilt.make(); x.places(3, 0); return x; }, SHARED, x -> x.rated(0, 0, 5, 9), 10, 13);
    findsWriting("none was drawn", RefusalsTest::three, NOBODY, x -> x.rated(0, 0, 0, 9), 10, 11, 12, 10);
    due("before ROUND 0 none needs to be", three().rated(0, 2, NONE, 0), 1225);
    // 0 (1000), 1 (1500) and 2 (1225): 0-2 (22), 1 with nobody; on day 7 it is even
    for (int r : new int[] {1, 5}) findsWriting("not drawn", drawn, NOBODY, x -> x.rated(0, 0, r, 7), 10, 11, 12, 10, 20, 22, 20);
    findsWriting("not drawn, nothing known", drawn, NOBODY, x -> x.rated(0, 0, 1, 6), 10, 11, 12, 10);
    due("the last of six", sixRounds().rated(0, 0, 5, 0), 1000);
    PairingHall y = three();
    y.enter(0, 3); y.withdraw(0, 3);
    met(y, "who is WITHDRAWN is asked, too", y.rated(0, 0, NONE, 0), NOBODY);
  }

  private static void mean() {
    says("mean: BAD; FINDING: of a WORTH, SHARED");
    for (int t : new int[] {-1, 1, 4, MAX, MIN}) refusedEmptying("no TOURNAMENT " + t, RefusalsTest::three, BAD, x -> x.mean(t));
    refusedEmptying("none at all", RefusalsTest::people, BAD, x -> x.mean(0));
    findsWriting("nobody is IN", () -> { PairingHall x = people(); x.tournament(); return x; }, SHARED, x -> x.mean(0));
    findsWriting("a TEAM without PLACES", () -> { PairingHall x = three(); x.enter(0, 3); return x; }, NOBODY, x -> x.mean(0), 10, 11, 12, 10, 13);
    findsWriting("an empty PLACE", () -> { PairingHall x = three(); x.enter(0, 5); return x; }, NOBODY, x -> x.mean(0), 10, 11, 12, 10, 13, 10);
    findsWriting("a TEAM of none", () -> { PairingHall x = three(); x.enter(0, 6); return x; }, SHARED, x -> x.mean(0), 10, 11, 12, 10, 13);
    findsWriting("the first of ten", RefusalsTest::ten, NOBODY, x -> x.mean(0), 10, 11, 12, 10, 13);
    Hall gone = () -> { PairingHall x = three(); for (int p = 0; p < 3; p++) x.withdraw(0, p); return x; };
    due("who is WITHDRAWN is IN", gone.make().mean(0), (1000 + 1500 + 1225) / 3);
    due("cut", likeOnesBut(1, 10).mean(0), 0); due("not cut", likeOnesBut(10, 10).mean(0), 1); due("the most", tenOfMost().mean(0), 3025);
  }

  /** So many MEMBERS with BASE 0, the last of them with this one. */
  private static PairingHall likeOnesBut(int base, int many) {
    int[] bases = new int[many];
    bases[many - 1] = base;
    return members(bases);
  }

  private static PairingHall tenOfMost() {
    PairingHall x = new PairingHall();
    x.tournament();
    for (int p = 0; p < 10; p++) x.enter(0, x.player(2, 3000));
    return x;
  }

  private static void could() {
    says("could: BAD: t, p, alone (0, 1), the day; NO: he is not IN, or more than four are OPEN");
    Hall five = () -> { PairingHall x = five(); return x; };
    for (Hall h : new Hall[] {RefusalsTest::couldBe, five}) {
      int out = h == five ? 10 : 3, beyond = h == five ? 11 : 7;
      for (int p : new int[] {0, out}) {
        for (int t : new int[] {-1, 1, 4, MAX, MIN}) refused("no TOURNAMENT " + t, h, BAD, x -> x.could(t, p, 0, 9));
        for (int alone : new int[] {-1, 2, MAX, MIN}) refused("alone " + alone, h, BAD, x -> x.could(0, p, alone, 9));
        for (int day : new int[] {-1, MIN}) refused("day " + day, h, BAD, x -> x.could(0, p, 0, day));
      }
      for (int p : new int[] {-1, beyond, MAX, MIN}) refused("no PLAYER " + p, h, BAD, x -> x.could(0, p, 0, 9));
      for (int alone = 0; alone < 2; alone++) { int a = alone; refused("not IN", h, NO, x -> x.could(0, out, a, 9)); }
    }
    for (int alone = 0; alone < 2; alone++) { int a = alone; refused("five are OPEN", five, NO, x -> x.could(0, 0, a, 0)); refused("five are OPEN, not yet known", five, NO, x -> x.could(0, 0, a, 2)); }
    PairingHall y = five();
    y.tell(0, 0, 4, 1, 0, 3);
    due("four are, as known on 3", y.could(0, 0, 1, 3), 1); due("five, as known on 2", y.could(0, 0, 1, 2), NO);
    y.tell(0, 0, 4, 5, 0, 4);
    due("put off is OPEN", y.could(0, 0, 1, 4), NO); y.tell(0, 0, 4, 6, 0, 5); due("none came is not", y.could(0, 0, 1, 5), 1);
    y.takeBack(0, 2, 6); due("taken back: it is put off again", y.could(0, 0, 1, 6), NO);
    refused("with none: what was found stays", RefusalsTest::couldNot, 0, x -> x.could(0, 2, 0, 9));
  }

  /** Ten of whom five PAIRS are drawn; 10 is not IN. */
  private static PairingHall five() {
    PairingHall x = likeOnes(10);
    x.player(0, 0); x.draw(0, 0);
    return x;
  }

  /** 0-1 and 2-3 are told: 0 and 3 won; 0 was found to be first. */
  private static PairingHall couldNot() {
    PairingHall x = likeOnes(4);
    x.draw(0, 0);
    x.could(0, 1, 1, 9);
    x.tell(0, 0, 0, 2, 0, 0); x.tell(0, 0, 1, 0, 0, 0);
    return x;
  }

  private static void found() {
    says("found: The OUTCOME of the i-th OPEN PAIR in the row that the latest could() that answered 1 found: the first one, by the first OPEN PAIR, then the next one; NONE: none such");
    for (int i : FAR) refused("none such: " + i, RefusalsTest::couldBe, NONE, x -> x.found(i));
    refused("before any", RefusalsTest::drawn, NONE, x -> x.found(0));
    PairingHall x = likeOnes(8);
    x.draw(0, 0);
    // 0-1, 2-3, 4-5, 6-7: four are OPEN. If 0 is even with 1, whoever wins elsewhere is AHEAD of him
    due("first, not alone", x.could(0, 0, 0, 0), 1);
    int[] together = {1, 1, 1, 1};
    for (int i = 0; i < 4; i++) due("together " + i, x.found(i), together[i]);
    due("behind the last", x.found(4), NONE); due("below 0", x.found(-1), NONE);
    due("alone", x.could(0, 0, 1, 0), 1);
    int[] alone = {2, 1, 1, 1};
    for (int i = 0; i < 4; i++) due("alone " + i, x.found(i), alone[i]);
    due("the last one, alone", x.could(0, 7, 1, 0), 1);
    int[] last = {1, 1, 1, 0};
    for (int i = 0; i < 4; i++) due("the last one " + i, x.found(i), last[i]);
    x.tell(0, 0, 0, 1, 0, 0);
    due("three are OPEN", x.could(0, 7, 0, 0), 1);
    int[] three = {0, 0, 0};
    for (int i = 0; i < 3; i++) due("three " + i, x.found(i), three[i]);
    due("there is no fourth", x.found(3), NONE);
    for (int k = 1; k < 4; k++) x.tell(0, 0, k, 1, 0, 0);
    due("none is OPEN, not first alone", x.could(0, 7, 1, 0), 0); due("what was found stays", x.found(2), 0);
    due("none is OPEN", x.could(0, 7, 0, 0), 1); due("a row of none", x.found(0), NONE);
  }

  // ---- promises 28 to 35

  private static void plans() {
    says("step: A STEP more of a PLAN: how many. BAD: PLAN, act (0 .. 11); FULL");
    Hall planned = RefusalsTest::planned;
    for (int plan : new int[] {-1, 4, MAX, MIN}) for (int act : new int[] {-1, 0, 12}) refused("no PLAN " + plan, planned, BAD, x -> x.step(plan, act, 0, 0, 0, 0));
    for (int act : new int[] {-1, 12, MAX, MIN}) { refused("no act " + act, planned, BAD, x -> x.step(1, act, 0, 0, 0, 0)); refused("BAD ahead of FULL", planned, BAD, x -> x.step(0, act, 0, 0, 0, 0)); }
    for (int act : new int[] {0, 11}) refused("FULL", planned, FULL, x -> x.step(0, act, 0, 0, 0, 0));
    due("act 0", planned().step(1, 0, MIN, MAX, MIN, MAX), 1); due("act 11", planned().step(1, 11, MAX, MIN, MAX, MIN), 1); due("the third", planned().step(2, 5, 0, 0, 0, 0), 3);
    says("empty: A PLAN has no STEPS: how many it had. BAD");
    for (int plan : new int[] {-1, 4, MAX, MIN}) refused("no PLAN " + plan, planned, BAD, x -> x.empty(plan));
    due("ten", planned().empty(0), 10); due("none", planned().empty(1), 0); due("two", planned().empty(2), 2);
    says("run: A RUN: 1, or FAILED. BAD");
    for (int plan : new int[] {-1, 4, MAX, MIN}) refusedEmptying("no PLAN " + plan, planned, BAD, x -> x.run(plan));
    says("ran: BAD. (0, NONE, NONE, 0 before any.)");
    for (int what : new int[] {-1, 4, MAX, MIN}) refused("what " + what, planned, BAD, x -> x.ran(what));
    ranAs(three(), "before any", 0, NONE, NONE, 0);
    PairingHall x = planned();
    ranAs(x, "one that failed", FINDING, 2, 1, 1);
    x.run(1); ranAs(x, "one of no STEPS", 0, NONE, NONE, 0);
    x.run(0); ranAs(x, "one that did not fail", 0, NONE, NONE, 10);
    x.run(4); ranAs(x, "BAD is no RUN", 0, NONE, NONE, 10);
    x.step(3, 9, 0, 0, 0, 0); x.step(3, 11, 0, 0, 0, 0); x.step(3, 11, 2, 0, 0, 0); x.step(3, 9, 0, 0, 0, 0);
    x.run(3); ranAs(x, "those of the PLAN that is gone through", FINDING, 2, 1, 12);
    x.empty(2); x.step(2, 9, 4, 0, 0, 0); x.empty(3); x.step(3, 9, 4, 0, 0, 0);
    x.run(3); ranAs(x, "its first", FINDING, 3, 0, 0);
  }

  private static void copies() {
    says("copy: BAD; FULL");
    for (int t : new int[] {-1, 1, 4, MAX, MIN}) refused("no TOURNAMENT " + t, RefusalsTest::drawn, BAD, x -> x.copy(t));
    for (int t : new int[] {-1, 4, MAX, MIN}) refused("BAD ahead of FULL", RefusalsTest::fullOfTournaments, BAD, x -> x.copy(t));
    refused("none at all", RefusalsTest::people, BAD, x -> x.copy(0));
    for (int t = 0; t < 4; t++) { int u = t; refused("FULL", RefusalsTest::fullOfTournaments, FULL, x -> x.copy(u)); }
    for (Hall h : new Hall[] {RefusalsTest::three, RefusalsTest::drawn, RefusalsTest::sixRounds, RefusalsTest::sixtyEntries, RefusalsTest::ten, RefusalsTest::tenDrawn}) {
      PairingHall x = h.make();
      due("a copy", x.copy(0), 1); due("alike", x.alike(0, 1), 1); due("the other way round", x.alike(1, 0), 1);
      due("IN", x.told(21), x.told(20)); due("ROUNDS", x.told(31), x.told(30)); due("ENTRIES", x.told(41), x.told(40)); due("its SERIAL", x.told(51), 2);
      x.rule(1, 4, 5); due("by itself", x.alike(0, 1), 0);
    }
    says("alike: 1, 0. BAD");
    for (int t : new int[] {-1, 1, 4, MAX, MIN}) {
      refused("no TOURNAMENT " + t, RefusalsTest::drawn, BAD, x -> x.alike(t, 0)); refused("no TOURNAMENT " + t, RefusalsTest::drawn, BAD, x -> x.alike(0, t)); refused("both", RefusalsTest::drawn, BAD, x -> x.alike(t, t));
    }
    due("itself", drawn().alike(0, 0), 1);
    PairingHall y = new PairingHall();
    y.tournament(); y.tournament(); due("two of nothing", y.alike(0, 1), 1);
  }

  private static void told() {
    says("told: 0 PLAYERS, 1 TOURNAMENTS, 2 the SERIAL given latest (0 before any), 3 how many numbers THE TRACE has, 10 + k TRIES of PLAN k, 20 + k how many are IN TOURNAMENT k, 30 + k its ROUNDS, 40 + k its ENTRIES, 50 + k its SERIAL. BAD");
    for (int what : new int[] {-1, 4, 9, 14, 19, 21, 24, 29, 31, 34, 39, 41, 44, 49, 51, 54, 59, 60, 63, 70, 100, 110, MAX, MIN, MIN + 1}) refused("told(" + what + ")", RefusalsTest::planned, BAD, x -> x.told(what));
    for (int what : new int[] {20, 30, 40, 50}) refused("there is none", RefusalsTest::people, BAD, x -> x.told(what));
    PairingHall x = fullOfTournaments();
    int[] in = {2, 2, 2, 0}, rounds = {0, 1, 1, 0};
    for (int k = 0; k < 4; k++) { due("IN " + k, x.told(20 + k), in[k]); due("ROUNDS " + k, x.told(30 + k), rounds[k]); due("ENTRIES " + k, x.told(40 + k), 0); due("SERIAL " + k, x.told(50 + k), k + 1); due("TRIES " + k, x.told(10 + k), 0); }
    for (int what : new int[] {14, 24, 34, 44, 54}) due("told(" + what + ")", x.told(what), BAD);
    due("sixty", sixtyEntries().told(40), 60); due("six", sixRounds().told(30), 6); due("ten", ten().told(20), 10); due("four", x.told(1), 4); due("24", fullOfPeople().told(0), 24);
    PairingHall y = new PairingHall();
    for (int what = 0; what <= 3; what++) due("before any", y.told(what), 0);
    says("finding: The latest FINDING (0 before any)");
    due("before any", y.finding(), 0);
    y.worth(0); due("BAD is none", y.finding(), 0);
  }

  public static void main(String[] args) {
    player(); places(); seat(); held(); worthAndStep(); trace();
    tournament(); enter(); withdraw(); rule(); draw(); pair(); round();
    tell(); takeBack(); counts(); questions(); sumAndWhy(); standing();
    rated(); mean(); could(); found();
    plans(); copies(); told();
    end();
  }
}
