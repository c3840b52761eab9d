/**
 * Each sentence of 'What it is' and 'Terms' that names a boundary has a test of its own: the last value that is
 * allowed and the first that is not, the empty and the full case. Which refusal comes first is RefusalsTest's.
 */
public final class TermsTest extends Checks {

  // ---- What it is

  private static void calls512() {
    says("An object is used for at most 512 calls after it has been made");
    PairingHall x = likeOnes(2);                                     // 5 calls
    x.step(0, 3, 0, 0, 0, 0); x.step(0, 9, 9, 0, 0, 0);              // 7
    for (int i = 8; i <= 509; i++) due("call " + i, x.run(0), FAILED);
    due("call 510, TRIES", x.told(10), 502);
    due("call 511, SERIAL given latest", x.told(2), 503);
    due("call 512", x.draw(0, MAX), 1);
    PairingHall y = likeOnes(10);                                    // 21 calls
    for (int i = 22; i <= 27; i++) due("call " + i, y.draw(0, 0), 5);
    for (int i = 0; i < 60; i++) due("call " + (28 + i), y.tell(0, i % 6, i / 6 % 5, 1, 0, 0), i);
    for (int i = 88; i <= 507; i++) due("call " + i, y.tell(0, 0, 0, 1, 0, 0), FULL);
    due("call 508", y.copy(0), 1); due("call 509", y.alike(0, 1), 1);
    due("call 510", y.points(0, 9, 0, 0), 6); due("call 511", y.standing(1, 9, 0, 0), 9);
    due("call 512", y.could(1, 9, 0, 0), 1);
  }

  // ---- 1 PLAYERS

  private static void players24() {
    says("PLAYERS 0, 1, .. (24 at most)");
    PairingHall x = new PairingHall();
    due("none", x.worth(0), BAD);
    for (int i = 0; i < 24; i++) due("number", x.player(0, i), i);
    due("a 25th", x.player(0, 0), FULL);
    due("the last one", x.worth(23), 23); due("behind it", x.worth(24), BAD); due("below 0", x.worth(-1), BAD);
    due("told", x.told(0), 24);
    x.tournament(); due("the last one is IN", x.enter(0, 23), 1); due("with the first", x.enter(0, 0), 2);
    due("they are drawn", x.draw(0, 0), 1); paired(x, "they are", 0, 0, 0, 23);
  }

  private static void kindsAndBases() {
    says("are of KINDS: 0 MEMBERS, 1 GUESTS, 2 JUNIORS, 3 TEAMS, 4 BYES; each has a BASE (0 to 3000)");
    PairingHall x = new PairingHall();
    for (int kind : new int[] {-1, 5, MAX, MIN}) due("kind " + kind, x.player(kind, 0), BAD);
    for (int base : new int[] {-1, 3001, MAX, MIN}) {
      for (int kind = 0; kind <= 4; kind++) due("base " + base + " of kind " + kind, x.player(kind, base), BAD);
    }
    due("nobody came", x.told(0), 0);
    int number = 0;
    for (int kind = 0; kind <= 4; kind++) {
      due("least base of kind " + kind, x.player(kind, 0), number++);
      due("greatest base of kind " + kind, x.player(kind, 3000), number++);
    }
    due("least", x.worth(0), 0); due("greatest", x.worth(1), 3000);
  }

  private static void juniorsAreMembers() {
    says("JUNIORS are MEMBERS, too");
    PairingHall x = new PairingHall();
    x.player(2, 0); x.player(2, 3000);
    due("least", x.worth(0), 25); traced(x, "worth", 12, 10);
    due("greatest", x.worth(1), 3025);
    due("step", x.stepOf(1), 40); traced(x, "step", 22, 20);
  }

  private static void allButByesAreRated() {
    says("All but BYES are RATED");
    PairingHall x = kinds();
    x.places(3, 1); x.seat(3, 0, 0);
    x.tournament();
    int[] worths = {1000, 1500, 1225, 1000}, steps = {20, 20, 40, 10};
    for (int p = 0; p < 4; p++) {
      due("worth of " + p, x.worth(p), worths[p]); due("step of " + p, x.stepOf(p), steps[p]); due("enter " + p, x.enter(0, p), p + 1);
    }
    met(x, "worth of a BYE", x.worth(4), UNLIKE); x.places(3, -1);
    met(x, "step of a BYE", x.stepOf(4), UNLIKE); x.places(3, -1);
    met(x, "a BYE enters", x.enter(0, 4), UNLIKE);
    due("so many are IN", x.told(20), 4);
  }

  private static void allButTeamsAreSolo() {
    says("all but TEAMS are SOLO");
    PairingHall x = kinds();
    x.player(3, 0);
    x.places(3, 1);
    for (int who : new int[] {0, 1, 2, 4}) {
      due("seat " + who, x.seat(3, 0, who), 1); due("held " + who, x.held(3, 0), who);
    }
    met(x, "another TEAM", x.seat(3, 0, 5), UNLIKE); x.places(5, -1);
    met(x, "itself", x.seat(3, 0, 3), UNLIKE);
    due("who was there stays", x.held(3, 0), 4);
  }

  private static void placesOfATeam() {
    says("A TEAM has PLACES (none at first; told anew they are 0 to 4, with nobody in them), each of which holds a SOLO one, or nobody");
    PairingHall x = kinds();
    met(x, "none at first", x.held(3, 0), NOBODY);
    for (int n = 4; n >= 0; n--) {
      due("places " + n, x.places(3, n), n);
      for (int i = 0; i < n; i++) { due("empty at first", x.held(3, i), NONE); due("seat", x.seat(3, i, 0), 1); }
      for (int i = 0; i < n; i++) due("held", x.held(3, i), 0);
      met(x, "behind the last of " + n, x.held(3, n), BEYOND);
    }
    due("five", x.places(3, 5), BAD);
    met(x, "below 0", x.places(3, -1), SIZE);
    due("four again", x.places(3, 4), 4);
    for (int i = 0; i < 4; i++) due("those of before are gone", x.held(3, i), NONE);
    due("somebody", x.seat(3, 3, 1), 1); due("nobody again", x.seat(3, 3, NONE), 1); due("nobody", x.held(3, 3), NONE);
    due("one in two places", x.seat(3, 0, 1) + x.seat(3, 3, 1), 2);
    due("here", x.held(3, 0), 1); due("and there", x.held(3, 3), 1);
  }

  /** PLAN 1 asks 22 times for the WORTH of a TEAM of four JUNIORS, which writes 9 numbers: 198 in all. */
  private static PairingHall hallOf198() {
    PairingHall x = kinds();
    x.places(3, 4);
    for (int i = 0; i < 4; i++) x.seat(3, i, 2);
    for (int i = 0; i < 10; i++) x.step(0, 9, 3, 0, 0, 0);
    x.step(1, 11, 0, 0, 0, 0); x.step(1, 11, 0, 0, 0, 0); x.step(1, 9, 3, 0, 0, 0); x.step(1, 9, 3, 0, 0, 0);
    return x;
  }

  private static void trace200() {
    says("THE TRACE (200 at most, what is more is not written)");
    for (int more = 0; more <= 4; more++) {
      PairingHall x = hallOf198();
      for (int i = 0; i < more; i++) x.step(1, 9, 0, 0, 0, 0);
      due("run", x.run(1), 1);
      due("of " + (198 + more), x.told(3), Math.min(198 + more, 200));
      due("number 0", x.trace(0), 13); due("number 197", x.trace(197), 10);
      due("number 198", x.trace(198), more > 0 ? 10 : NONE); due("number 199", x.trace(199), more > 1 ? 10 : NONE);
      due("number 200", x.trace(200), NONE); due("number 201", x.trace(201), NONE);
    }
    PairingHall x = hallOf198();
    x.step(1, 9, 1, 0, 0, 0); x.step(1, 9, 2, 0, 0, 0); x.step(1, 9, 1, 0, 0, 0);
    due("run", x.run(1), 1);
    due("a GUEST", x.trace(198), 11); due("half a JUNIOR", x.trace(199), 12); due("the other half", x.trace(200), NONE);
    due("steps are done all the same", x.ran(3), 25);
    due("told", x.told(3), 200);
    due("a worth", x.worth(2), 1225); traced(x, "written anew", 12, 10);
  }

  private static void drawsBehindAFullTrace() {
    says("each that is begun writes its number behind THE TRACE (200 at most, what is more is not written)");
    PairingHall x = kinds();
    x.places(3, 4);
    for (int i = 0; i < 4; i++) x.seat(3, i, 2);
    x.tournament(); x.enter(0, 3); x.enter(0, 0);
    // a draw writes 10 and the nine of the TEAM: the 21st is behind the end; six a TOURNAMENT
    x.copy(0); x.copy(0); x.copy(0);
    for (int t = 0; t < 3; t++) { for (int i = 0; i < 3; i++) x.step(t, 6, t, i, 0, 0); }
    x.step(1, 11, 0, 0, 0, 0); x.step(2, 11, 1, 0, 0, 0);
    for (int t = 0; t < 3; t++) { for (int i = 3; i < 6; i++) x.step(t, 6, t, i, 0, 0); }
    for (int i = 0; i < 6; i++) x.step(3, 6, 3, i, 0, 0);
    x.step(3, 11, 2, 0, 0, 0);
    due("run", x.run(3), 1);
    due("draws", x.ran(3), 24); due("numbers", x.told(3), 200); due("the last", x.trace(199), 10);
    for (int t = 0; t < 4; t++) { due("rounds", x.told(30 + t), 6); due("cost of the last", x.round(t, 5, 2), 1000000 + 22); }
    due("the worths were asked all the same", x.alike(0, 3), 1);
  }

  private static void guests1500() {
    says("of a GUEST (11) its BASE, 1500 at most");
    int[][] want = {{0, 0}, {1499, 1499}, {1500, 1500}, {1501, 1500}, {3000, 1500}};
    PairingHall x = new PairingHall();
    for (int[] w : want) { due("base " + w[0], x.worth(x.player(1, w[0])), w[1]); traced(x, "trace", 11); }
    due("of a MEMBER not", x.worth(x.player(0, 1501)), 1501); due("of a JUNIOR not", x.worth(x.player(2, 1501)), 1526);
  }

  private static void teamsByPlacesCut() {
    says("of a TEAM (13) the WORTHS of those in its PLACES, one behind the other, together, by how many PLACES there are, cut");
    PairingHall x = new PairingHall();
    x.player(3, 3000); x.player(0, 1); x.player(0, 0); x.player(0, 3000); x.player(2, 3000);
    int[][] rows = {{1, 1}, {2, 0}, {1, 2, 0}, {1, 1, 1}, {1, 1, 2, 0}, {1, 1, 1, 2, 0}, {1, 1, 1, 1, 1}, {3, 3, 3, 3, 3000}, {4, 4, 4, 4, 3025}, {3, 3, 3, 2, 2250}, {3, 1, 1500}, {3, 1, 1, 1000}};
    for (int[] row : rows) {
      int n = row.length - 1;
      x.places(0, n);
      for (int i = 0; i < n; i++) x.seat(0, i, row[i]);
      due("of " + n, x.worth(0), row[n]);
    }
    x.places(0, 0);
    met(x, "by nought", x.worth(0), SHARED); traced(x, "by nought", 13);
    due("its own BASE is nothing to it", x.places(0, 1) + x.seat(0, 0, 2), 2); due("worth", x.worth(0), 0);
  }

  private static void traceIsEmptied() {
    says("THE TRACE is emptied by each call of worth(), stepOf(), mean(), draw(), rated(), run(), also one that is refused");
    PairingHall x = kinds();                                   // TOURNAMENT 0: 0 and 1; 1: nobody; 2: the TEAM without PLACES and 0
    x.tournament(); x.enter(0, 0); x.enter(0, 1); x.tournament(); x.tournament(); x.enter(2, 3); x.enter(2, 0);
    x.stepOf(2); due("worth", x.worth(0), 1000); traced(x, "worth", 10);
    x.stepOf(2); due("worth, BAD", x.worth(5), BAD); traced(x, "worth, BAD");
    x.stepOf(2); met(x, "worth, FINDING", x.worth(4), UNLIKE); traced(x, "worth, FINDING");
    x.stepOf(2); met(x, "worth, FINDING of a TEAM", x.worth(3), NOBODY); traced(x, "worth, FINDING of a TEAM", 13);
    x.worth(2); due("stepOf", x.stepOf(0), 20); traced(x, "stepOf", 20);
    x.worth(2); due("stepOf, BAD", x.stepOf(5), BAD); traced(x, "stepOf, BAD");
    x.worth(2); met(x, "stepOf, FINDING", x.stepOf(4), UNLIKE); traced(x, "stepOf, FINDING");
    x.stepOf(2); due("mean", x.mean(0), 1250); traced(x, "mean", 10, 11);
    x.stepOf(2); due("mean, BAD", x.mean(3), BAD); traced(x, "mean, BAD");
    x.stepOf(2); met(x, "mean, SHARED", x.mean(1), SHARED); traced(x, "mean, SHARED");
    x.stepOf(2); met(x, "mean, of a WORTH", x.mean(2), NOBODY); traced(x, "mean, of a WORTH", 10, 13);
    x.stepOf(2); due("draw, BAD", x.draw(3, 0), BAD); traced(x, "draw, BAD");
    x.stepOf(2); due("draw, BAD day", x.draw(0, -1), BAD); traced(x, "draw, BAD day");
    x.stepOf(2); due("draw, NO", x.draw(1, 0), NO); traced(x, "draw, NO");
    x.stepOf(2); met(x, "draw, FINDING", x.draw(2, 0), NOBODY); traced(x, "draw, FINDING", 10, 13);
    for (int i = 0; i < 6; i++) { x.stepOf(2); due("draw", x.draw(0, 0), 1); traced(x, "draw", 10, 11); }
    x.stepOf(2); due("draw, FULL", x.draw(0, 0), FULL); traced(x, "draw, FULL");
    x.stepOf(2); due("rated, BAD", x.rated(0, 0, 6, 0), BAD); traced(x, "rated, BAD");
    x.stepOf(2); due("rated, BAD t", x.rated(3, 0, 0, 0), BAD); traced(x, "rated, BAD t");
    x.stepOf(2); due("rated, NO", x.rated(0, 2, 0, 0), NO); traced(x, "rated, NO");
    x.stepOf(2); met(x, "rated, FINDING", x.rated(2, 0, NONE, 0), NOBODY); traced(x, "rated, FINDING", 10, 13);
    x.stepOf(2); due("rated", x.rated(0, 0, 5, 0), 1000); traced(x, "rated", 10, 11);
    x.stepOf(2); due("run, BAD", x.run(4), BAD); traced(x, "run, BAD");
    x.stepOf(2); due("run of nothing", x.run(0), 1); traced(x, "run of nothing");
    x.step(0, 9, 1, 0, 0, 0); x.step(0, 9, 5, 0, 0, 0);
    x.stepOf(2); due("run, FAILED", x.run(0), FAILED); traced(x, "run, FAILED", 11);
  }

  private static void noOtherCallEmpties() {
    says("THE TRACE is emptied by each call of worth(), stepOf(), mean(), draw(), rated(), run()");
    PairingHall x = kinds();
    x.tournament(); x.enter(0, 0); x.enter(0, 1); x.draw(0, 0);
    x.worth(2);
    x.player(0, 0); x.player(9, 0); x.places(3, 1); x.places(0, 1); x.seat(3, 0, 0); x.seat(3, 9, 0); x.held(3, 0); x.held(0, 0);
    x.trace(0); x.tournament(); x.enter(1, 0); x.enter(1, 4); x.withdraw(1, 0); x.withdraw(1, 0); x.rule(0, 1, 1); x.rule(0, 9, 1);
    x.pair(0, 0, 0, 0); x.pair(0, 1, 0, 0); x.round(0, 0, 0); x.round(0, 1, 0); x.tell(0, 0, 0, 1, 0, 0); x.tell(0, 9, 0, 1, 0, 0);
    x.takeBack(0, 0, 0); x.takeBack(0, 0, 0); x.counts(0, 0, 0, 0); x.counts(0, 1, 0, 0); x.points(0, 0, 0, 0); x.points(0, 2, 0, 0);
    x.sum(0, 0, 1, 0, 0); x.sum(0, 0, 9, 0, 0); x.place(0, 0, 0, 0); x.place(0, 2, 0, 0); x.standing(0, 0, 0, 0); x.standing(9, 0, 0, 0);
    x.why(0, 0, 1, 0, 0); x.why(0, 0, 2, 0, 0); x.could(0, 0, 0, 0); x.could(0, 0, 9, 0); x.found(0); x.step(0, 9, 0, 0, 0, 0);
    x.step(9, 0, 0, 0, 0, 0); x.empty(0); x.empty(9); x.ran(0); x.ran(9); x.copy(0); x.copy(9); x.alike(0, 1); x.alike(0, 9);
    x.finding(); x.told(3); x.told(99);
    traced(x, "all other calls, done and refused", 12, 10);
  }

  private static void findingsByNumber() {
    says("1 NOBODY (a row that there is not, a PLACE that holds nobody, a ROUND that was not drawn), 2 BEYOND (of a row), 3 UNLIKE (it is not of that kind), 4 SHARED (by nought), 5 SIZE (of a row, below 0), 6 SHORT");
    PairingHall x = kinds();
    x.tournament(); x.enter(0, 0); x.enter(0, 1);
    due("before any", x.finding(), 0);
    met(x, "a row that there is not", x.worth(3), 1); met(x, "it is no TEAM", x.held(0, 0), 3);
    x.places(3, 1);
    met(x, "a PLACE that holds nobody", x.worth(3), 1); met(x, "of a row", x.held(3, 1), 2);
    met(x, "a ROUND that was not drawn", x.round(0, 0, 0), 1); met(x, "he is not RATED", x.worth(4), 3);
    met(x, "below 0", x.places(3, -1), 5);
    x.places(3, 0); met(x, "by nought", x.worth(3), 4);
    x.step(0, 10, 0, 0, 0, 1); x.run(0); due("SHORT", x.finding(), 6);
  }

  private static void firstFindingCounts() {
    says("The act answers FINDING then, the first one told counts, and nothing else changes");
    PairingHall x = kinds();
    x.player(3, 0);
    x.places(3, 3); x.seat(3, 1, 4);
    met(x, "an empty PLACE ahead of a BYE", x.worth(3), NOBODY); traced(x, "up to it", 13);
    x.seat(3, 0, 4); x.seat(3, 1, NONE);
    met(x, "a BYE ahead of an empty PLACE", x.worth(3), UNLIKE); traced(x, "up to it", 13);
    x.tournament(); x.enter(0, 5); x.enter(0, 3); x.enter(0, 0);
    met(x, "the lesser number first", x.mean(0), UNLIKE); traced(x, "up to it", 10, 13);
    met(x, "no TEAM ahead of no PLACE", x.seat(1, 9, 5), UNLIKE);
    met(x, "no PLACES ahead of beyond", x.seat(5, 9, 0), NOBODY);
    due("nobody was seated", x.places(5, 1) + x.held(5, 0), 1 + NONE);
  }

  // ---- 2 TOURNAMENTS

  private static void tournaments4() {
    says("TOURNAMENTS 0, 1, .. (4 at most)");
    PairingHall x = new PairingHall();
    due("none", x.mean(0), BAD);
    for (int t = 0; t < 4; t++) { due("before", x.told(20 + t), BAD); due("number", x.tournament(), t); due("there", x.told(20 + t), 0); }
    due("a fifth", x.tournament(), FULL); due("a copy as fifth", x.copy(3), FULL); due("told", x.told(1), 4);
    due("below 0", x.mean(-1), BAD); due("4", x.mean(4), BAD);
    PairingHall y = new PairingHall();
    y.tournament(); due("a copy", y.copy(0), 1); due("a copy", y.copy(1), 2); due("the last", y.tournament(), 3); due("full", y.copy(0), FULL);
    PairingHall z = new PairingHall();
    for (int i = 0; i < 5; i++) z.step(0, 3, 0, 0, 0, 0);
    due("five in a RUN", z.run(0), FAILED); ranAs(z, "the fifth", FULL, 0, 4, 4); due("none stays", z.told(1), 0);
    z.empty(0);
    for (int i = 0; i < 4; i++) z.step(0, 3, 0, 0, 0, 0);
    due("four in a RUN", z.run(0), 1); due("they stay", z.told(1), 4);
  }

  private static void in10() {
    says("have up to 10 PLAYERS who are IN, some WITHDRAWN, each once");
    PairingHall x = likeOnes(10);
    x.player(0, 0);
    due("an eleventh", x.enter(0, 10), FULL); due("so many", x.told(20), 10);
    due("the first again", x.enter(0, 0), NO); due("the last again", x.enter(0, 9), NO);
    for (int p = 0; p < 10; p++) due("withdraw " + p, x.withdraw(0, p), 1);
    due("who is WITHDRAWN is IN", x.told(20), 10); due("so there is no room", x.enter(0, 10), FULL);
    due("nor may he come again", x.enter(0, 0), NO); due("he has a place", x.place(0, 0, 0, 0), 1); due("and stands", x.standing(0, 9, 0, 0), 9);
    due("nobody is left to draw", x.draw(0, 0), NO);
    PairingHall y = new PairingHall();
    y.tournament(); y.tournament(); y.player(0, 5);
    due("IN one", y.enter(0, 0), 1); due("and IN another one", y.enter(1, 0), 1);
    due("WITHDRAWN from one", y.withdraw(0, 0), 1); due("not from the other one", y.withdraw(1, 0), 1);
  }

  private static void rounds6() {
    says("up to 6 ROUNDS, each with its DAY");
    PairingHall x = likeOnes(2);
    for (int r = 0; r < 6; r++) {
      due("rounds", x.told(30), r);
      met(x, "not yet", x.round(0, r, 0), NOBODY);
      due("draw", x.draw(0, 10 * r), 1);
      due("its day", x.round(0, r, 0), 10 * r);
    }
    due("a seventh", x.draw(0, 50), FULL); due("rounds", x.told(30), 6);
    for (int r = 0; r < 6; r++) due("its day", x.round(0, r, 0), 10 * r);
    met(x, "there is no seventh", x.round(0, 6, 0), BEYOND);
    PairingHall y = likeOnes(2);
    due("all on one day", y.draw(0, MAX), 1);
    for (int r = 1; r < 6; r++) due("the same day", y.draw(0, MAX), 1);
    due("day 5", y.round(0, 5, 0), MAX);
  }

  private static void entries60() {
    says("up to 60 ENTRIES");
    PairingHall x = likeOnes(2);
    x.draw(0, 0);
    for (int e = 0; e < 60; e++) { due("number", x.tell(0, 0, 0, 5, 0, 0), e); }
    due("a 61st", x.tell(0, 0, 0, 2, 0, 0), FULL); due("entries", x.told(40), 60); due("the last counts", x.counts(0, 0, 0, 0), 59);
    for (int e = 59; e >= 0; e--) { due("counts", x.counts(0, 0, 0, 0), e); due("taken back", x.takeBack(0, e, 0), 1); }
    due("none counts", x.counts(0, 0, 0, 0), NONE);
    due("what is TAKEN BACK keeps its number", x.tell(0, 0, 0, 2, 0, 0), FULL);
    due("there is no entry 60", x.takeBack(0, 60, 0), BAD);
    x.tournament(); x.enter(1, 0); x.enter(1, 1); x.draw(1, 0);
    due("of each TOURNAMENT", x.tell(1, 0, 0, 2, 0, 0), 0);
  }

  private static void sums1to4() {
    says("SUMS 1 to 4, each of which is what was told (0 none, at first)");
    PairingHall x = likeOnes(2);
    due("0", x.rule(0, 0, 1), BAD); due("5", x.rule(0, 5, 1), BAD); due("far below", x.rule(0, MIN, 1), BAD); due("far above", x.rule(0, MAX, 1), BAD);
    for (int i = 1; i <= 4; i++) {
      due("at first", x.rule(0, i, 5), 0);
      due("-1 is none", x.rule(0, i, -1), BAD); due("6 is none", x.rule(0, i, 6), BAD);
      due("told", x.rule(0, i, 0), 5); due("told 0", x.rule(0, i, i), 0);
    }
    for (int i = 1; i <= 4; i++) due("each by itself", x.rule(0, i, 0), i);
  }

  private static void serials() {
    says("a SERIAL: the first that is made has 1, each next one 1 more, and what was given once is never given again");
    PairingHall x = new PairingHall();
    due("before any", x.told(2), 0);
    x.tournament(); due("the first", x.told(50), 1); due("latest", x.told(2), 1);
    x.copy(0); due("a copy has its own", x.told(51), 2); due("the first keeps his", x.told(50), 1);
    x.step(0, 3, 0, 0, 0, 0); x.step(0, 3, 0, 0, 0, 0); x.step(0, 3, 0, 0, 0, 0);
    due("a RUN that fails", x.run(0), FAILED); due("two were given", x.told(2), 4); due("they are gone", x.told(52), BAD);
    due("once more", x.run(0), FAILED); due("two more", x.told(2), 6);
    x.tournament(); due("the next one", x.told(52), 7); x.copy(0); due("and the next", x.told(53), 8); due("latest", x.told(2), 8);
    due("FULL gives none", x.tournament(), FULL); due("FULL gives none", x.copy(0), FULL); due("BAD gives none", x.copy(4), BAD); due("latest", x.told(2), 8);
    due("all keep theirs", x.told(50) * 1000 + x.told(51) * 100 + x.told(52) * 10 + x.told(53), 1278);
  }

  // ---- A ROUND

  private static void leastAndMostDrawn() {
    says("PAIRS, each of two of them, and, if they are odd, one of one with nobody (99); each is in one PAIR");
    for (int many = 0; many <= 10; many++) {
      PairingHall x = likeOnes(many);
      due("draw of " + many, x.draw(0, 0), many < 2 ? NO : (many + 1) / 2);
      if (many < 2) continue;
      int seen = 0;
      for (int k = 0; k < (many + 1) / 2; k++) {
        int white = x.pair(0, 0, k, 0), black = x.pair(0, 0, k, 1);
        due("white of pair " + k, white, 2 * k); due("black of pair " + k, black, 2 * k + 1 == many ? 99 : 2 * k + 1);
        seen |= 1 << white | (black == 99 ? 0 : 1 << black);
      }
      due("each is in one", seen, (1 << many) - 1);
      met(x, "behind the last PAIR", x.pair(0, 0, (many + 1) / 2, 0), BEYOND);
    }
  }

  private static void drawnAreNotWithdrawn() {
    says("A ROUND is drawn for those who are IN and not WITHDRAWN");
    PairingHall x = likeOnes(4);
    x.player(0, 0);
    x.withdraw(0, 0);
    due("three", x.draw(0, 0), 2); paired(x, "without 0, and 4 is not IN", 0, 0, 1, 2, 3, 99);
    x.withdraw(0, 3);
    due("two", x.draw(0, 0), 1);
    x.withdraw(0, 2);
    due("one", x.draw(0, 0), NO);
    x.withdraw(0, 1);
    due("none", x.draw(0, 0), NO);
    due("rounds", x.told(30), 2);
  }

  private static void leastCost() {
    says("Among all ways that is the one whose COSTS together are least");
    // 0-1 1, 2-3 1: 2; 0-2 5, 1-3 5: 10; 0-3 6, 1-2 4: 10
    PairingHall x = members(1000, 1010, 1050, 1060);
    x.draw(0, 0);
    paired(x, "nearest", 0, 0, 0, 1, 2, 3); costs(x, "nearest", 0, 0, 1 + 1, 0);
    PairingHall y = members(1000, 1040, 990, 3000);
    // 0-1 4, 2-3 201: 205; 0-2 1, 1-3 196: 197; 0-3 200, 1-2 5: 205. The first one that 0 could have is not the least
    y.draw(0, 0);
    paired(y, "together", 0, 0, 0, 2, 1, 3); costs(y, "together", 0, 0, 197, 0);
    PairingHall z = members(0, 3000, 10, 2990, 20, 2980, 30, 2970, 40, 2960);
    // five even numbers, five odd ones, 10 apart: two PAIRS of each (1 each), and the two that are left, nearest 40 and 2960
    z.draw(0, 0);
    paired(z, "ten", 0, 0, 0, 2, 1, 3, 4, 6, 5, 7, 8, 9); costs(z, "ten", 0, 0, 4 + 292, 0);
  }

  private static void firstOfLikeOnes() {
    says("of like ones the first: with whom each is paired, by their numbers, the least first, nobody last");
    PairingHall x = likeOnes(9);
    x.draw(0, 0);
    paired(x, "nobody last", 0, 0, 0, 1, 2, 3, 4, 5, 6, 7, 8, 99);
    PairingHall y = members(0, 40, 20);
    // 0-1 4, 0-2 2, 1-2 2, nobody 0: 0-2 and 1-2 are like: 0 is with 2 rather than with nobody
    y.draw(0, 0);
    paired(y, "somebody rather than nobody", 0, 0, 0, 2, 1, 99); costs(y, "cost", 0, 0, 2, 0);
    PairingHall z = members(0, 10, 20, 10);
    // 0-1 1, 2-3 1; 0-3 1, 1-2 1; 0-2 2, 1-3 0: all are 2
    z.draw(0, 0);
    paired(z, "the least number", 0, 0, 0, 1, 2, 3); costs(z, "cost", 0, 0, 2, 0);
    PairingHall w = members(100, 0, 10, 20, 10, 100);
    // 0-5 is 0; of the others as above
    w.draw(0, 0);
    paired(w, "of those behind it, too", 0, 0, 0, 5, 1, 2, 3, 4);
    PairingHall v = new PairingHall();
    v.tournament();
    for (int i = 0; i < 4; i++) v.player(0, 0);
    for (int p = 3; p >= 0; p--) v.enter(0, p);
    v.draw(0, 0);
    paired(v, "by numbers, not as they came", 0, 0, 0, 1, 2, 3);
  }

  private static void orderOfPairs() {
    says("PAIRS are in the order of the lesser PLAYER in each, from 0");
    PairingHall x = members(50, 1000, 1050, 0);
    x.draw(0, 0);
    paired(x, "by the lesser one", 0, 0, 0, 3, 1, 2);
    x.draw(0, 0);
    // 0 and 1 were white: 0-1 and 2-3 cost 40 and 95 or 105; 0-2 and 1-3 100 each, 2 and 3 are white
    paired(x, "though he is black", 0, 1, 2, 0, 3, 1); costs(x, "cost", 0, 1, 200, 0);
    PairingHall y = members(3000, 0, 10);
    y.draw(0, 0);
    paired(y, "nobody counts for none", 0, 0, 0, 99, 1, 2);
  }

  private static void drawnByPointsOfItsDay() {
    says("with the WORTHS (asked of all of them, by their numbers) and the POINTS on the DAY as known on the DAY");
    // ROUND 0: 0-1, 2-3. If 0 has 2 POINTS, whoever meets him costs 800; else 0-3 and 1-2 cost nothing
    int[][] rows = {{5, 5, 800}, {6, 5, 0}, {5, 6, 0}, {4, 4, 800}, {0, 0, 800}, {MAX, 5, 0}, {5, MAX, 0}};
    for (int[] row : rows) {
      PairingHall x = likeOnes(4);
      x.draw(0, 5);
      x.tell(0, 0, 0, 2, row[0], row[1]);
      x.draw(0, 5);
      paired(x, "second", 0, 1, 3, 0, 1, 2); costs(x, "of " + row[0] + ", known on " + row[1], 0, 1, row[2], 0);
    }
    PairingHall y = likeOnes(4);
    y.draw(0, 5);
    y.tell(0, 0, 0, 2, 0, 0); y.takeBack(0, 0, 5);
    y.draw(0, 5);
    costs(y, "taken back on the day", 0, 1, 0, 0);
    PairingHall z = likeOnes(3);
    z.draw(0, 5);
    // 2 was with nobody on day 5: 2 POINTS on that day
    z.draw(0, 5);
    paired(z, "with nobody on that day", 0, 1, 2, 0, 1, 99); costs(z, "with nobody on that day", 0, 1, 800, 0);
  }

  private static void withNobodyCosts() {
    says("WITH NOBODY costs 200 times the square of his POINTS less the least POINTS of all of them, and a BROKEN rule, if he was so in a ROUND before");
    PairingHall x = threeWhoWereWithNobody(0);
    // POINTS 4, 2, 2; 1 and 2 were with nobody: 0 is, for 200 * 2 * 2
    paired(x, "the third", 0, 2, 0, 99, 1, 2); costs(x, "the third", 0, 2, 800, 0);
    x.draw(0, 0);
    // POINTS 6, 2, 2; all have met, all were with nobody: 3200 and two BROKEN rules in each way
    paired(x, "the fourth", 0, 3, 0, 1, 2, 99); costs(x, "the fourth", 0, 3, 2003200, 2);
    PairingHall y = threeWhoWereWithNobody(1);
    // POINTS 3, 2, 3: 200 for 0, and 200 for 1-2
    paired(y, "the third", 0, 2, 0, 99, 1, 2); costs(y, "the third", 0, 2, 400, 0);
    PairingHall z = likeOnes(5);
    z.draw(0, 0);
    z.tell(0, 0, 0, 2, 0, 0); z.tell(0, 0, 1, 2, 0, 0);
    z.withdraw(0, 1); z.withdraw(0, 3);
    z.draw(0, 0);
    // 0, 2, 4 have 2 each; those who have none are WITHDRAWN, so 2 is the least
    paired(z, "the least of those who are drawn", 0, 1, 4, 0, 2, 99); costs(z, "the least of those who are drawn", 0, 1, 0, 0);
  }

  /** ROUND 0: 0-1, 2 with nobody; 1: 2-0, 1 with nobody; 2 is drawn when 0 has won the first and the second is told. */
  private static PairingHall threeWhoWereWithNobody(int second) {
    PairingHall x = likeOnes(3);
    x.draw(0, 0); x.draw(0, 0);
    paired(x, "the first", 0, 0, 0, 1, 2, 99); paired(x, "the second", 0, 1, 2, 0, 1, 99);
    x.tell(0, 0, 0, 2, 0, 0); x.tell(0, 1, 0, second, 0, 0);
    x.draw(0, 0);
    return x;
  }

  private static void twoCostByPoints() {
    says("TWO cost 200 times the square of how far their POINTS are apart");
    int[][] rows = {{5, 0}, {1, 0}, {2, 800}, {0, 800}, {3, 800}, {4, 800}, {6, 0}};
    for (int[] row : rows) {
      PairingHall x = likeOnes(2);
      x.draw(0, 0); x.tell(0, 0, 0, row[0], 0, 0); x.draw(0, 0);
      costs(x, "outcome " + row[0], 0, 1, 1000000 + row[1], 1);
    }
    PairingHall y = likeOnes(2);
    // 0 wins all five: 2, 4, .. 10 apart
    for (int r = 0; r < 6; r++) {
      y.draw(0, 0);
      costs(y, "ROUND " + r, 0, r, (r > 0 ? 1000000 : 0) + 200 * 4 * r * r, r > 0 ? 1 : 0);
      y.tell(0, r, 0, y.pair(0, r, 0, 0) == 0 ? 2 : 0, 0, 0);
    }
    PairingHall z = likeOnes(2);
    // 1 each; then 1 wins: 1 and 3
    z.draw(0, 0); z.tell(0, 0, 0, 1, 0, 0); z.draw(0, 0); z.tell(0, 1, 0, 2, 0, 0); z.draw(0, 0);
    costs(z, "two apart", 0, 2, 1000800, 1);
    PairingHall w = likeOnes(3);
    w.draw(0, 0); w.tell(0, 0, 0, 1, 0, 0); w.draw(0, 0);
    // POINTS 1, 1, 2
    costs(w, "one apart", 0, 1, 200, 0);
  }

  private static void twoCostByWorths() {
    says("how far their WORTHS are apart by 10 (cut)");
    int[][] rows = {{0, 0, 0}, {0, 9, 0}, {0, 10, 1}, {0, 19, 1}, {0, 20, 2}, {9, 0, 0}, {10, 0, 1}, {19, 0, 1}, {0, 3000, 300}, {3000, 5, 299}};
    for (int[] row : rows) {
      PairingHall x = members(row[0], row[1]);
      x.draw(0, 0);
      costs(x, row[0] + " and " + row[1], 0, 0, row[2], 0);
    }
    PairingHall y = new PairingHall();
    y.tournament(); y.player(0, 0); y.player(2, 3000); y.enter(0, 0); y.enter(0, 1);
    y.draw(0, 0);
    costs(y, "the farthest", 0, 0, 302, 0);
  }

  private static void twoWhoWereAPair() {
    says("a BROKEN rule, if they were a PAIR in a ROUND before");
    PairingHall x = likeOnes(4);
    x.draw(0, 0); x.draw(0, 0); x.draw(0, 0);
    paired(x, "the first", 0, 0, 0, 1, 2, 3); paired(x, "the second", 0, 1, 3, 0, 1, 2); paired(x, "the third", 0, 2, 0, 2, 1, 3);
    for (int r = 0; r < 3; r++) costs(x, "ROUND " + r, 0, r, 0, 0);
    x.draw(0, 0);
    // all have met, long before or just now; 0, 1 have one more white, 2, 3 one more black: 0-2 and 1-3 are for nothing else
    paired(x, "the fourth", 0, 3, 2, 0, 3, 1); costs(x, "the fourth", 0, 3, 2000000, 2);
  }

  private static void colourOfLikeWays() {
    says("the lesser of both ways (of like ones the PLAYER with the lesser number is white)");
    PairingHall x = likeOnes(2);
    x.draw(0, 0); paired(x, "like ways", 0, 0, 0, 1);
    x.draw(0, 0); paired(x, "the other way is less", 0, 1, 1, 0);
    x.draw(0, 0); paired(x, "like ways again", 0, 2, 0, 1);
    PairingHall y = likeOnes(4);
    y.draw(0, 0); y.withdraw(0, 1); y.withdraw(0, 3); y.draw(0, 0);
    paired(y, "both were white", 0, 1, 0, 2); costs(y, "both were white", 0, 1, 40, 0);
    PairingHall z = likeOnes(4);
    z.draw(0, 0); z.withdraw(0, 0); z.withdraw(0, 2); z.draw(0, 0);
    paired(z, "both were black", 0, 1, 1, 3); costs(z, "both were black", 0, 1, 40, 0);
  }

  private static void balanceCosts() {
    says("if BALANCE (how often he was white before less how often black, of PAIRS with somebody) is above 0 and he is white, or below 0 and he is black, 40");
    PairingHall x = likeOnes(3);
    x.draw(0, 0); x.draw(0, 0);
    // 2 was with nobody: no colour; 0 was white
    paired(x, "with nobody is no colour", 0, 1, 2, 0, 1, 99); costs(x, "with nobody is no colour", 0, 1, 800, 0);
    PairingHall y = likeOnes(4);
    y.draw(0, 0); y.withdraw(0, 1); y.withdraw(0, 3);
    for (int r = 1; r < 6; r++) y.draw(0, 0);
    // 0 and 2 were white; 0 is so again; then their BALANCES are 2 and 0, 1 and 1, 2 and 0, 1 and 1
    paired(y, "1 and 1", 0, 1, 0, 2); costs(y, "1 and 1", 0, 1, 40, 0);
    paired(y, "2 and 0", 0, 2, 2, 0); costs(y, "2 and 0", 0, 2, 1000000, 1);
    paired(y, "1 and 1 again", 0, 3, 0, 2); costs(y, "1 and 1 again", 0, 3, 1000040, 1);
    paired(y, "2 and 0 again", 0, 4, 2, 0); costs(y, "2 and 0 again", 0, 4, 1000000, 1);
    PairingHall z = likeOnes(4);
    z.draw(0, 0); z.withdraw(0, 0); z.withdraw(0, 2);
    for (int r = 1; r < 4; r++) z.draw(0, 0);
    // 1 and 3 were black; 3 is so again; -1 and -1, 0 and -2, -1 and -1
    paired(z, "-1 and -1", 0, 1, 1, 3); costs(z, "-1 and -1", 0, 1, 40, 0);
    paired(z, "0 and -2", 0, 2, 3, 1); costs(z, "0 and -2", 0, 2, 1000000, 1);
    paired(z, "-1 and -1 again", 0, 3, 1, 3); costs(z, "-1 and -1 again", 0, 3, 1000040, 1);
  }

  private static void colourThrice() {
    says("a BROKEN rule, if in the latest two of his PAIRS with somebody he had just that colour");
    PairingHall x = whitesTwice();
    x.draw(0, 0);
    paired(x, "both were white twice", 0, 2, 0, 4); costs(x, "both were white twice", 0, 2, 1000040, 1);
    x.draw(0, 0);
    // 0: three times white; 4: white, white, black. 0 is black: 1000000 for having met, 40 for 4
    paired(x, "one is black then", 0, 3, 4, 0); costs(x, "one is black then", 0, 3, 1000040, 1);
    PairingHall y = likeOnes(8);
    y.draw(0, 0);
    for (int p = 0; p < 8; p += 2) y.withdraw(0, p);
    y.draw(0, 0);
    // 1, 3, 5, 7 were black: 3 and 7 are so again
    paired(y, "second", 0, 1, 1, 3, 5, 7); costs(y, "one alone is not two", 0, 1, 80, 0);
    y.withdraw(0, 1); y.withdraw(0, 5);
    y.draw(0, 0);
    paired(y, "both were black twice", 0, 2, 3, 7); costs(y, "both were black twice", 0, 2, 1000040, 1);
  }

  /** 0 and 4 are left, both were white twice and have not met. */
  private static PairingHall whitesTwice() {
    PairingHall x = likeOnes(8);
    x.draw(0, 0);
    for (int p = 1; p < 8; p += 2) x.withdraw(0, p);
    x.draw(0, 0);
    paired(x, "second", 0, 1, 0, 2, 4, 6); costs(x, "one alone is not two", 0, 1, 80, 0);
    x.withdraw(0, 2); x.withdraw(0, 6);
    return x;
  }

  // ---- 3 ENTRIES

  private static void outcomes0to6() {
    says("0 black won, 1 even, 2 white won, 3 white did not come, 4 black did not come, 5 put off, 6 none of both came");
    PairingHall x = likeOnes(2);
    x.draw(0, 0);
    for (int o : new int[] {-1, 7, MAX, MIN}) due("outcome " + o, x.tell(0, 0, 0, o, 0, 0), BAD);
    for (int o = 0; o <= 6; o++) due("outcome " + o, x.tell(0, 0, 0, o, 0, 0), o);
  }

  private static void halves() {
    says("HALVES of it: 0, 3: none for white, 2 for black; 1: 1 each; 2, 4: 2 for white, none for black; 5, 6: none");
    int[] white = {0, 1, 2, 0, 2, 0, 0}, black = {2, 1, 0, 2, 0, 0, 0};
    for (int o = 0; o <= 6; o++) {
      PairingHall x = likeOnes(2);
      x.draw(0, 0); x.tell(0, 0, 0, o, 0, 0);
      due("white of " + o, x.points(0, 0, 0, 0), white[o]); due("black of " + o, x.points(0, 1, 0, 0), black[o]);
    }
  }

  private static void takenBackFromADayOn() {
    says("One that was TAKEN BACK is not known from a told day on");
    PairingHall x = likeOnes(2);
    x.draw(0, 0);
    x.tell(0, 0, 0, 2, 0, 4); x.takeBack(0, 0, 7);
    due("the day before it is known", x.counts(0, 0, 0, 3), NONE); due("the day on which it is", x.counts(0, 0, 0, 4), 0);
    due("the last one", x.counts(0, 0, 0, 6), 0); due("the told day", x.counts(0, 0, 0, 7), NONE); due("the last of all", x.counts(0, 0, 0, MAX), NONE);
    due("points the day before", x.points(0, 0, 9, 6), 2); due("points on it", x.points(0, 0, 9, 7), 0);
    PairingHall y = likeOnes(2);
    y.draw(0, 0);
    y.tell(0, 0, 0, 2, 0, 0); due("on the very day", y.takeBack(0, 0, 0), 1); due("it was never known", y.counts(0, 0, 0, 0), NONE);
    y.tell(0, 0, 0, 2, 0, MAX); due("known at the end of days", y.counts(0, 0, 0, MAX), 1); due("not before", y.counts(0, 0, 0, MAX - 1), NONE);
    due("taken back then", y.takeBack(0, 1, MAX), 1); due("and known never", y.counts(0, 0, 0, MAX), NONE);
    y.tell(0, 0, 0, 2, 0, 0); due("taken back at the end", y.takeBack(0, 2, MAX), 1);
    due("known up to it", y.counts(0, 0, 0, MAX - 1), 2); due("not on it", y.counts(0, 0, 0, MAX), NONE);
  }

  private static void whichEntryCounts() {
    says("of a PAIR counts the ENTRY that is known then, and not taken back by then, with the latest day on which it is KNOWN, of these the one with the greatest number");
    PairingHall x = likeOnes(4);
    x.draw(0, 0);
    due("none told", x.counts(0, 0, 0, MAX), NONE);
    x.tell(0, 0, 0, 0, 9, 5); x.tell(0, 0, 0, 1, 0, 3); x.tell(0, 0, 0, 2, 0, 5); x.tell(0, 0, 0, 6, 0, 4); x.tell(0, 0, 1, 1, 0, 5);
    int[] want = {NONE, NONE, NONE, 1, 3, 2, 2};
    for (int day = 0; day < want.length; day++) due("on " + day, x.counts(0, 0, 0, day), want[day]);
    due("the other PAIR", x.counts(0, 0, 1, 5), 4); due("before", x.counts(0, 0, 1, 4), NONE);
    x.takeBack(0, 2, 6); due("the greatest is taken back", x.counts(0, 0, 0, 6), 0); due("not yet", x.counts(0, 0, 0, 5), 2);
    x.takeBack(0, 0, 6); due("those of that day are", x.counts(0, 0, 0, 6), 3);
    x.tell(0, 0, 0, 1, 0, 4); due("a greater number, known as early", x.counts(0, 0, 0, 6), 5);
    x.tell(0, 0, 0, 1, 0, 0); due("a greater number, known earlier", x.counts(0, 0, 0, 6), 5); due("earlier it counts", x.counts(0, 0, 0, 0), 6);
  }

  private static void pointsOfTheDay() {
    says("POINTS on a DAY as known on another one: the HALVES of what counts of all his PAIRS, if that is of the DAY or one before");
    PairingHall x = likeOnes(2);
    x.draw(0, 9);
    x.tell(0, 0, 0, 2, 5, 3);
    due("the day before", x.points(0, 0, 4, 3), 0); due("the DAY", x.points(0, 0, 5, 3), 2); due("later", x.points(0, 0, MAX, 3), 2);
    due("not yet known", x.points(0, 0, MAX, 2), 0); due("known", x.points(0, 0, 5, MAX), 2);
    x.tell(0, 0, 0, 2, 8, 3);
    due("what counts is of a later DAY, and what did does no more", x.points(0, 0, 7, 3), 0); due("on it", x.points(0, 0, 8, 3), 2);
    PairingHall y = likeOnes(2);
    y.draw(0, 0); y.tell(0, 0, 0, 2, MAX, MAX);
    due("the last day of all", y.points(0, 0, MAX, MAX), 2); due("one before", y.points(0, 0, MAX - 1, MAX), 0); due("known one before", y.points(0, 0, MAX, MAX - 1), 0);
    PairingHall z = likeOnes(2);
    z.draw(0, 0); z.tell(0, 0, 0, 2, 0, 0);
    due("the first day of all", z.points(0, 0, 0, 0), 2);
    PairingHall w = likeOnes(2);
    for (int r = 0; r < 6; r++) { w.draw(0, r); w.tell(0, r, 0, w.pair(0, r, 0, 0) == 1 ? 2 : 0, r, 0); due("all six", w.points(0, 1, r, 0), 2 * r + 2); }
    due("none of six", w.points(0, 0, 5, 0), 0);
  }

  private static void pointsWithNobody() {
    says("and 2 for each ROUND of the DAY or one before in which he was with nobody");
    PairingHall x = members(0, 10, 3000);
    x.draw(0, 5);
    due("the day before", x.points(0, 2, 4, MAX), 0); due("the DAY", x.points(0, 2, 5, 0), 2); due("later", x.points(0, 2, MAX, 0), 2);
    PairingHall y = threeWhoWereWithNobody(0);
    y.draw(0, 7);
    // 2 with nobody in ROUNDS 0 and 3
    due("each of them", y.points(0, 2, 7, 7), 4); due("those before", y.points(0, 2, 6, 7), 2); due("whatever is known", y.points(0, 2, 7, 0), 4);
  }

  private static void sum1() {
    says("1 the POINTS of all with whom he was paired (in ROUNDS of whatever DAY), once for each PAIR");
    PairingHall x = likeOnes(4);
    due("none drawn", x.sum(0, 0, 1, 0, 0), 0);
    x.draw(0, 5); x.draw(0, 9);
    x.tell(0, 0, 1, 2, 1, 1); x.tell(0, 1, 1, 2, 2, 2);
    // 0 was with 1 and 3; 1 with 0 and 2; on day 1 2 has 2, on day 2 1 has 2, too
    due("of 1 on day 1, ahead of both ROUNDS", x.sum(0, 1, 1, 1, 1), 2); due("of 0 on day 1", x.sum(0, 0, 1, 1, 1), 0);
    due("of 0 on day 2", x.sum(0, 0, 1, 2, 2), 2); due("of 0 on day 2, not known", x.sum(0, 0, 1, 2, 1), 0); due("of 0 on day 1, known", x.sum(0, 0, 1, 1, 2), 0);
    PairingHall y = likeOnes(2);
    for (int r = 0; r < 6; r++) y.draw(0, 0);
    y.tell(0, 0, 0, 1, 0, 0);
    due("six times the same", y.sum(0, 0, 1, 0, 0), 6);
    PairingHall z = threeWhoWereWithNobody(1);
    // POINTS 5, 2, 3 with nobody in ROUND 2, too; 0 was with 1 and 2
    due("nobody has none", z.sum(0, 0, 1, 0, 0), 2 + 3);
  }

  private static void sum2() {
    says("2 the same without the least and the greatest of them (0, if they are fewer than three)");
    PairingHall x = likeOnes(2);
    int[] want = {0, 0, 0, 1, 2, 3, 4};
    for (int r = 0; r <= 6; r++) {
      // whoever is 1 has 1 POINT
      due("of " + r, x.sum(0, 0, 2, 0, 0), want[r]);
      if (r == 6) break;
      x.draw(0, 0);
      if (r == 0) x.tell(0, 0, 0, 1, 0, 0);
    }
    PairingHall y = likeOnes(4);
    for (int r = 0; r < 3; r++) y.draw(0, 0);
    y.tell(0, 0, 1, 2, 0, 0); y.tell(0, 1, 1, 1, 0, 0); y.tell(0, 2, 1, 6, 0, 0);
    // POINTS of 1, 2, 3: 1, 3, 0, with each of whom 0 was
    due("three", y.sum(0, 0, 1, 0, 0), 4); due("the one between", y.sum(0, 0, 2, 0, 0), 1);
    y.tell(0, 2, 1, 0, 0, 0);
    // 3 has 2 now
    due("the one between", y.sum(0, 0, 2, 0, 0), 2);
  }

  private static void sums3to5() {
    says("3 how many of his PAIRS he won, as it counts (0, 2 alone; of the DAY or before); 4 the HALVES of what counts of those PAIRS (of the DAY or before) with whom he has just as many POINTS; 5 how often he was black, where what counts is 0, 1 or 2 (of the DAY or before)");
    int[] whiteWon = {0, 0, 1, 0, 0, 0, 0}, blackWon = {1, 0, 0, 0, 0, 0, 0}, level = {0, 1, 0, 0, 0, 0, 0}, black = {1, 1, 1, 0, 0, 0, 0};
    for (int o = 0; o <= 6; o++) {
      PairingHall x = likeOnes(2);
      x.draw(0, 9);
      x.tell(0, 0, 0, o, 5, 3);
      for (int day = 4; day <= 6; day++) {
        for (int known = 2; known <= 4; known++) {
          int at = day >= 5 && known >= 3 ? 1 : 0;
          String what = " of " + o + " on " + day + " as known on " + known;
          due("3" + what, x.sum(0, 0, 3, day, known), at * whiteWon[o]); due("3 of black" + what, x.sum(0, 1, 3, day, known), at * blackWon[o]);
          due("4" + what, x.sum(0, 0, 4, day, known), at * level[o]); due("4 of black" + what, x.sum(0, 1, 4, day, known), at * level[o]);
          due("5" + what, x.sum(0, 0, 5, day, known), 0); due("5 of black" + what, x.sum(0, 1, 5, day, known), at * black[o]);
        }
      }
    }
    PairingHall y = likeOnes(2);
    y.draw(0, 0); y.draw(0, 0);
    y.tell(0, 0, 0, 2, 0, 0); y.tell(0, 1, 0, 4, 0, 0);
    // 0 won the first, 1 has the second for nothing: both have 2
    for (int p = 0; p < 2; p++) due("just as many, of what was not played, too", y.sum(0, p, 4, 0, 0), 2);
    due("won", y.sum(0, 0, 3, 0, 0), 1); due("not won", y.sum(0, 1, 3, 0, 0), 0); due("black", y.sum(0, 1, 5, 0, 0), 1); due("black for nothing", y.sum(0, 0, 5, 0, 0), 0);
    PairingHall z = likeOnes(3);
    z.draw(0, 0);
    for (int s = 1; s <= 5; s++) due("with nobody alone, SUM " + s, z.sum(0, 2, s, 0, 0), 0);
  }

  private static void aheadByTheFirstThatParts() {
    says("ONE IS AHEAD of another one by POINTS, then by SUM 1, 2, 3, 4 as they are told (of those that are 0 none), where they part first: the greater one. Nothing parts two: they are alike");
    PairingHall x = likeOnes(4);
    due("nothing at all", x.why(0, 0, 1, 0, 0), 0);
    x.draw(0, 0);
    x.tell(0, 0, 0, 2, 0, 0); x.tell(0, 0, 1, 0, 0, 0);
    // 0 and 3 won; 0 as white, 3 as black
    due("no SUM is told", x.why(0, 0, 3, 0, 0), 0);
    for (int i = 1; i <= 4; i++) {
      x.rule(0, i, 5); due("SUM " + i, x.why(0, 0, 3, 0, 0), 10 * i + 2); due("SUM " + i, x.why(0, 3, 0, 0, 0), 10 * i + 1);
      due("POINTS go first", x.why(0, 0, 1, 0, 0), 1); x.rule(0, i, 0);
    }
    x.rule(0, 4, 5); x.rule(0, 2, 5); due("the first that parts", x.why(0, 0, 3, 0, 0), 22);
    x.rule(0, 2, 3); due("not one in which they are like", x.why(0, 0, 3, 0, 0), 42);
    x.rule(0, 4, 0); due("none of them parts", x.why(0, 0, 3, 0, 0), 0);
  }

  // ---- RATINGS

  private static int gain(int base, int other, int outcome, int who) {
    PairingHall x = members(base, other);
    x.draw(0, 0); x.tell(0, 0, 0, outcome, 0, 0);
    return x.rated(0, who, 0, 0) - (who == 0 ? base : other);
  }

  private static void ratingsFarApart() {
    says("D being his RATING less the other one's, both from before that ROUND, -400 at least, 400 at most");
    // 360: 450 are due more: 20 * 50 = 1000, 20 * -950 = -19000
    due("360 apart, won", gain(1360, 1000, 2, 0), 1); due("360 apart, lost", gain(1360, 1000, 0, 0), -19);
    due("380 apart: 475: 20 * 25 = 500 is 0", gain(1380, 1000, 2, 0), 0); due("379 apart: 473: 540 is 1", gain(1379, 1000, 2, 0), 1);
    for (int apart : new int[] {399, 400, 401, 402, 440, 480, 2000}) {
      due(apart + " apart, won", gain(1000 + apart, 1000, 2, 0), 0); due(apart + " apart, lost", gain(1000 + apart, 1000, 0, 0), -20);
      due(apart + " apart, even", gain(1000 + apart, 1000, 1, 0), -10); due(apart + " apart, even, the other one", gain(1000 + apart, 1000, 1, 1), 10);
      due("-" + apart + " apart, won", gain(1000, 1000 + apart, 2, 0), 20); due("-" + apart + " apart, lost", gain(1000, 1000 + apart, 0, 0), 0);
    }
    // a JUNIOR's 40 times: 399: 498 (of 498.75): 40 * -498 = -19920; 400: -20000; 392: 490: -19600; 380: 475: -19000
    int[][] juniors = {{380, -19}, {388, -19}, {392, -20}, {400, -20}, {420, -20}};
    for (int[] row : juniors) {
      PairingHall x = new PairingHall();
      x.tournament(); x.player(2, 1000 + row[0] - 25); x.player(0, 1000); x.enter(0, 0); x.enter(0, 1);
      x.draw(0, 0); x.tell(0, 0, 0, 1, 0, 0);
      due("a JUNIOR, even, " + row[0] + " apart", x.rated(0, 0, 0, 0) - 1000 - row[0], row[1]);
    }
  }

  private static void ratingsCutTowards0() {
    says("500 and what 5 D by 4 is, cut towards 0");
    // a JUNIOR whose 40 times show each unit beyond a half: D = 10: 12 (of 12.5): 40 * -12 = -480: 0; 13 would be -520: -1
    int[][] rows = {{10, 0}, {11, -1}, {-10, 0}, {-11, 1}, {1, 0}, {-1, 0}, {2, 0}, {30, -1}, {31, -2}, {-30, 1}, {-31, 2}};
    // 11: 13: -520: -1; 30: 37 (of 37.5): -1480: -1; 31: 38: -1520: -2
    for (int[] row : rows) {
      PairingHall x = new PairingHall();
      x.tournament(); x.player(2, 1000 + row[0] - 25); x.player(0, 1000); x.enter(0, 0); x.enter(0, 1);
      x.draw(0, 0); x.tell(0, 0, 0, 1, 0, 0);
      due("D = " + row[0], x.rated(0, 0, 0, 0) - 1000 - row[0], row[1]);
    }
  }

  private static void ratingsRounded() {
    says("these thousandths more, rounded by themselves, ahead of being added, to the nearest whole number, of two the even one");
    // even, D: 20 * -(5 D / 4): 20: 25: -500 is 0; 21: 26: -520 is -1; 19: 23: -460 is 0; 60: 75: -1500 is -2; 59: 73: -1460; 100: 125: -2500 is -2
    int[][] rows = {{19, 0}, {20, 0}, {21, -1}, {59, -1}, {60, -2}, {61, -2}, {99, -2}, {100, -2}, {101, -3}, {140, -4}};
    for (int[] row : rows) {
      due("even, D = " + row[0], gain(1000 + row[0], 1000, 1, 0), row[1]);
      due("even, D = -" + row[0], gain(1000 + row[0], 1000, 1, 1), -row[1]);
    }
    // of an odd RATING -500 is 0 as well: it is not the sum that is rounded
    due("ahead of being added", gain(1021, 1001, 1, 0), 0); due("ahead of being added", gain(1061, 1001, 1, 0), -2);
    // 20 * (500 - 25) = 9500 is 10; 20 * (500 - 75) = 8500 is 8
    due("won, 9500", gain(1020, 1000, 2, 0), 10); due("won, 8500", gain(1060, 1000, 2, 0), 8); due("lost, -10500", gain(1020, 1000, 0, 0), -10); due("lost, -11500", gain(1060, 1000, 0, 0), -12);
    // a TEAM's 10 times: D = 40: 50: -500 is 0; 44: 55: -550 is -1; 120: 150: -1500 is -2
    int[][] teams = {{36, 0}, {40, 0}, {44, -1}, {120, -2}, {200, -2}, {204, -3}};
    for (int[] row : teams) {
      PairingHall x = new PairingHall();
      x.tournament(); x.player(3, 0); x.player(0, 1000); x.player(0, 1000 + row[0]);
      x.places(0, 1); x.seat(0, 0, 2); x.enter(0, 0); x.enter(0, 1);
      x.draw(0, 0); x.tell(0, 0, 0, 1, 0, 0);
      due("a TEAM, D = " + row[0], x.rated(0, 0, 0, 0) - 1000 - row[0], row[1]);
    }
  }

  private static void ratingsWhereItCounts() {
    says("if his PAIR there counts as 0, 1 or 2, as known");
    int[] want = {-10, 0, 10, 0, 0, 0, 0};
    for (int o = 0; o <= 6; o++) {
      due("outcome " + o, gain(1000, 1000, o, 0), want[o]); due("outcome " + o + ", black", gain(1000, 1000, o, 1), -want[o]);
    }
    PairingHall x = likeOnes(2);
    x.draw(0, 0); x.tell(0, 0, 0, 0, MAX, 5); x.takeBack(0, 0, 8);
    due("not yet known", x.rated(0, 0, 0, 4), 0); due("known, of whatever DAY", x.rated(0, 0, 0, 5), -10); due("below 0", x.rated(0, 0, 0, 7), -10); due("taken back", x.rated(0, 0, 0, 8), 0);
    PairingHall y = likeOnes(3);
    y.draw(0, 0);
    due("with nobody", y.rated(0, 2, 0, 0), 0); traced(y, "no STEP", 10, 10, 10);
  }

  private static void ratingsFromBeforeTheRound() {
    says("before ROUND 0 the WORTH; behind ROUND r that behind the one before");
    PairingHall x = members(1000, 1000);
    due("before ROUND 0", x.rated(0, 0, NONE, 0), 1000);
    for (int r = 0; r < 6; r++) { x.draw(0, 0); x.tell(0, r, 0, r % 2 == 0 ? 2 : 0, 0, 0); }
    // 0 wins all: D = 0: 10; 20: 475: 9500: 10; 40: 450: 9; 58: 72 (of 72.5): 428: 8560: 9; 76: 95: 405: 8100: 8; 92: 115: 385: 7700: 8
    int[] want = {1010, 1020, 1029, 1038, 1046, 1054};
    for (int r = 0; r < 6; r++) {
      due("behind ROUND " + r, x.rated(0, 0, r, 0), want[r]); due("the other one", x.rated(0, 1, r, 0), 2000 - want[r]);
    }
    due("still", x.rated(0, 0, NONE, 0), 1000);
  }

  // ---- 4 PLANS

  private static void plansAndSteps() {
    says("PLANS 0 .. 3 are rows of up to 10 STEPS (act, a, b, c, d)");
    PairingHall x = new PairingHall();
    for (int plan : new int[] {-1, 4, MAX, MIN}) {
      due("step of " + plan, x.step(plan, 0, 0, 0, 0, 0), BAD); due("empty " + plan, x.empty(plan), BAD); due("run " + plan, x.run(plan), BAD);
    }
    for (int plan = 0; plan < 4; plan++) {
      due("no STEPS at first", x.empty(plan), 0); due("a RUN of none", x.run(plan), 1);
      for (int i = 1; i <= 10; i++) due("step", x.step(plan, 9, plan, 0, 0, 0), i);
      due("an eleventh", x.step(plan, 9, 0, 0, 0, 0), FULL);
    }
    for (int plan = 0; plan < 4; plan++) x.player(0, 0);
    for (int plan = 0; plan < 4; plan++) { due("run", x.run(plan), 1); ranAs(x, "ten", 0, NONE, NONE, 10); }
    for (int plan = 0; plan < 4; plan++) { due("ten", x.empty(plan), 10); due("none", x.empty(plan), 0); due("one", x.step(plan, 0, 0, 0, 0, 0), 1); }
  }

  private static void tellOfAStep() {
    says("7 tell(a, b / 10, b % 10, c, d, d) (as the language has these)");
    // b: what it answers, and the FINDING: 0 .. 4 are PAIRS of ROUND 0, 50 .. 54 of ROUND 5
    int[][] rows = {{0, 0, 0}, {4, 0, 0}, {5, FINDING, BEYOND}, {9, FINDING, BEYOND}, {10, 0, 0}, {54, 0, 0}, {55, FINDING, BEYOND}, {60, FINDING, BEYOND},
        {-1, FINDING, BEYOND}, {-9, FINDING, BEYOND}, {-10, FINDING, BEYOND}, {MAX, FINDING, BEYOND}, {MIN, FINDING, BEYOND}};
    for (int[] row : rows) {
      PairingHall x = likeOnes(10);
      for (int r = 0; r < 6; r++) x.draw(0, 0);
      x.step(0, 7, 0, row[0], 2, 7);
      due("b = " + row[0], x.run(0), row[1] == 0 ? 1 : FAILED); due("b = " + row[0], x.ran(0), row[1]); due("b = " + row[0] + ", finding", x.finding(), row[2]);
      if (row[1] != 0) continue;
      int white = x.pair(0, row[0] / 10, row[0] % 10, 0);
      due("of the day d, known on d", x.points(0, white, 7, 7), 2); due("not before", x.points(0, white, 6, 7), 0); due("not known before", x.points(0, white, 7, 6), 0);
    }
    PairingHall y = likeOnes(2);
    y.draw(0, 0); y.step(0, 7, 0, 10, 2, 0); y.step(1, 7, 0, -1, 2, 0);
    y.run(0); due("a ROUND that was not drawn", y.finding(), NOBODY);
    y.run(1); due("-1 / 10 is ROUND 0, -1 % 10 is no PAIR of it", y.finding(), BEYOND);
  }

  private static void needs() {
    says("10 NEED: points(a, b, c, c) must be d or more (else SHORT)");
    PairingHall x = likeOnes(2);
    x.draw(0, 0); x.tell(0, 0, 0, 2, 5, 5);
    int[][] rows = {{5, 2, 1}, {5, 3, 0}, {5, 1, 1}, {5, 0, 1}, {5, -1, 1}, {5, MIN, 1}, {5, MAX, 0}, {4, 1, 0}, {4, 0, 1}, {MAX, 2, 1}, {MAX, 3, 0}};
    for (int[] row : rows) {
      x.places(9, 0); x.empty(0); x.step(0, 10, 0, 0, row[0], row[1]);
      due("on " + row[0] + " " + row[1] + " or more", x.run(0), row[2] == 1 ? 1 : FAILED); due("its answer", x.ran(0), row[2] == 1 ? 0 : FINDING);
      if (row[2] == 0) due("finding", x.finding(), SHORT);
    }
    PairingHall y = likeOnes(2);
    y.draw(0, 0); y.tell(0, 0, 0, 2, 5, 6);
    y.step(0, 10, 0, 0, 5, 1); due("of the DAY, but not known", y.run(0), FAILED);
    y.step(1, 10, 0, 0, 6, 1); due("known", y.run(1), 1);
  }

  private static void stepsOfAnotherPlan() {
    says("11 THE STEPS OF PLAN a, which must be below its own (else BAD)");
    for (int plan = 0; plan < 4; plan++) {
      for (int a : new int[] {MIN, -1, 0, 1, 2, 3, 4, MAX}) {
        PairingHall x = new PairingHall();
        x.step(plan, 11, a, 0, 0, 0);
        boolean fits = a >= 0 && a < plan;
        due(a + " in " + plan, x.run(plan), fits ? 1 : FAILED);
        ranAs(x, a + " in " + plan, fits ? 0 : BAD, fits ? NONE : plan, fits ? NONE : 0, 0);
        for (int k = 0; k < 4; k++) due("TRIES of " + k, x.told(10 + k), k == plan || fits && k == a ? 1 : 0);
      }
    }
    PairingHall x = kinds();
    for (int plan = 1; plan < 4; plan++) x.step(plan, 11, plan - 1, 0, 0, 0);
    x.step(0, 9, 4, 0, 0, 0);
    due("four deep", x.run(3), FAILED); ranAs(x, "four deep", FINDING, 0, 0, 0);
    for (int k = 0; k < 4; k++) due("each was begun", x.told(10 + k), 1);
  }

  private static void noTraceIsEmptied() {
    says("Calls made so empty no TRACE");
    PairingHall x = kinds();
    x.tournament(); x.enter(0, 0); x.enter(0, 1);
    x.step(0, 9, 2, 0, 0, 0); x.step(0, 6, 0, 0, 0, 0); x.step(0, 9, 0, 0, 0, 0); x.step(1, 11, 0, 0, 0, 0); x.step(1, 9, 1, 0, 0, 0); x.step(1, 9, 5, 0, 0, 0);
    due("run", x.run(0), 1); traced(x, "a worth, a draw, a worth", 12, 10, 10, 11, 10);
    due("run", x.run(1), FAILED); traced(x, "also one that is refused", 12, 10, 10, 11, 10, 11);
  }

  private static void stepsThatFail() {
    says("A STEP that answers BAD, NO, FULL or FINDING fails");
    // act, a, b, c, d and the answer
    int[][] rows = {
        {0, 5, 0, 0, 0, BAD}, {1, 0, 5, 0, 0, BAD}, {1, 0, 0, 0, 0, FINDING}, {2, 9, 0, 0, 0, BAD}, {2, 0, 0, 0, 0, FINDING}, {4, 9, 0, 0, 0, BAD}, {4, 0, 0, 0, 0, NO},
        {4, 1, 2, 0, 0, FINDING}, {5, 9, 0, 0, 0, BAD}, {5, 0, 2, 0, 0, NO}, {6, 9, 0, 0, 0, BAD}, {6, 1, 0, 0, 0, NO}, {6, 2, 0, 0, 0, FULL}, {7, 9, 0, 0, 0, BAD},
        {7, 0, 10, 0, 0, FINDING}, {7, 0, 1, 0, 0, NO}, {8, 0, 9, 0, 0, BAD}, {8, 0, 0, 9, 0, NO}, {9, 9, 0, 0, 0, BAD}, {9, 2, 0, 0, 0, FINDING}, {10, 0, 9, 0, 0, BAD},
        {10, 0, 2, 0, 0, NO}, {10, 0, 0, 0, 9, FINDING}, {11, 0, 0, 0, 0, BAD}};
    for (int[] row : rows) {
      PairingHall x = members(0, 0);
      x.player(4, 0); x.enter(0, x.player(0, 0)); x.draw(0, 0); x.tell(0, 0, 0, 2, 0, 0); x.takeBack(0, 0, 0);
      x.tournament(); x.tournament(); x.enter(2, 0); x.enter(2, 1);
      for (int r = 0; r < 6; r++) x.draw(2, 0);
      x.step(0, 9, 0, 0, 0, 0); x.step(0, row[0], row[1], row[2], row[3], row[4]); x.step(0, 9, 0, 0, 0, 0);
      due("act " + row[0], x.run(0), FAILED); ranAs(x, "act " + row[0], row[5], 0, 1, 1);
      traced(x, "what is behind it is not done", row[0] == 6 && row[5] == FINDING ? new int[] {10, 10} : new int[] {10});
    }
    PairingHall y = new PairingHall();
    for (int i = 0; i < 24; i++) y.player(0, 0);
    y.step(0, 0, 0, 0, 0, 0); due("a 25th PLAYER", y.run(0), FAILED); ranAs(y, "a 25th PLAYER", FULL, 0, 0, 0);
  }

  private static void sixtySteps() {
    says("so does one (FULL) ahead of which 60 were done in this RUN (STEPS 11 aside, which do not count and do not fail so)");
    for (int more = 0; more <= 2; more++) {
      PairingHall x = kinds();
      for (int i = 0; i < 10; i++) x.step(0, 9, 0, 0, 0, 0);
      for (int i = 0; i < 6; i++) x.step(1, 11, 0, 0, 0, 0);
      for (int i = 0; i < more; i++) x.step(1, 9, 0, 0, 0, 0);
      due("60 and " + more, x.run(1), more == 0 ? 1 : FAILED);
      ranAs(x, "60 and " + more, more == 0 ? 0 : FULL, more == 0 ? NONE : 1, more == 0 ? NONE : 6, 60);
      due("the 61st was not done", x.told(3), 60);
      due("in each RUN anew", x.run(0), 1); ranAs(x, "in each RUN anew", 0, NONE, NONE, 10);
    }
    PairingHall y = kinds();
    for (int i = 0; i < 10; i++) y.step(0, 9, 0, 0, 0, 0);
    for (int i = 0; i < 6; i++) y.step(1, 11, 0, 0, 0, 0);
    y.step(3, 11, 1, 0, 0, 0);
    for (int i = 0; i < 9; i++) y.step(3, 11, 2, 0, 0, 0);
    due("STEPS 11 of no STEPS behind 60", y.run(3), 1); ranAs(y, "they do not count", 0, NONE, NONE, 60); due("they were begun", y.told(12), 9);
    y.empty(3); y.step(3, 11, 1, 0, 0, 0); y.step(3, 11, 3, 0, 0, 0);
    due("one of its own behind 60", y.run(3), FAILED); ranAs(y, "BAD, not FULL", BAD, 3, 1, 60);
    y.step(2, 9, 9, 0, 0, 0); y.empty(3); y.step(3, 11, 1, 0, 0, 0); y.step(3, 11, 2, 0, 0, 0);
    due("one that would be BAD behind 60", y.run(3), FAILED); ranAs(y, "FULL, not BAD", FULL, 2, 0, 60); due("begun all the same", y.told(12), 10);
  }

  private static void oneThatFailsEndsAll() {
    says("One that fails ends all PLANS that are on, and everything is as it was ahead of the RUN, but THE TRACE, SERIALS that were given, TRIES (how often a PLAN was begun, ever), what finding() and ran() tell");
    PairingHall x = kinds();
    x.step(0, 9, 0, 0, 0, 0); x.step(0, 9, 4, 0, 0, 0); x.step(0, 0, 0, 0, 0, 0);
    x.step(1, 3, 0, 0, 0, 0); x.step(1, 11, 0, 0, 0, 0); x.step(1, 0, 0, 0, 0, 0);
    x.step(2, 0, 0, 0, 0, 0); x.step(2, 11, 1, 0, 0, 0); x.step(2, 0, 0, 0, 0, 0);
    due("run", x.run(2), FAILED); ranAs(x, "in PLAN 0", FINDING, 0, 1, 3);
    due("nobody came", x.told(0), 5); due("no TOURNAMENT", x.told(1), 0); due("the SERIAL was given", x.told(2), 1);
    traced(x, "THE TRACE stays", 10); due("finding", x.finding(), UNLIKE);
    for (int k = 0; k < 4; k++) due("TRIES of " + k, x.told(10 + k), k < 3 ? 1 : 0);
    due("the STEPS stay", x.empty(0), 3); due("the STEPS stay", x.empty(1), 3); due("the STEPS stay", x.empty(2), 3);
    PairingHall y = new PairingHall();
    y.step(0, 9, 0, 0, 0, 0);
    due("the first of all fails", y.run(0), FAILED); ranAs(y, "the first of all fails", BAD, 0, 0, 0);
  }

  private static void fullHallAsItWas() {
    says("everything is as it was ahead of the RUN");
    PairingHall x = new PairingHall();
    for (int p = 0; p < 23; p++) x.player(p == 22 ? 3 : 0, 0);
    x.places(22, 4); x.seat(22, 0, 5); x.seat(22, 3, 6);
    x.tournament();
    for (int p = 13; p < 23; p++) if (p != 21) x.enter(0, p);
    x.rule(0, 1, 5); x.withdraw(0, 22);
    for (int r = 0; r < 5; r++) x.draw(0, r);
    for (int e = 0; e < 59; e++) x.tell(0, e % 5, e / 5 % 4, e % 3, 0, 0);
    x.copy(0); x.copy(0);
    x.could(0, 13, 0, 0);
    // a last PLAYER, a last TOURNAMENT, a last ROUND, a last ENTRY, other PLACES, one more WITHDRAWN
    int[][] steps = {{0, 0, 0, 0, 0}, {3, 0, 0, 0, 0}, {4, 3, 23, 0, 0}, {6, 0, 9, 0, 0}, {7, 0, 50, 2, 9}, {8, 0, 58, 9, 0}, {2, 22, 1, 23, 0}, {1, 22, 2, 0, 0}, {5, 0, 13, 0, 0}, {7, 0, 50, 2, 9}};
    for (int[] s : steps) x.step(0, s[0], s[1], s[2], s[3], s[4]);
    due("run", x.run(0), FAILED); ranAs(x, "a 61st ENTRY", FULL, 0, 9, 9);
    due("PLAYERS", x.told(0), 23); due("TOURNAMENTS", x.told(1), 3); due("ROUNDS", x.told(30), 5); due("ENTRIES", x.told(40), 59);
    due("as its copy", x.alike(0, 1), 1); due("as its copy", x.alike(2, 0), 1);
    int[] chairs = {5, NONE, NONE, 6};
    for (int i = 0; i < 4; i++) due("PLACE " + i, x.held(22, i), chairs[i]);
    due("not WITHDRAWN", x.withdraw(0, 13), 1); due("WITHDRAWN", x.withdraw(0, 22), NO);
    due("not TAKEN BACK", x.takeBack(0, 58, 9), 1); due("SERIALS", x.told(2), 4); due("its SERIAL", x.told(50), 1); due("that of a copy", x.told(52), 3);
    due("the last PLAYER", x.player(1, 1501), 23); due("is a new one", x.worth(23), 1500); due("the last TOURNAMENT", x.tournament(), 3); due("is a new one", x.enter(3, 23), 1); due("its SERIAL", x.told(53), 5);
  }

  // ---- Refusals

  private static void days() {
    says("A day is 0 or more; a number told to be a day that is below 0 is BAD");
    for (int day : new int[] {-1, MIN}) {
      PairingHall x = likeOnes(2);
      due("draw", x.draw(0, day), BAD); x.draw(0, 0);
      due("tell", x.tell(0, 0, 0, 2, day, 0), BAD); due("tell, known", x.tell(0, 0, 0, 2, 0, day), BAD); x.tell(0, 0, 0, 2, 0, 0);
      due("takeBack", x.takeBack(0, 0, day), BAD); due("counts", x.counts(0, 0, 0, day), BAD);
      due("points", x.points(0, 0, day, 0), BAD); due("points, known", x.points(0, 0, 0, day), BAD);
      for (int s = 1; s <= 5; s++) { due("sum", x.sum(0, 0, s, day, 0), BAD); due("sum, known", x.sum(0, 0, s, 0, day), BAD); }
      due("place", x.place(0, 0, day, 0), BAD); due("place, known", x.place(0, 0, 0, day), BAD);
      due("standing", x.standing(0, 0, day, 0), BAD); due("standing, known", x.standing(0, 0, 0, day), BAD);
      due("why", x.why(0, 0, 1, day, 0), BAD); due("why, known", x.why(0, 0, 1, 0, day), BAD);
      due("rated", x.rated(0, 0, 0, day), BAD); due("rated before ROUND 0", x.rated(0, 0, NONE, day), BAD); due("could", x.could(0, 0, 0, day), BAD);
      due("nothing was told", x.told(40), 1); due("nor taken back", x.counts(0, 0, 0, 0), 0);
      int[][] steps = {{6, 0, day, 0, 0}, {7, 0, 0, 2, day}, {8, 0, 0, day, 0}, {10, 0, 0, day, MIN}};
      for (int[] s : steps) { x.empty(0); x.step(0, s[0], s[1], s[2], s[3], s[4]); x.run(0); due("act " + s[0], x.ran(0), BAD); }
    }
    for (int day : new int[] {0, MAX}) {
      PairingHall x = likeOnes(2);
      due("draw", x.draw(0, day), 1); due("tell", x.tell(0, 0, 0, 2, day, day), 0); due("counts", x.counts(0, 0, 0, day), 0);
      due("points", x.points(0, 0, day, day), 2); due("sum", x.sum(0, 0, 3, day, day), 1); due("place", x.place(0, 1, day, day), 2);
      due("standing", x.standing(0, 0, day, day), 0); due("why", x.why(0, 0, 1, day, day), 1); due("rated", x.rated(0, 0, 0, day), 10);
      due("could", x.could(0, 1, 0, day), 0); due("takeBack", x.takeBack(0, 0, day), 1);
    }
  }

  public static void main(String[] args) {
    calls512();
    players24(); kindsAndBases(); juniorsAreMembers(); allButByesAreRated(); allButTeamsAreSolo(); placesOfATeam();
    trace200(); drawsBehindAFullTrace(); guests1500(); teamsByPlacesCut(); traceIsEmptied(); noOtherCallEmpties(); findingsByNumber(); firstFindingCounts();
    tournaments4(); in10(); rounds6(); entries60(); sums1to4(); serials();
    leastAndMostDrawn(); drawnAreNotWithdrawn(); leastCost(); firstOfLikeOnes(); orderOfPairs(); drawnByPointsOfItsDay(); withNobodyCosts();
    twoCostByPoints(); twoCostByWorths(); twoWhoWereAPair(); colourOfLikeWays(); balanceCosts(); colourThrice();
    outcomes0to6(); halves(); takenBackFromADayOn(); whichEntryCounts(); pointsOfTheDay(); pointsWithNobody(); sum1(); sum2(); sums3to5(); aheadByTheFirstThatParts();
    ratingsFarApart(); ratingsCutTowards0(); ratingsRounded(); ratingsWhereItCounts(); ratingsFromBeforeTheRound();
    plansAndSteps(); tellOfAStep(); needs(); stepsOfAnotherPlan(); noTraceIsEmptied(); stepsThatFail(); sixtySteps(); oneThatFailsEndsAll(); fullHallAsItWas();
    days();
    end();
  }
}
