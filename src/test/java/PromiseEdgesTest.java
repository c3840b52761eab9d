/**
 * The sentences of the promises that name a boundary which is no refusal: the two days of each question, what is OPEN,
 * what makes two TOURNAMENTS unlike, RATINGS that look like refusals, what a RUN that failed leaves behind.
 */
public final class PromiseEdgesTest extends Checks {

  // ---- 13, 15 draw, round

  private static void twoBrokenInOnePair() {
    says("round: 3 how many rules are BROKEN");
    PairingHall x = likeOnes(6);
    x.draw(0, 0); paired(x, "first", 0, 0, 0, 1, 2, 3, 4, 5);
    x.withdraw(0, 0); x.withdraw(0, 2);
    x.draw(0, 0); paired(x, "1, 3, 5 were black, 4 white", 0, 1, 1, 4, 3, 5); costs(x, "3-5", 0, 1, 40, 0);
    x.withdraw(0, 1);
    x.draw(0, 0); paired(x, "3-5 and 4-5 have met", 0, 2, 3, 4, 5, 99); costs(x, "3-4", 0, 2, 0, 0);
    x.withdraw(0, 3);
    x.draw(0, 0);
    // 4 and 5 have met, both were black twice just now; 5 has 2 POINTS of nobody
    paired(x, "two are left", 0, 3, 4, 5); costs(x, "two rules in one PAIR", 0, 3, 2 * 1000000 + 800 + 40, 2);
    for (int r = 0; r < 3; r++) due("those before stay", x.round(0, r, 3), 0);
  }

  private static void drawnByItsOwnRounds() {
    says("a BROKEN rule, if they were a PAIR in a ROUND before; BALANCE; the latest two of his PAIRS (all of this TOURNAMENT)");
    PairingHall x = likeOnes(10);
    x.copy(0);
    for (int r = 0; r < 6; r++) x.draw(0, 0);
    for (int r = 0; r < 6; r++) {
      x.draw(1, 0);
      for (int k = 0; k < 5; k++) for (int w = 0; w < 2; w++) due("ROUND " + r + ", pair " + k, x.pair(1, r, k, w), x.pair(0, r, k, w));
      due("cost of ROUND " + r, x.round(1, r, 2), x.round(0, r, 2));
    }
    due("alike", x.alike(0, 1), 1);
    PairingHall y = likeOnes(6);
    y.copy(0); y.draw(0, 0); y.draw(0, 0); y.draw(1, 0);
    paired(y, "as if the other one were not", 1, 0, 0, 1, 2, 3, 4, 5); costs(y, "as if the other one were not", 1, 0, 0, 0);
  }

  // ---- 19 to 23: each question on a DAY as known on another one

  private static void questionsOfBothDays() {
    says("points, place, standing, why: on a DAY as known on another one");
    PairingHall x = likeOnes(2);
    x.draw(0, 9); x.tell(0, 0, 0, 0, 5, 3);
    for (int day = 4; day <= 6; day++) {
      for (int known = 2; known <= 4; known++) {
        boolean counts = day >= 5 && known >= 3;
        String on = " on " + day + " as known on " + known;
        due("points" + on, x.points(0, 1, day, known), counts ? 2 : 0); due("place" + on, x.place(0, 0, day, known), counts ? 2 : 1);
        due("standing" + on, x.standing(0, 0, day, known), counts ? 1 : 0); due("the last" + on, x.standing(0, 1, day, known), counts ? 0 : 1);
        due("why" + on, x.why(0, 0, 1, day, known), counts ? 2 : 0); due("why, turned" + on, x.why(0, 1, 0, day, known), counts ? 1 : 0);
      }
    }
  }

  private static void withNobodyOfTheDay() {
    says("2 for each ROUND of the DAY or one before in which he was with nobody, whatever is known");
    PairingHall x = likeOnes(3);
    x.draw(0, 5);
    for (int day = 4; day <= 6; day++) {
      for (int known : new int[] {0, 4, 5, MAX}) {
        boolean counts = day >= 5;
        String on = " on " + day + " as known on " + known;
        due("points" + on, x.points(0, 2, day, known), counts ? 2 : 0); due("place" + on, x.place(0, 0, day, known), counts ? 2 : 1);
        due("standing" + on, x.standing(0, 0, day, known), counts ? 2 : 0); due("why" + on, x.why(0, 2, 0, day, known), counts ? 1 : 0);
      }
    }
    x.draw(0, 7);
    paired(x, "second", 0, 1, 2, 0, 1, 99);
    // 0 was with 1 and with 2; 2 has his 2 from day 5 on, 1 from day 7 on
    int[] want = {0, 2, 2, 4, 4};
    for (int day = 4; day <= 8; day++) for (int known : new int[] {0, 6, MAX}) due("SUM 1 on " + day, x.sum(0, 0, 1, day, known), want[day - 4]);
  }

  // ---- 24 rated

  private static void ratingsLikeRefusals() {
    says("rated: (It may be such a number, too.)");
    // the other one's BASE b: 500 - 5 b / 4 are due, and are lost 20 times
    int[][] rows = {{360, NONE}, {320, BAD}, {280, NO}, {240, FULL}, {200, FINDING}, {160, FAILED}};
    for (int[] row : rows) {
      PairingHall x = members(0, row[0]);
      x.draw(0, 0); x.draw(0, 0); x.tell(0, 0, 0, 0, 0, 0);
      due("lost to " + row[0], x.rated(0, 0, 0, 0), row[1]); due("lost to " + row[0] + ", the ROUND behind it", x.rated(0, 0, 1, 0), row[1]);
      traced(x, "it is gone on from there", 10, 10, 20, 20);
      due("the other one", x.rated(0, 1, 1, 0), row[0] - row[1]); due("nothing was met", x.finding(), 0);
    }
    PairingHall y = members(0, 320);
    y.draw(0, 0); y.draw(0, 0); y.tell(0, 0, 0, 0, 0, 0); y.tell(0, 1, 0, 1, 0, 0);
    // -2 and 322: D = -324: -405: 95 were due, 500 - 95 = 405: 8100
    due("from below 0", y.rated(0, 0, 1, 0), -2 + 8); due("to somebody below 0", y.rated(0, 1, 1, 0), 322 - 8);
  }

  // ---- 26, 27 could, found

  private static void openOfWhateverDay() {
    says("could: (What counts is taken as known then, of whatever DAY.)");
    for (int day : new int[] {0, 1, MAX}) {
      PairingHall x = likeOnes(2);
      x.draw(0, day); x.tell(0, 0, 0, 2, day, 0);
      due("who lost, day " + day, x.could(0, 1, 0, 0), 0); due("who won, day " + day, x.could(0, 0, 1, 0), 1); due("none was OPEN", x.found(0), NONE);
      PairingHall y = likeOnes(3);
      y.draw(0, day); y.tell(0, 0, 0, 1, day, 0);
      due("with nobody, day " + day, y.could(0, 2, 1, 0), 1); due("even, day " + day, y.could(0, 0, 0, 0), 0);
    }
    PairingHall z = likeOnes(2);
    z.draw(0, 0); z.tell(0, 0, 0, 2, 0, 7); z.takeBack(0, 0, 9);
    due("not yet known", z.could(0, 1, 1, 6), 1); due("so it is OPEN", z.found(0), 0);
    due("known", z.could(0, 1, 0, 7), 0); due("the last day", z.could(0, 1, 0, 8), 0); due("taken back", z.could(0, 1, 0, 9), 1);
  }

  private static void withNobodyIsNotOpen() {
    says("could: PAIRS (with somebody) of which nothing counts, or what is put off, as known on a day, are OPEN");
    PairingHall x = likeOnes(9);
    x.draw(0, 0);
    // four are OPEN; 8 has 2 POINTS of nobody and is alone in front only if all others are even
    due("four and one with nobody", x.could(0, 8, 1, 0), 1);
    for (int i = 0; i < 4; i++) due("all even, " + i, x.found(i), 1);
    due("no fifth", x.found(4), NONE);
    PairingHall y = members(3000, 0, 10);
    y.draw(0, 0);
    paired(y, "nobody ahead", 0, 0, 0, 99, 1, 2);
    due("with nobody is no OPEN one", y.could(0, 1, 0, 0), 1); due("1 has to win", y.found(0), 2); due("one is OPEN", y.found(1), NONE);
    due("he cannot be alone", y.could(0, 1, 1, 0), 0); due("what was found stays", y.found(0), 2);
    PairingHall z = likeOnes(3);
    for (int r = 0; r < 6; r++) {
      z.draw(0, 0);
      due("OPEN " + (r + 1) + ", as many with nobody", z.could(0, 0, 0, 0), r < 4 ? 1 : NO);
      if (r < 4) { due("the last", z.found(r) == NONE ? 0 : 1, 1); due("behind it", z.found(r + 1), NONE); }
    }
    z.tell(0, 5, z.pair(0, 5, 0, 1) == 99 ? 1 : 0, 6, 0, 0); due("five are", z.could(0, 0, 0, 0), NO);
    z.tell(0, 4, z.pair(0, 4, 0, 1) == 99 ? 1 : 0, 5, 0, 0); due("one of five is put off", z.could(0, 0, 0, 0), NO);
    z.tell(0, 4, z.pair(0, 4, 0, 1) == 99 ? 1 : 0, 1, 0, 0); due("four are", z.could(0, 0, 0, 0) == NO ? 0 : 1, 1);
  }

  private static void firstOrFirstAlone() {
    says("could: he would be first: nobody AHEAD of him, and, if it is asked alone (1), nobody alike");
    PairingHall one = likeOnes(1);
    due("one by himself", one.could(0, 0, 0, 0), 1); due("and alone", one.could(0, 0, 1, 0), 1);
    for (int first = 0; first < 2; first++) {
      PairingHall x = new PairingHall();
      x.player(0, 0); x.player(0, 0); x.tournament(); x.enter(0, first); x.enter(0, 1 - first);
      x.draw(0, 0); x.tell(0, 0, 0, 1, 0, 0);
      for (int p = 0; p < 2; p++) { due("alike", x.could(0, p, 0, 0), 1); due("alike, alone", x.could(0, p, 1, 0), 0); }
      x.rule(0, 4, 5);
      // black is AHEAD by SUM 5
      for (int alone = 0; alone < 2; alone++) { due("white, by a SUM", x.could(0, 0, alone, 0), 0); due("black, by a SUM", x.could(0, 1, alone, 0), 1); }
    }
    PairingHall gone = likeOnes(2);
    gone.draw(0, 0); gone.withdraw(0, 0); gone.withdraw(0, 1);
    due("who is WITHDRAWN could", gone.could(0, 0, 1, 0), 1); due("found", gone.found(0), 2); due("and the other one", gone.could(0, 1, 1, 0), 1); due("found", gone.found(0), 0);
  }

  // ---- 28 to 31: PLANS

  private static void numbersOfTheSteps() {
    says("0 player(a, b), 1 places(a, b), 2 seat(a, b, c), 3 tournament(), 4 enter(a, b), 5 withdraw(a, b), 6 draw(a, b), 7 tell(a, b / 10, b % 10, c, d, d), 8 takeBack(a, b, c), 9 worth(a)");
    PairingHall x = kinds();
    x.tournament();
    x.step(0, 0, 1, 1234, 2, 3000); x.step(0, 1, 3, 4, 2, 1); x.step(0, 2, 3, 1, 2, 0); x.step(0, 3, 9, 9, 9, 9);
    x.step(0, 4, 1, 2, 0, 0); x.step(0, 4, 1, 0, 2, 2); x.step(0, 4, 1, 5, 0, 0); x.step(0, 4, 1, 1, 0, 0);
    due("run", x.run(0), 1); ranAs(x, "eight", 0, NONE, NONE, 8);
    due("a GUEST of 1234", x.worth(5), 1234); traced(x, "a GUEST", 11);
    int[] chairs = {NONE, 2, NONE, NONE};
    for (int i = 0; i < 4; i++) due("PLACE " + i, x.held(3, i), chairs[i]);
    due("TOURNAMENTS", x.told(1), 2); due("IN 0", x.told(20), 0); due("IN 1", x.told(21), 4);
    // WORTHS 1000, 1500, 1225, 1234: 0-1 and 2-5 50 and 0, 0-2 and 1-5 22 and 26, 0-5 and 1-2 23 and 27
    x.step(1, 6, 1, 7, 0, 0); x.step(1, 7, 1, 1, 4, 8); x.step(1, 7, 1, 0, 0, 9); x.step(1, 8, 1, 0, 11, 13); x.step(1, 5, 1, 5, 0, 0); x.step(1, 9, 2, 0, 1, 3);
    due("run", x.run(1), 1); ranAs(x, "six", 0, NONE, NONE, 6);
    traced(x, "the draw, the WORTH", 10, 11, 12, 10, 11, 12, 10);
    paired(x, "drawn", 1, 0, 0, 2, 1, 5); due("its DAY", x.round(1, 0, 0), 7); due("not TOURNAMENT 0", x.told(30), 0);
    due("ENTRY 0 not yet", x.counts(1, 0, 1, 7), NONE); due("ENTRY 0", x.counts(1, 0, 1, 8), 0); due("up to", x.counts(1, 0, 1, 10), 0); due("TAKEN BACK", x.counts(1, 0, 1, 11), NONE);
    due("ENTRY 1", x.counts(1, 0, 0, 9), 1); due("ENTRY 1 not yet", x.counts(1, 0, 0, 8), NONE);
    due("4: black did not come", x.points(1, 1, 8, 10), 2); due("of the day d", x.points(1, 1, 7, 10), 0); due("0: black won", x.points(1, 2, 9, 9), 2);
    due("5 is WITHDRAWN", x.withdraw(1, 5), NO); due("0 is not", x.withdraw(1, 0), 1);
  }

  private static void begunAThousandTimes() {
    says("TRIES (how often a PLAN was begun, ever); STEPS 11, which do not count");
    PairingHall x = new PairingHall();
    for (int plan = 1; plan < 4; plan++) for (int i = 0; i < 10; i++) x.step(plan, 11, plan - 1, 0, 0, 0);
    due("run", x.run(3), 1); ranAs(x, "nothing was done", 0, NONE, NONE, 0);
    for (int plan = 0, tries = 1000; plan < 4; plan++, tries /= 10) due("TRIES of " + plan, x.told(10 + plan), tries);
    due("once more", x.run(3), 1);
    for (int plan = 0, tries = 2000; plan < 4; plan++, tries /= 10) due("TRIES of " + plan, x.told(10 + plan), tries);
    x.player(0, 0); x.step(0, 9, 0, 0, 0, 0);
    // sixty times PLAN 0, which has one STEP, and a 61st time: that is the first of the seventh PLAN 1
    due("one STEP in the last", x.run(3), FAILED); ranAs(x, "the 61st", FULL, 0, 0, 60);
    due("TRIES of 0", x.told(10), 2061); due("TRIES of 1", x.told(11), 207); due("TRIES of 2", x.told(12), 21); due("TRIES of 3", x.told(13), 3);
    due("numbers of the trace", x.told(3), 60);
  }

  private static void nothingIsLeftOfARunThatFailed() {
    says("One that fails ends all PLANS that are on, and everything is as it was ahead of the RUN");
    PairingHall x = likeOnes(4);
    for (int i = 0; i < 6; i++) x.step(0, 6, 0, 9, 0, 0);
    x.step(0, 6, 0, 9, 0, 0);
    due("a seventh ROUND", x.run(0), FAILED); ranAs(x, "a seventh ROUND", FULL, 0, 6, 6); due("none is there", x.told(30), 0);
    met(x, "none is there", x.pair(0, 0, 0, 0), NOBODY);
    // as if none had ever been drawn: no PAIR was before, no DAY is before it, nobody had a colour
    due("draw", x.draw(0, 0), 2); paired(x, "as the first", 0, 0, 0, 1, 2, 3); costs(x, "as the first", 0, 0, 0, 0);
    due("draw", x.draw(0, 0), 2); paired(x, "as the second", 0, 1, 3, 0, 1, 2); costs(x, "as the second", 0, 1, 0, 0);
    PairingHall y = likeOnes(2);
    y.draw(0, 0); y.tell(0, 0, 0, 1, 0, 0);
    y.step(0, 7, 0, 0, 2, 0); y.step(0, 8, 0, 0, 0, 0); y.step(0, 10, 0, 0, 0, 2); y.step(0, 10, 0, 0, 0, 3);
    due("SHORT", y.run(0), FAILED); ranAs(y, "SHORT", FINDING, 0, 3, 3);
    due("ENTRIES", y.told(40), 1); due("the first counts", y.counts(0, 0, 0, 0), 0); due("points", y.points(0, 0, 0, 0), 1);
    due("the next ENTRY", y.tell(0, 0, 0, 0, 0, 0), 1); due("is not TAKEN BACK", y.takeBack(0, 1, 0), 1); due("nor is the first", y.takeBack(0, 0, 0), 1);
    PairingHall z = kinds();
    z.step(0, 0, 3, 0, 0, 0); z.step(0, 1, 5, 2, 0, 0); z.step(0, 2, 5, 0, 0, 0); z.step(0, 1, 3, 1, 0, 0); z.step(0, 9, 9, 0, 0, 0);
    due("fails", z.run(0), FAILED); due("PLAYERS", z.told(0), 5); met(z, "no PLACES", z.held(3, 0), NOBODY);
    due("the next PLAYER", z.player(3, 0), 5); met(z, "has no PLACES", z.held(5, 0), NOBODY);
    due("what was found stays", z.found(0), NONE);
  }

  private static void foundStaysThroughRuns() {
    says("found: in the row that the latest could() that answered 1 found");
    PairingHall x = likeOnes(2);
    x.draw(0, 0); x.could(0, 0, 1, 0);
    x.step(0, 7, 0, 0, 0, 0); x.step(0, 9, 9, 0, 0, 0);
    due("fails", x.run(0), FAILED); due("found", x.found(0), 2);
    x.empty(0); x.step(0, 7, 0, 0, 0, 0);
    due("run", x.run(0), 1); due("found, though it is told now", x.found(0), 2);
    due("it could not", x.could(0, 0, 1, 0), 0); due("found", x.found(0), 2);
  }

  // ---- 32, 33 copy, alike

  private static void unlike(PairingHall x, String what, int t, int u) {
    due(what, x.alike(t, u), 0); due(what + ", the other way round", x.alike(u, t), 0);
  }

  private static void unlikePairs() {
    says("alike: the same WITHDRAWN, ROUNDS (DAYS, PAIRS, COST)");
    PairingHall x = likeOnes(4);
    x.copy(0);
    x.withdraw(0, 3); x.draw(0, 0); x.withdraw(0, 2); x.withdraw(1, 2); x.draw(1, 0); x.withdraw(1, 3);
    paired(x, "2 with nobody", 0, 0, 0, 1, 2, 99); paired(x, "3 with nobody", 1, 0, 0, 1, 3, 99);
    unlike(x, "who was with nobody alone", 0, 1);
    PairingHall y = likeOnes(4);
    y.copy(0);
    for (int p = 2; p < 4; p++) y.withdraw(0, p);
    y.draw(0, 0); y.draw(1, 0);
    for (int p = 2; p < 4; p++) y.withdraw(1, p);
    paired(y, "one PAIR", 0, 0, 0, 1); paired(y, "two PAIRS", 1, 0, 0, 1, 2, 3);
    unlike(y, "how many PAIRS alone", 0, 1);
    for (int last = 0; last < 6; last++) {
      PairingHall z = likeOnes(2);
      z.copy(0);
      for (int r = 0; r < 6; r++) { z.draw(0, r < last ? 0 : 1); z.draw(1, r <= last ? 0 : 1); }
      unlike(z, "the DAY of ROUND " + last + " alone", 0, 1);
    }
    PairingHall w = likeOnes(2);
    w.copy(0);
    for (int r = 0; r < 6; r++) { w.draw(0, 0); unlike(w, "one ROUND more", 0, 1); w.draw(1, 0); due("as many", w.alike(0, 1), 1); }
    w.withdraw(0, 1); unlike(w, "WITHDRAWN", 0, 1); w.withdraw(1, 0); unlike(w, "another one", 0, 1); w.withdraw(0, 0); w.withdraw(1, 1); due("the same", w.alike(0, 1), 1);
  }

  private static void unlikeEntries() {
    says("alike: ENTRIES (also as they were TAKEN BACK) and SUMS");
    int[] plain = {0, 0, 1, 3, 3};
    int[][] others = {{1, 0, 1, 3, 3}, {0, 1, 1, 3, 3}, {0, 0, 2, 3, 3}, {0, 0, 1, 4, 3}, {0, 0, 1, 3, 4}};
    for (int at : new int[] {0, 1, 59}) {
      for (int[] o : others) {
        PairingHall x = twoOfTwoRounds();
        for (int e = 0; e < 60; e++) { int[] n = e == at ? o : plain; x.tell(0, plain[0], plain[1], plain[2], plain[3], plain[4]); x.tell(1, n[0], n[1], n[2], n[3], n[4]); }
        unlike(x, "ENTRY " + at + " alone", 0, 1);
      }
      PairingHall y = twoOfTwoRounds();
      for (int e = 0; e < 60; e++) { y.tell(0, 0, 0, 1, 3, 3); y.tell(1, 0, 0, 1, 3, 3); }
      due("sixty", y.alike(0, 1), 1);
      y.takeBack(0, at, 8); unlike(y, "TAKEN BACK alone, " + at, 0, 1);
      y.takeBack(1, at, 8); due("both", y.alike(0, 1), 1);
      y.copy(0); y.copy(0); due("a copy", y.alike(2, 3), 1);
      int next = at == 0 ? 1 : at - 1;
      y.takeBack(2, next, 8); y.takeBack(3, next, 9); unlike(y, "from another day on", 2, 3);
    }
    PairingHall z = twoOfTwoRounds();
    z.tell(0, 0, 0, 1, 3, 3); unlike(z, "one ENTRY more", 0, 1);
    PairingHall w = likeOnes(2);
    w.copy(0);
    for (int i = 1; i <= 4; i++) { w.rule(0, i, 5); unlike(w, "SUM " + i, 0, 1); w.rule(1, i, 4); unlike(w, "SUM " + i, 0, 1); w.rule(1, i, 5); due("SUM " + i, w.alike(0, 1), 1); }
  }

  private static PairingHall twoOfTwoRounds() {
    PairingHall x = likeOnes(4);
    x.draw(0, 0); x.draw(0, 0); x.copy(0);
    return x;
  }

  public static void main(String[] args) {
    twoBrokenInOnePair(); drawnByItsOwnRounds();
    questionsOfBothDays(); withNobodyOfTheDay();
    ratingsLikeRefusals();
    openOfWhateverDay(); withNobodyIsNotOpen(); firstOrFirstAlone();
    numbersOfTheSteps(); begunAThousandTimes(); nothingIsLeftOfARunThatFailed(); foundStaysThroughRuns();
    unlikePairs(); unlikeEntries();
    end();
  }
}
