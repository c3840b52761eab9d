import java.lang.reflect.Modifier;

/** Each promise of the document by itself: ordinary numbers, the edges that it names, and wrong numbers. */
public final class PromisesTest extends Checks {
  private static void p1() {
    PairingHall x = new PairingHall();
    for (int i = 0; i <= 3; i++) due("told(" + i + ")", x.told(i), 0);
    due("finding", x.finding(), 0);
    due("ran 0", x.ran(0), 0); due("ran 1", x.ran(1), NONE); due("ran 2", x.ran(2), NONE); due("ran 3", x.ran(3), 0);
    due("trace", x.trace(0), NONE);
    due("found", x.found(0), NONE);
    due("worth", x.worth(0), BAD);
    due("enter", x.enter(0, 0), BAD);
    due("empty", x.empty(0), 0);
  }

  private static void p2() {
    PairingHall x = new PairingHall();
    due("kind below", x.player(-1, 0), BAD);
    due("kind above", x.player(5, 0), BAD);
    due("base below", x.player(0, -1), BAD);
    due("base above", x.player(0, 3001), BAD);
    due("extremes", x.player(MAX, MIN), BAD);
    for (int i = 0; i < 24; i++) due("player", x.player(i % 5, i % 2 == 0 ? 0 : 3000), i);
    due("one more", x.player(0, 0), FULL);
    due("bad ahead of full", x.player(5, 0), BAD);
    due("told", x.told(0), 24);
    due("worth of base 3000", x.worth(5), 3000);
  }

  private static void p3() {
    PairingHall x = kinds();
    due("no such player", x.places(5, 2), BAD);
    due("no such player below", x.places(-1, 2), BAD);
    due("above 4", x.places(3, 5), BAD);
    due("above 4 ahead of unlike", x.places(0, 5), BAD);
    due("refusals met nothing", x.finding(), 0);
    met(x, "a member", x.places(0, 2), UNLIKE);
    met(x, "below 0", x.places(3, -1), SIZE);
    met(x, "unlike ahead of size", x.places(4, -1), UNLIKE);
    met(x, "still none told", x.held(3, 0), NOBODY);
    due("four", x.places(3, 4), 4);
    x.seat(3, 0, 0); x.seat(3, 3, 1);
    due("told anew", x.places(3, 4), 4);
    for (int i = 0; i < 4; i++) due("empty", x.held(3, i), NONE);
    x.seat(3, 0, 0);
    met(x, "a refused one changes nothing", x.places(3, MIN), SIZE);
    due("held", x.held(3, 0), 0);
    due("none", x.places(3, 0), 0);
    met(x, "none", x.held(3, 0), BEYOND);
  }

  private static void p4() {
    PairingHall x = kinds();
    int team = x.player(3, 0);
    met(x, "no places told", x.seat(3, 9, 0), NOBODY);
    x.places(3, 2);
    due("no such team", x.seat(6, 0, 0), BAD);
    due("no such one", x.seat(3, 0, 6), BAD);
    due("no such one below NONE", x.seat(3, 0, -2), BAD);
    due("bad ahead of unlike", x.seat(0, 0, 6), BAD);
    due("no finding of it", x.finding(), NOBODY);
    met(x, "no team", x.seat(0, 0, 1), UNLIKE);
    met(x, "not solo", x.seat(3, 0, team), UNLIKE);
    met(x, "itself", x.seat(3, 0, 3), UNLIKE);
    met(x, "not solo ahead of nobody", x.seat(team, 0, 3), UNLIKE);
    met(x, "not solo ahead of beyond", x.seat(3, 2, 3), UNLIKE);
    met(x, "beyond", x.seat(3, 2, 0), BEYOND);
    met(x, "beyond below", x.seat(3, -1, NONE), BEYOND);
    met(x, "nobody ahead of beyond", x.seat(team, 7, 0), NOBODY);
    due("a bye is solo", x.seat(3, 0, 4), 1);
    due("a junior", x.seat(3, 1, 2), 1);
    due("held", x.held(3, 0), 4);
    due("nobody", x.seat(3, 0, NONE), 1);
    due("held", x.held(3, 0), NONE);
    due("held", x.held(3, 1), 2);
    PairingHall y = new PairingHall();
    for (int i = 0; i < 24; i++) y.player(i == 5 ? 0 : 3, 0);
    for (int i = 23; i >= 0; i--) if (i != 5) { y.places(i, 4); y.seat(i, 0, 5); y.seat(i, 3, 5); }
    for (int i = 0; i < 24; i++) if (i != 5) {
      due("first of " + i, y.held(i, 0), 5); due("second of " + i, y.held(i, 1), NONE); due("last of " + i, y.held(i, 3), 5);
    }
  }

  private static void p5() {
    PairingHall x = kinds();
    due("no such", x.held(5, 0), BAD);
    due("no such below", x.held(-1, 0), BAD);
    met(x, "no team", x.held(4, 0), UNLIKE);
    met(x, "no places", x.held(3, -1), NOBODY);
    x.places(3, 3);
    due("nobody", x.held(3, 2), NONE);
    met(x, "beyond", x.held(3, 3), BEYOND);
    met(x, "beyond below", x.held(3, -1), BEYOND);
    x.seat(3, 2, 1);
    due("held", x.held(3, 2), 1);
  }

  private static void p6() {
    PairingHall x = kinds();
    due("member", x.worth(0), 1000); traced(x, "member", 10);
    due("guest", x.worth(1), 1500); traced(x, "guest", 11);
    due("guest of 1499", x.worth(x.player(1, 1499)), 1499);
    due("junior", x.worth(2), 1225); traced(x, "junior", 12, 10);
    due("no such", x.worth(9), BAD); traced(x, "no such");
    x.worth(0);
    met(x, "bye", x.worth(4), UNLIKE); traced(x, "bye");
    met(x, "team without places", x.worth(3), NOBODY); traced(x, "team without places", 13);
    x.places(3, 0);
    met(x, "team of none", x.worth(3), SHARED); traced(x, "team of none", 13);
    x.places(3, 3);
    x.seat(3, 0, 2); x.seat(3, 2, 4);
    met(x, "a place is empty", x.worth(3), NOBODY); traced(x, "a place is empty", 13, 12, 10);
    x.seat(3, 1, 1);
    met(x, "a bye in it", x.worth(3), UNLIKE); traced(x, "a bye in it", 13, 12, 10, 11);
    x.seat(3, 2, 0);
    due("team", x.worth(3), (1225 + 1500 + 1000) / 3); traced(x, "team", 13, 12, 10, 11, 10);
    x.places(3, 4);
    for (int i = 0; i < 4; i++) x.seat(3, i, 2);
    PairingHall y = new PairingHall();
    y.player(3, 7); y.player(0, 0); y.player(0, 1); y.places(0, 2); y.seat(0, 0, 1); y.seat(0, 1, 2);
    due("a worth of 0 is no refusal", y.worth(1), 0); due("cut to 0", y.worth(0), 0); traced(y, "all of them", 13, 10, 10);
    due("one four times", x.worth(3), 1225); traced(x, "one four times", 13, 12, 10, 12, 10, 12, 10, 12, 10);
  }

  private static void p7() {
    PairingHall x = kinds();
    due("member", x.stepOf(0), 20); traced(x, "member", 20);
    due("guest", x.stepOf(1), 20); traced(x, "guest", 20);
    due("junior", x.stepOf(2), 40); traced(x, "junior", 22, 20);
    due("team", x.stepOf(3), 10); traced(x, "team", 23);
    met(x, "bye", x.stepOf(4), UNLIKE); traced(x, "bye");
    x.stepOf(0);
    due("no such", x.stepOf(5), BAD); traced(x, "no such");
    due("no such below", x.stepOf(-1), BAD);
  }

  private static void p8() {
    PairingHall x = kinds();
    x.worth(2);
    due("below", x.trace(-1), NONE);
    due("0", x.trace(0), 12); due("1", x.trace(1), 10); due("2", x.trace(2), NONE);
    due("far", x.trace(MAX), NONE); due("far below", x.trace(MIN), NONE);
    x.places(3, 4);
    for (int i = 0; i < 4; i++) x.seat(3, i, 2);
    // 9 numbers by each WORTH of the TEAM: 200 are full in the 23rd of 30
    for (int i = 0; i < 10; i++) x.step(0, 9, 3, 0, 0, 0);
    for (int i = 0; i < 3; i++) x.step(1, 11, 0, 0, 0, 0);
    due("run", x.run(1), 1);
    due("200 at most", x.told(3), 200);
    due("the last", x.trace(199), 12); due("behind it", x.trace(200), NONE);
    x.worth(0);
    traced(x, "emptied", 10);
    x.tournament(); x.enter(0, 0);
    traced(x, "others do not empty it", 10);
    x.mean(7); traced(x, "mean refused");
    x.worth(0); x.draw(7, 0); traced(x, "draw refused");
    x.worth(0); x.rated(7, 0, 0, 0); traced(x, "rated refused");
    x.worth(0); x.run(7); traced(x, "run refused");
    x.worth(0); x.run(3); traced(x, "run of nothing");
    x.worth(0); x.mean(0); traced(x, "mean", 10);
  }

  private static void p9() {
    PairingHall x = new PairingHall();
    for (int t = 0; t < 4; t++) {
      due("tournament", x.tournament(), t);
      due("serial", x.told(50 + t), t + 1);
      due("in", x.told(20 + t), 0);
    }
    due("full", x.tournament(), FULL);
    due("serial given latest", x.told(2), 4);
  }

  private static void p10() {
    PairingHall x = kinds();
    due("no tournament", x.enter(0, 0), BAD);
    x.tournament();
    due("no such", x.enter(0, 5), BAD); due("no such", x.enter(0, -1), BAD); due("no such", x.enter(-1, 0), BAD);
    due("first", x.enter(0, 3), 1);
    due("again", x.enter(0, 3), NO);
    met(x, "bye", x.enter(0, 4), UNLIKE);
    due("second", x.enter(0, 0), 2);
    x.withdraw(0, 0);
    due("withdrawn ones are in", x.enter(0, 0), NO);
    due("third", x.enter(0, 1), 3);
    for (int i = 0; i < 7; i++) due("more", x.enter(0, x.player(0, 1)), 4 + i);
    due("full", x.enter(0, 2), FULL);
    due("full ahead of unlike", x.enter(0, 4), FULL);
    due("no ahead of full", x.enter(0, 3), NO);
    PairingHall y = members(1, 2);
    int bye = y.player(4, 0), more = y.player(0, 0);
    y.draw(0, 0);
    due("drawn", y.enter(0, more), NO);
    due("drawn ahead of unlike", y.enter(0, bye), NO);
    due("in", y.told(20), 2);
  }

  private static void p11() {
    PairingHall x = members(1, 2, 3);
    int out = x.player(0, 4);
    due("no such", x.withdraw(1, 0), BAD); due("no such", x.withdraw(0, 4), BAD); due("no such", x.withdraw(0, -1), BAD);
    due("not in", x.withdraw(0, out), NO);
    due("withdraw", x.withdraw(0, 1), 1);
    due("again", x.withdraw(0, 1), NO);
    due("still in", x.told(20), 3);
    due("draw", x.draw(0, 0), 1);
    paired(x, "without him", 0, 0, 0, 2);
    due("his points", x.points(0, 1, 0, 0), 0);
  }

  private static void p12() {
    PairingHall x = members(1, 2);
    due("t", x.rule(1, 1, 1), BAD); due("i", x.rule(0, 0, 1), BAD); due("i", x.rule(0, 5, 1), BAD);
    due("what", x.rule(0, 1, 6), BAD); due("what", x.rule(0, 1, -1), BAD);
    for (int i = 1; i <= 4; i++) due("at first", x.rule(0, i, i + 1), 0);
    for (int i = 1; i <= 4; i++) due("what it was", x.rule(0, i, 0), i + 1);
    due("none", x.rule(0, 4, 5), 0);
  }

  private static void p13() {
    refusalsOfDraw();
    drawByWorths();
    drawByPoints();
    drawWithColours();
    drawOfLikeOnes();
    worthsOfDraw();
  }

  private static void refusalsOfDraw() {
    PairingHall x = members(1, 2);
    due("t", x.draw(1, 0), BAD); due("day", x.draw(0, -1), BAD); due("t", x.draw(-1, 0), BAD);
    due("draw", x.draw(0, 5), 1);
    due("before the latest", x.draw(0, 4), BAD);
    due("same day", x.draw(0, 5), 1);
    for (int i = 0; i < 4; i++) due("more", x.draw(0, 5 + i), 1);
    due("full", x.draw(0, 9), FULL);
    due("bad ahead of full", x.draw(0, 7), BAD);
    x.withdraw(0, 0);
    due("no ahead of full", x.draw(0, 9), NO);
    due("bad ahead of no", x.draw(0, 7), BAD);
    PairingHall y = kinds();
    y.tournament(); y.enter(0, 3);
    due("no ahead of finding", y.draw(0, 0), NO);
    y.enter(0, 0);
    met(y, "a worth", y.draw(0, 0), NOBODY);
    due("nothing drawn", y.told(30), 0);
  }

  private static void drawByWorths() {
    // 0-3 and 1-2 are near; whoever is left is with nobody for nothing
    PairingHall x = members(1000, 2000, 2009, 1011);
    due("draw", x.draw(0, 0), 2);
    paired(x, "near ones", 0, 0, 0, 3, 1, 2);
    due("cost", x.round(0, 0, 2), 1);
    due("broken", x.round(0, 0, 3), 0);
    PairingHall y = members(1000, 1500, 1504, 1009, 3000);
    due("draw", y.draw(0, 0), 3);
    paired(y, "odd", 0, 0, 0, 3, 1, 2, 4, 99);
    due("cost", y.round(0, 0, 2), 0);
  }

  private static void drawByPoints() {
    // ROUND 0: 0-1, 2-3 by WORTHS; whites win; the third DAY tells it, so ROUND 1 knows it only then
    PairingHall x = members(1000, 1000, 2000, 2000);
    x.draw(0, 0);
    paired(x, "first", 0, 0, 0, 1, 2, 3);
    x.tell(0, 0, 0, 2, 0, 3); x.tell(0, 0, 1, 2, 0, 3);
    x.copy(0);
    x.draw(0, 2);
    // not known: all have 0; 0 and 2 were white, so 0-2 and 1-3 cost 100 and 40 each, 0-3 and 1-2 only 100 each
    paired(x, "unknown", 0, 1, 3, 0, 1, 2);
    due("cost", x.round(0, 1, 2), 200);
    x.draw(1, 3);
    // known: 0-3 and 1-2 would cost 200 * 4 more each
    paired(x, "known", 1, 1, 0, 2, 1, 3);
    due("cost", x.round(1, 1, 2), 280);
    PairingHall y = members(1000, 1000, 1000);
    y.draw(0, 0);
    paired(y, "first", 0, 0, 0, 1, 2, 99);
    y.tell(0, 0, 0, 1, 0, 0);
    y.draw(0, 1);
    // POINTS 1, 1, 2: 0 or 1 with nobody (0), the other one with 2 (200): 0 is rather with 2 than with nobody
    paired(y, "second", 0, 1, 2, 0, 1, 99);
    due("cost", y.round(0, 1, 2), 200);
    y.draw(0, 2);
    // POINTS 1, 3, 2: 0 with nobody, 1-2 (200); 1 was black, 2 white
    paired(y, "third", 0, 2, 0, 99, 1, 2);
    due("cost", y.round(0, 2, 2), 200);
    due("broken", y.round(0, 2, 3), 0);
    y.draw(0, 3);
    // POINTS 3, 3, 2; each was with nobody and has met each: 2 broken rules; 2 with nobody is the cheapest: 0 and 0-1
    // 0 was white and black, 1 black and white
    paired(y, "fourth", 0, 3, 0, 1, 2, 99);
    due("cost", y.round(0, 3, 2), 2000000);
    due("broken", y.round(0, 3, 3), 2);
    PairingHall z = members(0, 0, 0);
    z.draw(0, 0);
    z.tell(0, 0, 0, 2, 0, 0);
    z.withdraw(0, 1);
    due("two are left", z.draw(0, 0), 1);
    due("cost", z.round(0, 1, 2), 0);
    paired(z, "0 was white", 0, 1, 2, 0);
    colourThrice();
  }

  /** Those who were black withdraw, so that the others have to be white again. */
  private static void colourThrice() {
    PairingHall x = members(1000, 1000, 1000, 1000, 1000, 1000);
    x.draw(0, 0);
    paired(x, "first", 0, 0, 0, 1, 2, 3, 4, 5);
    x.withdraw(0, 1); x.withdraw(0, 3); x.withdraw(0, 5);
    x.draw(0, 0);
    // 0, 2, 4 were white; 0-2 (40) and 4 with nobody (0)
    paired(x, "second", 0, 1, 0, 2, 4, 99);
    due("cost", x.round(0, 1, 2), 40);
    x.withdraw(0, 2);
    x.draw(0, 0);
    // 0 was white twice, 4 once (nobody is no colour): 4 is white for 40
    paired(x, "third", 0, 2, 4, 0);
    due("cost", x.round(0, 2, 2), 200 * 4 + 40);
    due("broken", x.round(0, 2, 3), 0);
    x.draw(0, 0);
    // 0: white, white, black; 4: white, white: met before, and 4 is black
    paired(x, "fourth", 0, 3, 0, 4);
    due("cost", x.round(0, 3, 2), 1000000 + 200 * 4 + 40);
    due("broken", x.round(0, 3, 3), 1);
    PairingHall y = members(1000, 1000, 1000, 1000);
    y.draw(0, 0);
    y.tell(0, 0, 0, 2, 0, 0); y.tell(0, 0, 1, 2, 0, 0);
    y.withdraw(0, 1); y.withdraw(0, 3);
    y.draw(0, 0); y.draw(0, 0); y.draw(0, 0);
    // both were white; 0 is so again (40); then 2 is white for nothing; then both have one more white than black
    paired(y, "second", 0, 1, 0, 2); paired(y, "third", 0, 2, 2, 0); paired(y, "fourth", 0, 3, 0, 2);
    due("cost", y.round(0, 1, 2), 40); due("cost", y.round(0, 2, 2), 1000000); due("cost", y.round(0, 3, 2), 1000040);
    PairingHall z = members(1000, 1000, 1000, 1000, 1000, 1000, 1000, 1000);
    z.draw(0, 0);
    for (int p = 1; p < 8; p += 2) z.withdraw(0, p);
    z.draw(0, 0);
    // 0, 2, 4, 6 were white: 0-2 and 4-6, 40 each; then 0 and 4 were white twice: 2 and 6 withdraw
    paired(z, "second", 0, 1, 0, 2, 4, 6);
    z.withdraw(0, 2); z.withdraw(0, 6);
    z.draw(0, 0);
    paired(z, "third", 0, 2, 0, 4);
    due("cost", z.round(0, 2, 2), 1000040);
    due("a colour thrice", z.round(0, 2, 3), 1);
  }

  private static void drawWithColours() {
    // two alone: 0 white, then black and so on, each time a broken rule for having met
    PairingHall x = members(1000, 1100);
    for (int r = 0; r < 6; r++) {
      x.draw(0, r);
      paired(x, "ROUND " + r, 0, r, r % 2 == 0 ? 0 : 1, r % 2 == 0 ? 1 : 0);
      due("cost of " + r, x.round(0, r, 2), 10 + (r == 0 ? 0 : 1000000));
      due("broken of " + r, x.round(0, r, 3), r == 0 ? 0 : 1);
      due("day of " + r, x.round(0, r, 0), r);
    }
  }

  private static void drawOfLikeOnes() {
    PairingHall x = new PairingHall();
    for (int i = 0; i < 11; i++) x.player(0, 7);
    x.tournament();
    // entered the other way round: the numbers alone say the order
    for (int p = 10; p >= 1; p--) x.enter(0, p);
    due("five", x.draw(0, 0), 5);
    paired(x, "least first", 0, 0, 1, 2, 3, 4, 5, 6, 7, 8, 9, 10);
    x.draw(0, 0);
    // one who was white with one who was black cost nothing, but for those who have met
    paired(x, "second", 0, 1, 4, 1, 2, 3, 8, 5, 6, 9, 10, 7);
    due("cost", x.round(0, 1, 2), 0);
    PairingHall y = members(5, 5, 5);
    y.draw(0, 0);
    paired(y, "nobody last", 0, 0, 0, 1, 2, 99);
  }

  private static void worthsOfDraw() {
    PairingHall x = kinds();
    x.tournament();
    x.enter(0, 3); x.enter(0, 2); x.enter(0, 1); x.enter(0, 0);
    x.places(3, 1); x.seat(3, 0, 2);
    x.withdraw(0, 1);
    due("draw", x.draw(0, 0), 2);
    traced(x, "by numbers, without the withdrawn", 10, 12, 10, 13, 12, 10);
    x.places(3, 2);
    met(x, "a place is empty", x.draw(0, 1), NOBODY);
    traced(x, "up to it", 10, 12, 10, 13);
    due("rounds", x.told(30), 1);
  }

  private static void p14() {
    PairingHall x = members(1, 2, 3);
    x.draw(0, 0);
    due("t", x.pair(1, 9, 9, 9), BAD);
    met(x, "r", x.pair(0, 6, 9, 9), BEYOND);
    met(x, "r below", x.pair(0, -1, 0, 0), BEYOND);
    met(x, "not drawn", x.pair(0, 1, 9, 9), NOBODY);
    met(x, "not drawn", x.pair(0, 5, 0, 0), NOBODY);
    met(x, "k", x.pair(0, 0, 2, 0), BEYOND);
    met(x, "not drawn", x.pair(0, 2, 0, 0), NOBODY);
    met(x, "k below", x.pair(0, 0, -1, 0), BEYOND);
    met(x, "not drawn", x.pair(0, 3, 0, 0), NOBODY);
    met(x, "what", x.pair(0, 0, 0, 2), BEYOND);
    met(x, "what below", x.pair(0, 0, 0, -1), BEYOND);
    paired(x, "pairs", 0, 0, 0, 1, 2, 99);
  }

  private static void p15() {
    PairingHall x = members(1, 200, 3);
    x.draw(0, 8);
    due("t", x.round(1, 0, 0), BAD); due("what", x.round(0, 0, 4), BAD); due("what", x.round(0, 0, -1), BAD);
    due("what ahead of beyond", x.round(0, 6, 4), BAD);
    met(x, "r", x.round(0, 6, 0), BEYOND);
    met(x, "not drawn", x.round(0, 1, 0), NOBODY);
    met(x, "r below", x.round(0, -1, 0), BEYOND);
    due("day", x.round(0, 0, 0), 8); due("pairs", x.round(0, 0, 1), 2);
    due("cost", x.round(0, 0, 2), 0); due("broken", x.round(0, 0, 3), 0);
    x.draw(0, 9); x.draw(0, 9);
    due("day", x.round(0, 1, 0), 9);
  }

  private static void p16() {
    PairingHall x = members(1, 2, 3);
    x.draw(0, 0);
    due("t", x.tell(1, 0, 0, 0, 0, 0), BAD); due("outcome", x.tell(0, 0, 0, 7, 0, 0), BAD); due("outcome", x.tell(0, 0, 0, -1, 0, 0), BAD);
    due("day", x.tell(0, 0, 0, 0, -1, 0), BAD); due("known", x.tell(0, 0, 0, 0, 0, -1), BAD);
    due("bad ahead of beyond", x.tell(0, 6, 0, 7, 0, 0), BAD);
    met(x, "r", x.tell(0, 6, 0, 0, 0, 0), BEYOND);
    met(x, "not drawn", x.tell(0, 1, 0, 0, 0, 0), NOBODY);
    met(x, "k", x.tell(0, 0, 2, 0, 0, 0), BEYOND);
    due("with nobody", x.tell(0, 0, 1, 0, 0, 0), NO);
    for (int i = 0; i < 60; i++) due("entry", x.tell(0, 0, 0, i % 7, i, MAX), i);
    due("full", x.tell(0, 0, 0, 0, 0, 0), FULL);
    due("no ahead of full", x.tell(0, 0, 1, 0, 0, 0), NO);
    met(x, "finding ahead of full", x.tell(0, 5, 0, 0, 0, 0), NOBODY);
    met(x, "finding ahead of no", x.tell(0, -1, 1, 0, 0, 0), BEYOND);
    due("bad ahead of full", x.tell(0, 0, 0, 9, 0, 0), BAD);
    due("entries", x.told(40), 60);
  }

  private static void p17() {
    PairingHall x = members(1, 2);
    x.draw(0, 0);
    x.tell(0, 0, 0, 2, 0, 4);
    due("t", x.takeBack(4, 0, 4), BAD); due("t", x.takeBack(-1, 0, 4), BAD);
    due("t", x.takeBack(1, 0, 4), BAD); due("entry", x.takeBack(0, 1, 4), BAD); due("entry", x.takeBack(0, -1, 4), BAD);
    due("day", x.takeBack(0, 0, -1), BAD); due("before known", x.takeBack(0, 0, 3), BAD);
    due("not yet", x.counts(0, 0, 0, 9), 0);
    due("taken back", x.takeBack(0, 0, 4), 1);
    due("never known", x.counts(0, 0, 0, 4), NONE);
    due("again", x.takeBack(0, 0, 5), NO);
    due("bad ahead of no", x.takeBack(0, 0, 3), BAD);
    x.tell(0, 0, 0, 2, 0, 0);
    due("later", x.takeBack(0, 1, 7), 1);
    due("known up to it", x.counts(0, 0, 0, 6), 1); due("not from it on", x.counts(0, 0, 0, 7), NONE);
  }

  private static void p18() {
    PairingHall x = members(1, 2, 3);
    x.draw(0, 0);
    due("t", x.counts(1, 0, 0, 0), BAD); due("day", x.counts(0, 0, 0, -1), BAD); due("day ahead of beyond", x.counts(0, 6, 0, -1), BAD);
    met(x, "r", x.counts(0, 6, 0, 0), BEYOND);
    met(x, "not drawn", x.counts(0, 1, 0, 0), NOBODY);
    met(x, "k", x.counts(0, 0, 2, 0), BEYOND);
    due("with nobody", x.counts(0, 0, 1, 0), NONE); due("nothing told", x.counts(0, 0, 0, MAX), NONE);
    x.tell(0, 0, 0, 0, 9, 5); x.tell(0, 0, 0, 1, 0, 3); x.tell(0, 0, 0, 2, 0, 5); x.tell(0, 0, 0, 6, 0, 4);
    due("on 2", x.counts(0, 0, 0, 2), NONE); due("on 3", x.counts(0, 0, 0, 3), 1);
    due("on 4", x.counts(0, 0, 0, 4), 3); due("on 5", x.counts(0, 0, 0, 5), 2);
    x.takeBack(0, 2, 8);
    due("on 7", x.counts(0, 0, 0, 7), 2); due("on 8", x.counts(0, 0, 0, 8), 0);
    x.takeBack(0, 0, 8);
    due("on 8", x.counts(0, 0, 0, 8), 3);
  }

  private static void p19() {
    int[] white = {0, 1, 2, 0, 2, 0, 0}, black = {2, 1, 0, 2, 0, 0, 0};
    for (int o = 0; o <= 6; o++) {
      PairingHall x = members(1, 2);
      x.draw(0, 0);
      x.tell(0, 0, 0, o, 0, 0);
      due("white of " + o, x.points(0, 0, 0, 0), white[o]); due("black of " + o, x.points(0, 1, 0, 0), black[o]);
    }
    PairingHall x = members(1, 2, 3);
    int out = x.player(0, 0);
    x.draw(0, 5);
    due("t", x.points(1, 0, 0, 0), BAD); due("p", x.points(0, 4, 0, 0), BAD); due("p", x.points(0, -1, 0, 0), BAD);
    due("day", x.points(0, 0, -1, 0), BAD); due("knowing", x.points(0, 0, 0, -1), BAD);
    due("not in", x.points(0, out, 0, 0), NO); due("bad ahead of no", x.points(0, out, -1, 0), BAD);
    due("nobody, before", x.points(0, 2, 4, 9), 0); due("nobody, on the day", x.points(0, 2, 5, 0), 2);
    x.tell(0, 0, 0, 2, 3, 7);
    due("of an earlier day than the round", x.points(0, 0, 3, 7), 2);
    due("before its day", x.points(0, 0, 2, 7), 0); due("not known", x.points(0, 0, 9, 6), 0);
    x.tell(0, 0, 0, 2, 8, 7);
    due("what counts is of a later day", x.points(0, 0, 7, 7), 0); due("on it", x.points(0, 0, 8, 7), 2);
  }

  /** 0-1 three times and each once with 2, with OUTCOMES of several sorts. */
  private static PairingHall league() {
    PairingHall x = members(1000, 1000, 1000, 1000);
    x.draw(0, 0);   // 0-1, 2-3
    x.draw(0, 1);   // 0 2: see below
    x.draw(0, 2);
    return x;
  }

  private static void p20() {
    PairingHall x = league();
    paired(x, "first", 0, 0, 0, 1, 2, 3);
    paired(x, "second", 0, 1, 3, 0, 1, 2);
    // 0: white, black; 3: black, white; 1: black, white; 2: white, black. 0-2 and 1-3 are left: all even
    paired(x, "third", 0, 2, 0, 2, 1, 3);
    x.tell(0, 0, 0, 2, 0, 0); x.tell(0, 0, 1, 1, 0, 0);   // 0 wins over 1, 2-3 even
    x.tell(0, 1, 0, 0, 1, 1); x.tell(0, 1, 1, 4, 1, 1);   // 0 wins over 3 as black, 1 has 2 for nothing
    x.tell(0, 2, 0, 0, 2, 2); x.tell(0, 2, 1, 3, 5, 2);   // 2 wins over 0, 3 has 2 for nothing on day 5
    // on day 2: 0: 4, 1: 2, 2: 3, 3: 1; on day 5: 3 has 3
    due("sum 1 of 0", x.sum(0, 0, 1, 2, 2), 2 + 1 + 3);
    due("sum 1 of 0, day 5", x.sum(0, 0, 1, 5, 5), 2 + 3 + 3);
    due("sum 1 of 0, not known", x.sum(0, 0, 1, 5, 0), 0 + 1 + 1);
    due("sum 2 of 0", x.sum(0, 0, 2, 2, 2), 2); due("sum 2 of 0, day 5", x.sum(0, 0, 2, 5, 5), 3);
    due("sum 2 of 3", x.sum(0, 3, 2, 2, 2), 3);
    due("sum 3 of 0", x.sum(0, 0, 3, 2, 2), 2); due("sum 3 of 0, day 0", x.sum(0, 0, 3, 0, 2), 1);
    due("sum 3 of 1: did not come", x.sum(0, 1, 3, 2, 2), 0); due("sum 3 of 2", x.sum(0, 2, 3, 2, 2), 1);
    due("sum 4 of 2: none has as many", x.sum(0, 2, 4, 2, 2), 0);
    due("sum 4 of 2, day 5: even with 3", x.sum(0, 2, 4, 5, 5), 1);
    due("sum 4 of 3, day 0", x.sum(0, 3, 4, 0, 0), 1); due("sum 4 of 0, day 0", x.sum(0, 0, 4, 0, 0), 0);
    due("sum 5 of 0", x.sum(0, 0, 5, 5, 5), 1); due("sum 5 of 2", x.sum(0, 2, 5, 5, 5), 1);
    due("sum 5 of 3: the other one did not come", x.sum(0, 3, 5, 5, 5), 1); due("sum 5 of 1", x.sum(0, 1, 5, 5, 5), 1);
    due("sum 5 of 1, not known", x.sum(0, 2, 5, 1, 1), 0);
    int out = x.player(0, 0);
    due("what", x.sum(0, 0, 0, 0, 0), BAD); due("what", x.sum(0, 0, 6, 0, 0), BAD); due("t", x.sum(1, 0, 1, 0, 0), BAD);
    due("p", x.sum(0, 5, 1, 0, 0), BAD); due("day", x.sum(0, 0, 1, -1, 0), BAD); due("knowing", x.sum(0, 0, 1, 0, -1), BAD);
    due("not in", x.sum(0, out, 1, 0, 0), NO); due("bad ahead of no", x.sum(0, out, 6, 0, 0), BAD);
    PairingHall y = members(1, 1, 1);
    y.draw(0, 0); y.draw(0, 0);
    due("with nobody is none", y.sum(0, 2, 1, 9, 9), 0);
    PairingHall z = members(1, 1);
    for (int i = 0; i < 3; i++) { z.draw(0, 0); z.tell(0, i, 0, 1, 0, 0); }
    due("once for each pair", z.sum(0, 0, 1, 0, 0), 9); due("the middle one", z.sum(0, 0, 2, 0, 0), 3);
    due("level ones", z.sum(0, 0, 4, 0, 0), 3); due("black", z.sum(0, 0, 5, 0, 0), 1); due("black", z.sum(0, 1, 5, 0, 0), 2);
    due("two are fewer than three", members2().sum(0, 0, 2, 0, 0), 0);
  }

  private static PairingHall members2() {
    PairingHall x = members(1, 1);
    for (int i = 0; i < 2; i++) { x.draw(0, 0); x.tell(0, i, 0, 1, 0, 0); }
    return x;
  }

  private static void p21() {
    PairingHall x = members(1, 1, 1, 1);
    int out = x.player(0, 0);
    due("all alike", x.place(0, 3, 0, 0), 1);
    x.draw(0, 0);
    x.tell(0, 0, 0, 2, 1, 2); x.tell(0, 0, 1, 1, 1, 2);
    due("first", x.place(0, 0, 1, 2), 1); due("second", x.place(0, 2, 1, 2), 2); due("second, too", x.place(0, 3, 1, 2), 2);
    due("last", x.place(0, 1, 1, 2), 4); due("not known", x.place(0, 1, 1, 1), 1); due("before", x.place(0, 1, 0, 2), 1);
    x.withdraw(0, 0);
    due("withdrawn ones stay", x.place(0, 1, 1, 2), 4);
    x.rule(0, 3, 5);
    due("the rule parts", x.place(0, 2, 1, 2), 3); due("the rule parts", x.place(0, 3, 1, 2), 2);
    due("t", x.place(1, 0, 0, 0), BAD); due("p", x.place(0, 5, 0, 0), BAD); due("day", x.place(0, 0, -1, 0), BAD);
    due("knowing", x.place(0, 0, 0, -1), BAD); due("not in", x.place(0, out, 0, 0), NO); due("bad ahead of no", x.place(0, out, 0, -1), BAD);
  }

  private static void p22() {
    PairingHall x = new PairingHall();
    for (int i = 0; i < 5; i++) x.player(0, 1);
    x.tournament();
    due("nobody", x.standing(0, 0, 0, 0), NONE);
    for (int p = 4; p >= 1; p--) x.enter(0, p);
    for (int k = 0; k < 4; k++) due("alike", x.standing(0, k, 0, 0), k + 1);
    x.draw(0, 0);
    x.tell(0, 0, 0, 0, 0, 0); x.tell(0, 0, 1, 1, 0, 0);
    int[] want = {2, 3, 4, 1};
    for (int k = 0; k < 4; k++) due("row", x.standing(0, k, 0, 0), want[k]);
    x.rule(0, 1, 5);
    int[] parted = {2, 4, 3, 1};
    for (int k = 0; k < 4; k++) due("parted row", x.standing(0, k, 0, 0), parted[k]);
    due("none such", x.standing(0, 4, 0, 0), NONE); due("none such", x.standing(0, -1, 0, 0), NONE);
    due("t", x.standing(1, 0, 0, 0), BAD); due("day", x.standing(0, 0, -1, 0), BAD); due("knowing", x.standing(0, 0, 0, -1), BAD);
    due("bad ahead of none", x.standing(0, 9, -1, 0), BAD);
  }

  private static void p23() {
    PairingHall x = members(1, 1, 1, 1);
    int out = x.player(0, 0);
    x.draw(0, 0);
    x.tell(0, 0, 0, 2, 0, 0); x.tell(0, 0, 1, 1, 0, 0);
    due("points, a", x.why(0, 0, 1, 0, 0), 1); due("points, b", x.why(0, 1, 0, 0, 0), 2);
    due("alike", x.why(0, 2, 3, 0, 0), 0); due("himself", x.why(0, 2, 2, 0, 0), 0);
    x.rule(0, 1, 1); x.rule(0, 2, 3); x.rule(0, 4, 5);
    due("sum 4, b", x.why(0, 2, 3, 0, 0), 42); due("sum 4, a", x.why(0, 3, 2, 0, 0), 41);
    x.rule(0, 2, 5);
    due("sum 2, b", x.why(0, 2, 3, 0, 0), 22);
    x.rule(0, 1, 5); x.rule(0, 2, 0);
    due("sum 1, a", x.why(0, 3, 2, 0, 0), 11); due("points first", x.why(0, 0, 3, 0, 0), 1);
    due("t", x.why(1, 0, 1, 0, 0), BAD); due("a", x.why(0, 5, 1, 0, 0), BAD); due("b", x.why(0, 0, 5, 0, 0), BAD);
    due("day", x.why(0, 0, 1, -1, 0), BAD); due("knowing", x.why(0, 0, 1, 0, -1), BAD);
    due("a not in", x.why(0, out, 0, 0, 0), NO); due("b not in", x.why(0, 0, out, 0, 0), NO); due("bad ahead of no", x.why(0, out, 5, 0, 0), BAD);
  }

  private static int ratedOnce(int base, int other, int outcome, int who) {
    PairingHall x = members(base, other);
    x.draw(0, 0);
    x.tell(0, 0, 0, outcome, 0, 0);
    return x.rated(0, who, 0, 0) - (who == 0 ? base : other);
  }

  private static void p24() {
    due("even and like", ratedOnce(1000, 1000, 1, 0), 0); due("won", ratedOnce(1000, 1000, 2, 0), 10); due("lost", ratedOnce(1000, 1000, 2, 1), -10);
    // D = 20: 25 are due more: 20 * 475 = 9500, to the even one of 9 and 10; 20 * -525 = -10500
    due("half, up", ratedOnce(1020, 1000, 2, 0), 10); due("half, of the other one", ratedOnce(1020, 1000, 2, 1), -10);
    due("half, below 0", ratedOnce(1020, 1000, 0, 0), -10); due("half, won", ratedOnce(1020, 1000, 0, 1), 10);
    // D = 60: 75 more: 20 * 425 = 8500 is 8; the other one loses 8500, too
    due("half, to the lesser", ratedOnce(1060, 1000, 2, 0), 8); due("half, of the other one", ratedOnce(1060, 1000, 2, 1), -8);
    // D = 2: 2 (of 2.5) more: 20 * -2 = -40; D = 21: 26 (of 26.25): 20 * 474 = 9480 is 9, not 9475
    due("cut", ratedOnce(1021, 1000, 2, 0), 9);
    // D = 399: 498 (of 498.75): 20 * 2 = 40: 0; D = 400 and more: nothing to win, 20 to lose
    due("400", ratedOnce(1400, 1000, 2, 0), 0); due("beyond 400", ratedOnce(2999, 1000, 2, 0), 0);
    due("lost by 400", ratedOnce(2999, 1000, 0, 0), -20); due("won by 400", ratedOnce(2999, 1000, 0, 1), 20);
    due("even, far", ratedOnce(2999, 1000, 1, 0), -10);
    for (int o = 3; o <= 6; o++) due("outcome " + o, ratedOnce(1000, 1000, o, 0), 0);
    due("below 0", ratedBelow(), -10);
    ratedWithSteps();
    refusalsOfRated();
  }

  private static int ratedBelow() {
    PairingHall x = members(0, 0);
    x.draw(0, 0);
    x.tell(0, 0, 0, 0, 0, 0);
    return x.rated(0, 0, 0, 0);
  }

  private static void ratedWithSteps() {
    PairingHall x = kinds();
    x.places(3, 1); x.seat(3, 0, 0);
    x.tournament();
    x.enter(0, 3); x.enter(0, 2); x.enter(0, 1); x.enter(0, 0);
    x.draw(0, 0);
    // WORTHS 1000, 1500, 1225, 1000: 0-3 and 1-2
    paired(x, "first", 0, 0, 0, 3, 1, 2);
    x.tell(0, 0, 0, 2, 7, 2); x.tell(0, 0, 1, 1, 7, 3);
    due("before", x.rated(0, 2, NONE, 9), 1225); traced(x, "worths", 10, 11, 12, 10, 13, 10);
    due("0", x.rated(0, 0, 0, 9), 1010); traced(x, "steps", 10, 11, 12, 10, 13, 10, 20, 23, 20, 22, 20);
    due("team", x.rated(0, 3, 0, 9), 995);
    // D = 275: 343 (of 343.75): 20 * -343 = -6860; 40 * 343 = 13720
    due("1", x.rated(0, 1, 0, 9), 1493); due("2", x.rated(0, 2, 0, 9), 1239);
    due("not known", x.rated(0, 2, 0, 2), 1225); traced(x, "what counts alone", 10, 11, 12, 10, 13, 10, 20, 23);
    met(x, "not drawn", x.rated(0, 0, 1, 2), NOBODY); traced(x, "steps ahead of it", 10, 11, 12, 10, 13, 10, 20, 23);
    x.draw(0, 1);
    x.tell(0, 1, 0, 5, 1, 1);
    due("nothing in it", x.rated(0, 0, 1, 9), 1010);
    x.withdraw(0, 1);
    x.places(3, 0);
    met(x, "a worth", x.rated(0, 0, 0, 9), SHARED); traced(x, "up to it", 10, 11, 12, 10, 13);
    PairingHall y = members(1000, 1000);
    y.draw(0, 0); y.draw(0, 0);
    y.tell(0, 0, 0, 2, 0, 0); y.tell(0, 1, 0, 2, 0, 0);
    // 1010, 990; then 1 is white and wins: D = -20 for him: 20 * (1000 - 475) = 10500, to 10
    due("from before that round", y.rated(0, 0, 1, 0), 1000); due("other one", y.rated(0, 1, 1, 0), 1000);
    due("between", y.rated(0, 0, 0, 0), 1010);
  }

  private static void refusalsOfRated() {
    PairingHall x = members(1, 1);
    int out = x.player(0, 0);
    due("t", x.rated(1, 0, 0, 0), BAD); due("p", x.rated(0, 3, 0, 0), BAD); due("r", x.rated(0, 0, 6, 0), BAD); due("r", x.rated(0, 0, -2, 0), BAD);
    due("day", x.rated(0, 0, 0, -1), BAD); due("not in", x.rated(0, out, 0, 0), NO); due("bad ahead of no", x.rated(0, out, 6, 0), BAD);
    due("no finding", x.finding(), 0);
    due("no ahead of finding", x.rated(0, out, 5, 0), NO);
    met(x, "not drawn", x.rated(0, 0, 0, 0), NOBODY); traced(x, "worths first", 10, 10);
  }

  private static void p25() {
    PairingHall x = kinds();
    due("t", x.mean(0), BAD);
    x.tournament();
    met(x, "by nought", x.mean(0), SHARED);
    x.enter(0, 2); x.enter(0, 1); x.enter(0, 0);
    x.withdraw(0, 0);
    due("mean", x.mean(0), (1225 + 1500 + 1000) / 3); traced(x, "by numbers", 10, 11, 12, 10);
    due("cut", members(1, 2).mean(0), 1);
    x.enter(0, 3);
    met(x, "of a worth", x.mean(0), NOBODY); traced(x, "up to it", 10, 11, 12, 10, 13);
    due("t below", x.mean(-1), BAD); traced(x, "refused");
  }

  private static void p26() {
    PairingHall x = members(1, 1, 1, 1);
    int out = x.player(0, 0);
    due("nothing open, all alike", x.could(0, 0, 0, 0), 1); due("nothing open, alone", x.could(0, 0, 1, 0), 0);
    due("t", x.could(1, 0, 0, 0), BAD); due("p", x.could(0, 5, 0, 0), BAD); due("alone", x.could(0, 0, 2, 0), BAD);
    due("alone", x.could(0, 0, -1, 0), BAD); due("day", x.could(0, 0, 0, -1), BAD);
    due("not in", x.could(0, out, 0, 0), NO); due("bad ahead of no", x.could(0, out, 2, 0), BAD);
    x.draw(0, 0); x.draw(0, 50);
    due("four are open", x.could(0, 3, 1, 0), 1);
    x.draw(0, 50);
    due("six are open", x.could(0, 0, 0, 0), NO);
    x.tell(0, 0, 0, 0, 90, 2); x.tell(0, 0, 1, 6, 90, 2);
    due("on 1", x.could(0, 0, 0, 1), NO);
    due("on 2", x.could(0, 0, 0, 2), 1);
    x.tell(0, 0, 0, 5, 0, 3);
    due("put off is open", x.could(0, 0, 0, 3), NO);
    PairingHall y = members(1, 1, 1);
    y.draw(0, 40);
    y.tell(0, 0, 0, 1, 60, 0);
    due("with nobody, of whatever day", y.could(0, 2, 1, 0), 1); due("not he", y.could(0, 0, 0, 0), 0);
    PairingHall z = members(1, 1);
    z.draw(0, 0);
    z.rule(0, 1, 5);
    due("even, black is ahead", z.could(0, 1, 1, 0), 1); due("white wins", z.could(0, 0, 1, 0), 1);
    z.tell(0, 0, 0, 1, 0, 0);
    due("told even", z.could(0, 0, 0, 0), 0); due("told even, black", z.could(0, 1, 0, 0), 1);
  }

  private static void p27() {
    PairingHall x = members(1, 1, 1, 1);
    x.draw(0, 0); x.draw(0, 1);
    paired(x, "second", 0, 1, 3, 0, 1, 2);
    due("before any", x.found(0), NONE);
    due("could", x.could(0, 0, 1, 9), 1);
    // first in order with 0 alone in front: 0-1 even (1), 2-3: 0 (3 has 2), 3-0: 0 (0 has 3, 3 has 2), 1-2: 0
    // with 0-1 lost (0): 0 has 2 at most, 1 has 2: not alone
    int[] want = {1, 0, 0, 0};
    for (int i = 0; i < 4; i++) due("found " + i, x.found(i), want[i]);
    due("none such", x.found(4), NONE); due("none such", x.found(-1), NONE);
    x.tell(0, 0, 0, 0, 0, 0); x.tell(0, 0, 1, 6, 0, 0); x.tell(0, 1, 0, 6, 0, 0);
    due("it could not", x.could(0, 0, 0, 9), 0);
    due("what was found stays", x.found(0), 1);
    due("refused", x.could(0, 0, 2, 9), BAD);
    due("what was found stays", x.found(3), 0);
    due("could", x.could(0, 1, 1, 9), 1);
    // 1 has 2 and meets 2, who has none: if he loses, they are alike
    due("found", x.found(0), 1); due("one alone is open", x.found(1), NONE);
    due("not alone", x.could(0, 1, 0, 9), 1);
    due("found", x.found(0), 0);
    x.tell(0, 1, 1, 2, 0, 0);
    due("nothing is open", x.could(0, 1, 1, 9), 1);
    due("a row of none", x.found(0), NONE);
  }

  private static void p28() {
    PairingHall x = new PairingHall();
    due("plan", x.step(4, 0, 0, 0, 0, 0), BAD); due("plan", x.step(-1, 0, 0, 0, 0, 0), BAD);
    due("act", x.step(0, 12, 0, 0, 0, 0), BAD); due("act", x.step(0, -1, 0, 0, 0, 0), BAD);
    for (int i = 1; i <= 10; i++) due("step", x.step(3, i + 1, MIN, MAX, MIN, MAX), i);
    due("full", x.step(3, 0, 0, 0, 0, 0), FULL); due("bad ahead of full", x.step(3, 12, 0, 0, 0, 0), BAD);
    due("another one", x.step(0, 0, 1, 1, 0, 0), 1);
    due("it is done only by run", x.told(0), 0);
  }

  private static void p29() {
    PairingHall x = new PairingHall();
    due("plan", x.empty(4), BAD); due("plan", x.empty(-1), BAD);
    x.step(1, 0, 0, 0, 0, 0); x.step(1, 0, 0, 0, 0, 0); x.step(2, 0, 0, 0, 0, 0);
    due("two", x.empty(1), 2); due("none", x.empty(1), 0); due("run of none", x.run(1), 1); due("nobody", x.told(0), 0);
    due("other one stays", x.empty(2), 1);
    for (int i = 0; i < 10; i++) x.step(0, 3, 0, 0, 0, 0);
    x.empty(0);
    due("there is room", x.step(0, 3, 0, 0, 0, 0), 1);
  }

  private static void p30() {
    runOfAllActs();
    runThatFails();
    runsOfSixty();
    needs();
    PairingHall x = new PairingHall();
    due("plan", x.run(4), BAD); due("plan", x.run(-1), BAD); due("plan", x.run(MAX), BAD);
  }

  private static void runOfAllActs() {
    PairingHall x = new PairingHall();
    x.step(0, 0, 0, 1000, 0, 0); x.step(0, 0, 2, 1000, 0, 0); x.step(0, 0, 3, 0, 0, 0);
    x.step(0, 1, 2, 1, 0, 0); x.step(0, 2, 2, 0, 1, 0); x.step(0, 3, 0, 0, 0, 0);
    x.step(0, 4, 0, 0, 0, 0); x.step(0, 4, 0, 1, 0, 0); x.step(0, 4, 0, 2, 0, 0); x.step(0, 5, 0, 0, 0, 0);
    x.step(1, 11, 0, 0, 0, 0); x.step(1, 6, 0, 3, 0, 0); x.step(1, 7, 0, 0, 2, 4); x.step(1, 9, 2, 0, 0, 0);
    x.step(1, 10, 0, 1, 4, 2); x.step(1, 8, 0, 0, 6, 0);
    x.worth(0);
    due("run", x.run(1), 1);
    // draw: 1 and 2; then the WORTH of 2
    traced(x, "run", 12, 10, 13, 12, 10, 13, 12, 10);
    due("steps", x.ran(3), 15); due("none failed", x.ran(0), 0); due("plan", x.ran(1), NONE); due("place", x.ran(2), NONE);
    due("players", x.told(0), 3); due("held", x.held(2, 0), 1); due("in", x.told(20), 3); due("rounds", x.told(30), 1);
    paired(x, "pair", 0, 0, 1, 2);
    due("day", x.round(0, 0, 0), 3); due("entries", x.told(40), 1);
    due("not yet known", x.counts(0, 0, 0, 3), NONE); due("known", x.counts(0, 0, 0, 5), 0); due("taken back", x.counts(0, 0, 0, 6), NONE);
    due("before its day", x.points(0, 1, 3, 5), 0); due("its day", x.points(0, 1, 4, 5), 2);
    due("tries", x.told(10), 1); due("tries", x.told(11), 1);
  }

  private static void runThatFails() {
    PairingHall x = members(1000, 1000, 1000, 1000);
    x.player(3, 0); x.places(4, 2); x.seat(4, 0, 1);
    x.draw(0, 0); x.tell(0, 0, 0, 2, 0, 0);
    x.copy(0);
    x.step(0, 0, 0, 5, 0, 0); x.step(0, 2, 4, 1, 2, 0); x.step(0, 1, 4, 1, 0, 0); x.step(0, 5, 0, 3, 0, 0);
    x.step(0, 7, 0, 1, 1, 0); x.step(0, 8, 0, 0, 0, 0); x.step(0, 6, 0, 0, 0, 0); x.step(0, 3, 0, 0, 0, 0);
    x.step(0, 9, 0, 0, 0, 0); x.step(0, 9, 4, 0, 0, 0);
    due("run", x.run(0), FAILED);
    due("answer", x.ran(0), FINDING); due("plan", x.ran(1), 0); due("place", x.ran(2), 9); due("done", x.ran(3), 9);
    due("finding", x.finding(), NOBODY);
    traced(x, "the trace stays", 10, 10, 10, 10, 13);
    due("players", x.told(0), 5); due("places", x.held(4, 0), 1); due("places", x.held(4, 1), NONE);
    due("tournament as it was", x.alike(0, 1), 1); due("rounds", x.told(30), 1); due("entries", x.told(40), 1);
    due("tournaments", x.told(1), 2); due("serial", x.told(2), 3); due("serials", x.told(50), 1); due("serials", x.told(51), 2);
    due("not withdrawn", x.withdraw(0, 3), 1);
    due("not taken back", x.counts(0, 0, 0, 9), 0);
    due("tries", x.told(10), 1);
    due("a new one", x.tournament(), 2); due("its serial", x.told(52), 4); due("it is new", x.told(22), 0); due("drawn none", x.told(32), 0);
    runThatFailsInAFullHall();
    // a TOURNAMENT that a failed RUN filled is not seen in the next one of its number
    PairingHall y = members(1);
    y.step(0, 3, 0, 0, 0, 0); y.step(0, 4, 1, 0, 0, 0); y.step(0, 9, 7, 0, 0, 0);
    due("fails", y.run(0), FAILED); due("bad", y.ran(0), BAD); due("place", y.ran(2), 2);
    y.tournament();
    due("nobody is in", y.told(21), 0); due("he may", y.enter(1, 0), 1);
    PairingHall z = members(1, 1);
    z.step(0, 3, 0, 0, 0, 0); z.step(0, 4, 1, 1, 0, 0); z.step(0, 4, 1, 0, 0, 0); z.step(0, 6, 1, 5, 0, 0);
    z.step(0, 7, 1, 0, 2, 5); z.step(0, 10, 1, 1, 5, 0); z.step(0, 10, 1, 0, 5, 3);
    due("fails", z.run(0), FAILED); due("done", z.ran(3), 6); due("finding", z.finding(), SHORT);
    z.tournament();
    due("no rounds", z.told(31), 0); due("no entries", z.told(41), 0); due("enter", z.enter(1, 0), 1); z.enter(1, 1);
    due("no day is before it", z.draw(1, 0), 1); due("nothing counts", z.counts(1, 0, 0, 9), NONE);
  }

  private static void runThatFailsInAFullHall() {
    PairingHall x = members(1, 2, 3);
    x.rule(0, 1, 2); x.rule(0, 4, 3);
    x.copy(0); x.copy(0); x.copy(0);
    for (int t = 0; t < 4; t++) { x.step(0, 6, t, 0, 0, 0); x.step(0, 5, t, t % 3, 0, 0); }
    x.step(0, 3, 0, 0, 0, 0);
    due("run", x.run(0), FAILED); due("full", x.ran(0), FULL); due("place", x.ran(2), 8);
    for (int t = 0; t < 4; t++) { due("rounds of " + t, x.told(30 + t), 0); due("alike", x.alike(t, 0), 1); }
    for (int t = 0; t < 4; t++) due("not withdrawn", x.withdraw(t, t % 3), 1);
    due("no serial was given", x.told(2), 4); due("sums stay", x.rule(3, 4, 0), 3); due("sums stay", x.rule(0, 1, 0), 2);
  }

  private static void runsOfSixty() {
    PairingHall x = members(1, 1);
    for (int i = 0; i < 10; i++) x.step(0, 9, 0, 0, 0, 0);
    for (int i = 0; i < 6; i++) x.step(1, 11, 0, 0, 0, 0);
    due("sixty", x.run(1), 1); due("done", x.ran(3), 60); due("tries", x.told(10), 6);
    x.empty(2);
    x.step(2, 11, 1, 0, 0, 0); x.step(2, 11, 3, 0, 0, 0);
    due("a step 11 behind sixty", x.run(2), FAILED); due("bad, not full", x.ran(0), BAD);
    due("its plan", x.ran(1), 2); due("its place", x.ran(2), 1); due("done", x.ran(3), 60); due("begun not", x.told(13), 0);
    x.step(3, 11, 1, 0, 0, 0); x.step(3, 11, 0, 0, 0, 0);
    due("one more", x.run(3), FAILED); due("full", x.ran(0), FULL); due("plan", x.ran(1), 0); due("place", x.ran(2), 0); due("done", x.ran(3), 60);
    due("tries of 0", x.told(10), 6 + 6 + 7); due("tries of 3", x.told(13), 1);
    x.empty(0);
    due("empty plans do not count", x.run(3), 1); due("done", x.ran(3), 0);
    x.empty(1);
    x.step(1, 11, 1, 0, 0, 0);
    due("its own", x.run(1), FAILED); due("bad", x.ran(0), BAD); due("plan", x.ran(1), 1); due("place", x.ran(2), 0);
    x.empty(1); x.step(1, 11, -1, 0, 0, 0);
    due("below 0", x.run(1), FAILED); due("bad", x.ran(0), BAD);
    x.empty(1); x.step(1, 11, 2, 0, 0, 0);
    due("above", x.run(1), FAILED); due("bad", x.ran(0), BAD);
  }

  private static void needs() {
    PairingHall x = members(1, 1);
    int out = x.player(0, 0);
    x.draw(0, 0);
    x.tell(0, 0, 0, 2, 0, 0);
    int[][] steps = {{0, 0, 0, 2, 1}, {0, 0, 0, 3, FINDING}, {0, 1, 0, MIN, 1}, {0, 1, 0, 1, FINDING},
        {1, 0, 0, -9, BAD}, {0, 3, 0, -9, BAD}, {0, 0, -1, -9, BAD}, {0, out, 0, -9, NO}};
    for (int[] s : steps) {
      x.empty(0);
      x.step(0, 10, s[0], s[1], s[2], s[3]);
      due("need", x.run(0), s[4] == 1 ? 1 : FAILED);
      due("its answer", x.ran(0), s[4] == 1 ? 0 : s[4]);
      if (s[4] == FINDING) due("finding", x.finding(), SHORT);
    }
    int[][] tells = {{-1, FINDING, BEYOND}, {-10, FINDING, BEYOND}, {5, FINDING, BEYOND}, {10, FINDING, NOBODY}, {60, FINDING, BEYOND}, {0, 0, 0}};
    for (int[] s : tells) {
      x.empty(0);
      x.step(0, 7, 0, s[0], 1, 0);
      x.run(0);
      due("tell " + s[0], x.ran(0), s[1]);
      if (s[1] == FINDING) due("tell " + s[0] + " finding", x.finding(), s[2]);
    }
  }

  private static void p31() {
    PairingHall x = members(1, 1);
    due("what", x.ran(4), BAD); due("what", x.ran(-1), BAD);
    x.step(0, 9, 0, 0, 0, 0); x.step(0, 5, 0, 0, 0, 0); x.step(0, 5, 0, 0, 0, 0);
    x.step(1, 9, 0, 0, 0, 0); x.step(1, 11, 0, 0, 0, 0);
    due("run", x.run(1), FAILED);
    due("answer", x.ran(0), NO); due("plan", x.ran(1), 0); due("place", x.ran(2), 2); due("done", x.ran(3), 3);
    due("refused", x.run(9), BAD);
    due("answer stays", x.ran(0), NO); due("done stays", x.ran(3), 3);
    x.empty(0);
    due("run", x.run(1), 1);
    due("answer", x.ran(0), 0); due("plan", x.ran(1), NONE); due("place", x.ran(2), NONE); due("done", x.ran(3), 1);
  }

  private static void p32() {
    PairingHall x = members(1000, 1100, 1200);
    x.rule(0, 2, 4);
    x.draw(0, 3); x.tell(0, 0, 0, 2, 3, 3); x.tell(0, 0, 0, 1, 3, 3); x.takeBack(0, 1, 5); x.withdraw(0, 2);
    due("t", x.copy(1), BAD); due("t", x.copy(-1), BAD);
    due("copy", x.copy(0), 1);
    due("serial", x.told(51), 2); due("given", x.told(2), 2);
    due("alike", x.alike(0, 1), 1);
    due("withdrawn, too", x.withdraw(1, 2), NO);
    due("counts", x.counts(1, 0, 0, 4), 1); due("counts", x.counts(1, 0, 0, 5), 0);
    due("rule", x.rule(1, 2, 4), 4); due("day", x.round(1, 0, 0), 3); due("bad day", x.draw(1, 2), BAD);
    x.tell(1, 0, 0, 0, 0, 9); x.draw(1, 4);
    due("the first one stays", x.told(40), 2); due("the first one stays", x.told(30), 1);
    due("of the copy", x.told(41), 3); due("of the copy", x.told(31), 2);
    x.copy(1); x.copy(2);
    due("full", x.copy(0), FULL); due("bad ahead of full", x.copy(4), BAD);
    due("alike", x.alike(3, 1), 1);
  }

  private static void p33() {
    PairingHall x = new PairingHall();
    for (int i = 0; i < 4; i++) x.player(0, 1000);
    x.tournament(); x.tournament();
    due("t", x.alike(2, 0), BAD); due("u", x.alike(0, 2), BAD); due("u", x.alike(0, -1), BAD);
    due("empty ones", x.alike(0, 1), 1);
    x.enter(0, 0); x.enter(0, 1);
    due("players", x.alike(0, 1), 0);
    x.enter(1, 1); x.enter(1, 0);
    due("in another order", x.alike(0, 1), 0);
    due("itself", x.alike(1, 1), 1);
    PairingHall y = new PairingHall();
    for (int i = 0; i < 4; i++) y.player(0, 1000);
    y.tournament(); y.tournament();
    for (int t = 0; t < 2; t++) { for (int p = 0; p < 4; p++) y.enter(t, p); }
    due("like ones", y.alike(0, 1), 1);
    y.rule(0, 4, 1); due("sums", y.alike(0, 1), 0); y.rule(1, 4, 1); due("sums", y.alike(0, 1), 1);
    y.draw(0, 1); due("rounds", y.alike(0, 1), 0); y.draw(1, 2); due("days", y.alike(0, 1), 0);
    PairingHall z = members(1000, 1000, 1000, 1000);
    z.copy(0);
    z.draw(0, 1); z.draw(1, 1); due("drawn alike", z.alike(0, 1), 1);
    z.tell(0, 0, 0, 1, 1, 1); due("entries", z.alike(1, 0), 0);
    z.tell(1, 0, 0, 1, 1, 1); due("entries", z.alike(1, 0), 1);
    int[][] parts = {{0, 1, 1, 1, 1}, {0, 0, 2, 1, 1}, {0, 0, 1, 2, 1}, {0, 0, 1, 1, 2}};
    for (int[] e : parts) {
      z.copy(0); z.copy(0);
      z.tell(2, 0, 0, 1, 1, 1); z.tell(3, e[0], e[1], e[2], e[3], e[4]);
      due("an entry's part", z.alike(2, 3), 0);
      z = members(1000, 1000, 1000, 1000);
      z.copy(0); z.draw(0, 1); z.draw(1, 1); z.tell(0, 0, 0, 1, 1, 1); z.tell(1, 0, 0, 1, 1, 1);
    }
    z.takeBack(0, 0, 4); due("taken back", z.alike(0, 1), 0);
    z.takeBack(1, 0, 5); due("taken back from another day on", z.alike(0, 1), 0);
    z.copy(1); z.withdraw(2, 0); due("withdrawn", z.alike(1, 2), 0);
    costAlone();
  }

  /** Two TOURNAMENTS whose ROUNDS part by COST alone, as a BASE changed between them (a TEAM's PLACES). */
  private static void costAlone() {
    PairingHall x = new PairingHall();
    x.player(0, 1000); x.player(0, 2000); x.player(3, 0);
    x.places(2, 1); x.seat(2, 0, 0);
    x.tournament(); x.enter(0, 0); x.enter(0, 2);
    x.copy(0);
    x.draw(0, 0);
    x.seat(2, 0, 1);
    x.draw(1, 0);
    due("cost", x.round(0, 0, 2), 0); due("cost", x.round(1, 0, 2), 100);
    due("cost alone", x.alike(0, 1), 0);
    PairingHall y = new PairingHall();
    y.player(0, 1000); y.player(0, 2000); y.player(3, 0); y.player(3, 0);
    y.places(2, 1); y.places(3, 1);
    y.tournament(); for (int p = 0; p < 4; p++) y.enter(0, p);
    y.copy(0);
    y.seat(2, 0, 0); y.seat(3, 0, 1); y.draw(0, 0);
    y.seat(2, 0, 1); y.seat(3, 0, 0); y.draw(1, 0);
    paired(y, "one way", 0, 0, 0, 2, 1, 3); paired(y, "another way", 1, 0, 0, 3, 1, 2);
    due("cost", y.round(0, 0, 2), 0); due("cost", y.round(1, 0, 2), 0);
    due("black ones alone", y.alike(0, 1), 0);
  }

  private static void p34() {
    PairingHall x = kinds();
    due("before any", x.finding(), 0);
    x.worth(4); due("unlike", x.finding(), UNLIKE);
    x.worth(0); due("it stays", x.finding(), UNLIKE);
    x.worth(9); due("it stays behind a refusal", x.finding(), UNLIKE);
    x.worth(3); due("nobody", x.finding(), NOBODY);
    x.places(3, -1); due("size", x.finding(), SIZE);
    x.places(3, 0); x.worth(3); due("shared", x.finding(), SHARED);
    x.held(3, 0); due("beyond", x.finding(), BEYOND);
    x.tournament(); x.enter(0, 0);
    x.step(0, 10, 0, 0, 0, 1); x.run(0); due("short", x.finding(), SHORT);
  }

  private static void p35() {
    PairingHall x = members(1, 2, 3);
    for (int w : new int[] {-1, 4, 9, 14, 19, 21, 24, 29, 31, 34, 41, 44, 51, 54, 60, 100, MAX, MIN}) due("told(" + w + ")", x.told(w), BAD);
    for (int k = 0; k < 4; k++) due("tries at first", x.told(10 + k), 0);
    x.draw(0, 0); x.tell(0, 0, 0, 0, 0, 0); x.tell(0, 0, 0, 0, 0, 0); x.tournament();
    x.step(2, 11, 1, 0, 0, 0); x.run(2); x.run(1); x.draw(0, 0);
    int[][] want = {{0, 3}, {1, 2}, {2, 2}, {3, 3}, {10, 0}, {11, 2}, {12, 1}, {13, 0}, {20, 3}, {21, 0}, {22, BAD}, {30, 2}, {31, 0}, {32, BAD},
        {40, 2}, {41, 0}, {42, BAD}, {50, 1}, {51, 2}, {52, BAD}};
    for (int[] w : want) due("told(" + w[0] + ")", x.told(w[0]), w[1]);
  }

  /** Ten PLAYERS, six ROUNDS, sixty ENTRIES: every row is used up to its end. */
  private static void fullHouse() {
    PairingHall x = new PairingHall();
    for (int p = 0; p < 24; p++) x.player(p % 3, 100 * p);
    x.tournament();
    for (int p = 14; p < 24; p++) x.enter(0, p);
    for (int i = 1; i <= 4; i++) x.rule(0, i, i);
    for (int r = 0; r < 6; r++) {
      due("draw " + r, x.draw(0, r), 5);
      due("trace " + r, x.told(3), 10 + 4);
      for (int k = 0; k < 5; k++) x.tell(0, r, k, (r + k) % 3, r, r);
    }
    for (int i = 30; i < 60; i++) due("entry " + i, x.tell(0, 5, 4, 2, 5, 5), i);
    int total = 0, seen = 0;
    for (int k = 0; k < 10; k++) {
      int p = x.standing(0, k, 5, 5);
      total += x.points(0, p, 5, 5);
      seen |= 1 << p;
      due("place of " + p, x.place(0, p, 5, 5) <= k + 1 ? 1 : 0, 1);
      for (int i = 1; i <= 5; i++) due("sum " + i + " of " + p, x.sum(0, p, i, 5, 5) >= 0 ? 1 : 0, 1);
      if (k > 0) due("row at " + k, x.why(0, p, x.standing(0, k - 1, 5, 5), 5, 5) % 10 == 1 ? 1 : 0, 0);
    }
    due("two for each pair", total, 60); due("each once", seen, 0xFFC000);
    int rated = 0;
    for (int p = 14; p < 24; p++) rated += x.rated(0, p, 5, 5);
    due("the mean stays near", Math.abs(rated / 10 - x.mean(0)) < 50 ? 1 : 0, 1);
    x.rated(0, 14, 5, 5);
    due("numbers of the trace", x.told(3), 14 + 6 * 14);
    due("nothing is open", x.could(0, x.standing(0, 0, 5, 5), 0, 5), 1);
    x.copy(0); x.copy(0); x.copy(0);
    due("alike", x.alike(3, 0), 1);
  }

  private static void face() {
    due("final", Modifier.isFinal(PairingHall.class.getModifiers()) ? 1 : 0, 1);
    due("constants", PairingHall.class.getFields().length, 6);
    int methods = 0;
    for (java.lang.reflect.Method m : PairingHall.class.getDeclaredMethods()) {
      if (!Modifier.isPrivate(m.getModifiers())) methods++;
    }
    due("methods", methods, 34);
    due("NONE", PairingHall.NONE, NONE); due("BAD", PairingHall.BAD, BAD); due("NO", PairingHall.NO, NO);
    due("FULL", PairingHall.FULL, FULL); due("FINDING", PairingHall.FINDING, FINDING); due("FAILED", PairingHall.FAILED, FAILED);
  }

  public static void main(String[] args) {
    says("the public face");
    face();
    Runnable[] all = {PromisesTest::p1, PromisesTest::p2, PromisesTest::p3, PromisesTest::p4, PromisesTest::p5, PromisesTest::p6,
        PromisesTest::p7, PromisesTest::p8, PromisesTest::p9, PromisesTest::p10, PromisesTest::p11, PromisesTest::p12, PromisesTest::p13,
        PromisesTest::p14, PromisesTest::p15, PromisesTest::p16, PromisesTest::p17, PromisesTest::p18, PromisesTest::p19, PromisesTest::p20,
        PromisesTest::p21, PromisesTest::p22, PromisesTest::p23, PromisesTest::p24, PromisesTest::p25, PromisesTest::p26, PromisesTest::p27,
        PromisesTest::p28, PromisesTest::p29, PromisesTest::p30, PromisesTest::p31, PromisesTest::p32, PromisesTest::p33, PromisesTest::p34,
        PromisesTest::p35};
    says("rows used up to their ends");
    fullHouse();
    for (int i = 0; i < all.length; i++) {
      says("promise " + (i + 1));
      all[i].run();
    }
    end();
  }
}
