/** What the tests of the project share: to say what is due, and halls to begin with. */
class Checks {
  static final int NONE = -1, BAD = -2, NO = -3, FULL = -4, FINDING = -5, FAILED = -6;
  static final int NOBODY = 1, BEYOND = 2, UNLIKE = 3, SHARED = 4, SIZE = 5, SHORT = 6;
  static final int MAX = 2147483647, MIN = -2147483648;
  private static int wrong = 0;
  private static int held = 0;
  private static String words = "";

  /** The words of the document that the program is held to from here on. */
  static void says(String sentence) { words = sentence; }

  static void due(String what, int got, int want) {
    held++;
    if (got != want) {
      wrong++;
      System.out.println("\"" + words + "\": " + what + " is " + got + ", due is " + want);
    }
  }

  static void met(PairingHall x, String what, int got, int finding) {
    due(what, got, FINDING);
    due(what + ", finding()", x.finding(), finding);
  }

  static void traced(PairingHall x, String what, int... numbers) {
    due(what + ", numbers of the trace", x.told(3), numbers.length);
    for (int i = 0; i < numbers.length; i++) due(what + ", trace(" + i + ")", x.trace(i), numbers[i]);
    due(what + ", behind the trace", x.trace(numbers.length), NONE);
  }

  /** White, black, white, black, .. of all PAIRS of a ROUND. */
  static void paired(PairingHall x, String what, int t, int r, int... numbers) {
    due(what + ", how many", x.round(t, r, 1), numbers.length / 2);
    for (int i = 0; i < numbers.length; i++) due(what + ", pair " + i / 2 + " / " + i % 2, x.pair(t, r, i / 2, i % 2), numbers[i]);
  }

  /** COST of all and how many rules are BROKEN. */
  static void costs(PairingHall x, String what, int t, int r, int cost, int broken) {
    due(what + ", cost", x.round(t, r, 2), cost);
    due(what + ", broken", x.round(t, r, 3), broken);
  }

  /** What of the latest RUN is told. */
  static void ranAs(PairingHall x, String what, int answer, int plan, int at, int done) {
    due(what + ", ran(0)", x.ran(0), answer);
    due(what + ", ran(1)", x.ran(1), plan);
    due(what + ", ran(2)", x.ran(2), at);
    due(what + ", ran(3)", x.ran(3), done);
  }

  /** MEMBERS of these BASES, all IN TOURNAMENT 0. */
  static PairingHall members(int... bases) {
    PairingHall x = new PairingHall();
    x.tournament();
    for (int base : bases) x.enter(0, x.player(0, base));
    return x;
  }

  /** So many MEMBERS of BASE 0, all IN TOURNAMENT 0. */
  static PairingHall likeOnes(int many) { return members(new int[many]); }

  /** 0 a MEMBER, 1 a GUEST, 2 a JUNIOR, 3 a TEAM, 4 a BYE. */
  static PairingHall kinds() {
    PairingHall x = new PairingHall();
    x.player(0, 1000); x.player(1, 1700); x.player(2, 1200); x.player(3, 9); x.player(4, 5);
    return x;
  }

  static void end() {
    System.out.println(wrong == 0 ? "all " + held + " answers are as due" : wrong + " of " + held + " answers are not as due");
    if (wrong != 0) System.exit(1);
  }
}
