/** For each promise of the document, in its order: ordinary inputs, the edges that it names, wrong inputs. Answers worked out by hand. */
public final class PromiseTest {
  private static final int U = -1, O = -2, S = -3, F = -4, N = -9;
  private static int wrong = 0;

  /** Each envies the next one, and takes his note a bar later: 0 0 5, 0 5 5, 5 5 5. */
  private static final String CHAIN = "CS00910S30920S65930";
  /** Plain, boy, generous, plain; seats 0, 3, 6, 1; voices 2, 9, 4, 5. */
  private static final String MIXED = "CS02350S39213S64102S15060";
  /** Two boys: the first goes up to 5, and, as nobody is higher then, back to 0. */
  private static final String SWING = "CS00903S15003";

  private static void due(int promise, String call, long got, long want) {
    if (got != want) {
      wrong++;
      System.out.println("promise " + promise + ": " + call + " answered " + got + ", due is " + want);
    }
  }

  private static JealousChoir told(String text) {
    JealousChoir x = new JealousChoir();
    tell(x, text);
    return x;
  }

  private static void tell(JealousChoir x, String text) {
    x.wipe();
    for (int i = 0; i < text.length(); i++) x.write(text.charAt(i));
    x.choir();
  }

  private static void newObject() {
    JealousChoir x = new JealousChoir();
    for (int what = 0; what < 10; what++) due(1, "count(" + what + ")", x.count(what), 0);
    due(1, "singer(0, 0)", x.singer(0, 0), U);
    due(1, "seat(7)", x.seat(7), N);
    due(1, "undo()", x.undo(), S);
    due(1, "again(0)", x.again(0), S);
    due(1, "seed(0)", x.seed(0), 0);
    due(1, "unhear()", x.unhear(), 0);
    due(1, "fault()", x.fault(), 0);
  }

  private static void writeAndWipe() {
    JealousChoir x = new JealousChoir();
    due(2, "write(0)", x.write(0), 1);
    due(2, "write(255)", x.write(255), 2);
    due(2, "write(256)", x.write(256), O);
    due(2, "write(-1)", x.write(-1), O);
    due(2, "write(least)", x.write(Integer.MIN_VALUE), O);
    for (int i = 3; i <= 48; i++) due(2, "write(65)", x.write(65), i);
    due(2, "write(65), the 49th", x.write(65), F);
    due(2, "write(256), the 49th", x.write(256), O);
    due(2, "count(0)", x.count(0), 48);
    due(3, "wipe()", x.wipe(), 48);
    due(3, "wipe() again", x.wipe(), 0);
    due(3, "count(0)", x.count(0), 0);
    due(3, "write behind wipe", x.write('C'), 1);
    due(3, "choir()", x.choir(), 0);
    x = told(CHAIN);
    x.wipe();
    due(3, "count(1) behind wipe", x.count(1), 3);
  }

  private static void faultOf(String text, int want) {
    JealousChoir x = new JealousChoir();
    for (int i = 0; i < text.length(); i++) x.write(text.charAt(i));
    due(4, "fault() of " + text, x.fault(), want);
    due(5, "choir() of " + text, x.choir(), want == N ? (text.length() - 1) / 6 : S);
  }

  private static void faults() {
    String full = "CS00000S10000S20000S30000S40000S59993";
    String[] texts = {"", "C", "c", "S", "CS", "CC", "CS0", "CS8", "CS7", "CS/", "CS00", "CS0:", "CS0/", "CS000", "CS00A",
        "CS0000", "CS000 ", "CS00000", "CS00003", "CS00004", "CS0000/", "CS00000S", "CS00000C", "CS00000S0", "CS00000S1",
        full, full + "S", full + "x", full + "SSSSSSSSSSS", "xxxxxxxxxxxxxxxxxxxxxxxxxxxxxxxxxxxxxxxxxxxxxxxx", "CS09993S0"};
    int[] wants = {0, N, 0, 0, 2, 1, 3, 2, 3, 2, 4, 3, 3, 5, 4,
        6, 5, N, N, 6, 6, 8, 7, 8, 9,
        N, 37, 37, 37, 0, 8};
    for (int i = 0; i < texts.length; i++) faultOf(texts[i], wants[i]);
    faultOf("CS0" + (char) 176 + "000", 3);
  }

  private static void choirAnew() {
    JealousChoir x = told(CHAIN);
    x.bar();
    x.hold(1);
    x.keep(0);
    x.hear(2, 0, 5);
    x.seed(77);
    x.write('S');
    due(5, "choir() with a fault", x.choir(), S);
    due(5, "count(1), refused", x.count(1), 3);
    due(5, "count(8), refused", x.count(8), 2);
    due(5, "count(2), refused", x.count(2), 1);
    tell(x, SWING);
    due(5, "count(0)", x.count(0), 13);
    due(5, "count(1)", x.count(1), 2);
    due(5, "count(2)", x.count(2), 0);
    due(5, "count(7)", x.count(7), 0);
    due(5, "count(8)", x.count(8), 0);
    due(5, "count(9)", x.count(9), 1);
    due(5, "undo()", x.undo(), S);
    due(5, "again(0)", x.again(0), S);
    due(5, "singer(2, 0)", x.singer(2, 0), U);
    due(5, "singer(1, 5)", x.singer(1, 5), 5);
    due(5, "count(4)", x.count(4), 33);
    due(5, "seat(6)", x.seat(6), N);
    due(5, "seed(0)", x.seed(0), 77);
    x.bar();
    due(5, "choir() of the same text", x.choir(), 2);
    due(5, "singer(0, 5)", x.singer(0, 5), 0);
  }

  private static void singers() {
    JealousChoir x = told(MIXED);
    int[][] want = {{0, 2, 3, 5, 0, 2, 10, 3, 0}, {3, 9, 2, 1, 3, 9, 13, N, 0}, {6, 4, 1, 0, 2, 4, 2, N, 0}, {1, 5, 0, 6, 0, 5, 3, N, 0}};
    for (int i = 0; i < 4; i++) {
      for (int what = 0; what < 9; what++) due(6, "singer(" + i + ", " + what + ")", x.singer(i, what), want[i][what]);
    }
    due(6, "singer(4, 0)", x.singer(4, 0), U);
    due(6, "singer(-1, 0)", x.singer(-1, 0), U);
    due(6, "singer(32, 0)", x.singer(32, 0), U);
    due(6, "singer(0, 9)", x.singer(0, 9), O);
    due(6, "singer(0, -1)", x.singer(0, -1), O);
    due(6, "singer(9, 9)", x.singer(9, 9), U);
    x.hold(0);
    due(6, "singer(0, 8), held on", x.singer(0, 8), 1);
    due(6, "singer(0, 7), held on", x.singer(0, 7), N);
    due(6, "singer(0, 4), held on", x.singer(0, 4), 0);
    due(7, "seat(6)", x.seat(6), 2);
    due(7, "seat(0)", x.seat(0), 0);
    due(7, "seat(2)", x.seat(2), N);
    due(7, "seat(7)", x.seat(7), N);
    due(7, "seat(8)", x.seat(8), U);
    due(7, "seat(-1)", x.seat(-1), U);
    // Of like ones the least number; a plain one goes by goods, a boy by notes; just as much is not more.
    x = told("CS32110S02150S12150S23913S49052");
    due(6, "singer(0, 7), like goods", x.singer(0, 7), 1);
    due(6, "singer(1, 7), like its own", x.singer(1, 7), N);
    due(6, "singer(3, 7), boy", x.singer(3, 7), 4);
    due(6, "singer(4, 7), generous", x.singer(4, 7), N);
    x = told("CS30093S17000S27000S40003");
    due(6, "singer(0, 7), like notes", x.singer(0, 7), 1);
    x = told("CS00000S40090");
    due(6, "singer(0, 6), four seats off", x.singer(0, 6), 0);
    due(6, "singer(0, 7), four seats off", x.singer(0, 7), N);
  }

  private static void bars() {
    JealousChoir x = told(MIXED);
    due(8, "bar()", x.bar(), 3);
    due(8, "singer(0, 5)", x.singer(0, 5), 5);
    due(8, "count(2)", x.count(2), 1);
    due(8, "count(4)", x.count(4), 560);
    x = told(CHAIN);
    due(8, "bar(), all at once", x.bar(), 2);
    due(8, "singer(0, 5), a bar behind", x.singer(0, 5), 0);
    due(8, "singer(1, 5)", x.singer(1, 5), 5);
    due(8, "bar()", x.bar(), 1);
    // No higher than voice and range together, no lower than voice less range.
    x = told("CS03200S19090S28110");
    x.bar();
    due(8, "singer(0, 5), highest", x.singer(0, 5), 5);
    x = told("CS08200S11090");
    x.bar();
    due(8, "singer(0, 5), lowest", x.singer(0, 5), 6);
    // A held one stays on its note, one that is held on too, and is let go to its voice or to whom it envies.
    x = told("CS05901S19090");
    due(8, "bar(), held", x.bar(), 2);
    due(8, "singer(0, 5), held", x.singer(0, 5), 5);
    x = told(SWING);
    x.bar();
    x.hold(0);
    x.bar();
    due(8, "singer(0, 5), held on", x.singer(0, 5), 5);
    x.hold(0);
    x.bar();
    due(8, "singer(0, 5), let go", x.singer(0, 5), 0);
    due(8, "bar() of nobody", new JealousChoir().bar(), 0);
  }

  private static void gifts() {
    JealousChoir x = told(CHAIN);
    due(9, "gift(1, 9)", x.gift(1, 9), 11);
    due(9, "gift(1, 1)", x.gift(1, 1), 12);
    due(9, "singer(1, 7)", x.singer(1, 7), N);
    due(9, "singer(2, 7)", x.singer(2, 7), 1);
    due(9, "gift(3, 1)", x.gift(3, 1), U);
    due(9, "gift(-1, 0)", x.gift(-1, 0), U);
    due(9, "gift(0, 0)", x.gift(0, 0), O);
    due(9, "gift(0, 10)", x.gift(0, 10), O);
    due(9, "gift(0, -1)", x.gift(0, -1), O);
    due(9, "count(8)", x.count(8), 2);
    for (int i = 0; i < 9; i++) x.gift(1, 9);
    due(9, "gift(1, 9), 99 at most", x.gift(1, 9), 99);
    due(9, "gift(1, 1), 99 at most", x.gift(1, 1), 99);
    due(13, "undo()", x.undo(), 12);
    due(13, "singer(1, 3)", x.singer(1, 3), 99);
    x.undo();
    due(13, "singer(1, 3), as before", x.singer(1, 3), 93);
  }

  private static void changesPitchesHolds() {
    JealousChoir x = told(CHAIN);
    due(10, "change(0, 2)", x.change(0, 2), 6);
    due(10, "seat(0)", x.seat(0), 2);
    due(10, "seat(6)", x.seat(6), 0);
    due(10, "change(0, 0)", x.change(0, 0), O);
    due(10, "change(0, 3)", x.change(0, 3), U);
    due(10, "change(3, 0)", x.change(3, 0), U);
    due(10, "change(3, 3)", x.change(3, 3), U);
    due(10, "change(-1, 1)", x.change(-1, 1), U);
    due(10, "count(8)", x.count(8), 1);
    x = told(CHAIN);
    x.bar();
    x.bar();
    x.hold(0);
    due(11, "pitch(), the held too", x.pitch(), 2);
    due(11, "singer(0, 5)", x.singer(0, 5), 0);
    due(11, "count(2)", x.count(2), 2);
    due(11, "count(7)", x.count(7), 1);
    due(11, "pitch() of nobody", new JealousChoir().pitch(), 0);
    due(12, "hold(1)", x.hold(1), 1);
    due(12, "count(7)", x.count(7), 3);
    due(12, "hold(0)", x.hold(0), 0);
    due(12, "hold(3)", x.hold(3), U);
    due(12, "hold(-1)", x.hold(-1), U);
    x = told("CS05901S19090");
    due(12, "hold(0), told as held", x.hold(0), 1);
    due(12, "hold(0), told as held", x.hold(0), 0);
    x.bar();
    due(12, "singer(0, 5), as told", x.singer(0, 5), 5);
    due(12, "singer(0, 8)", x.singer(0, 8), 0);
  }

  private static void undoing() {
    JealousChoir x = told(CHAIN);
    x.bar();
    x.gift(0, 5);
    x.change(0, 1);
    x.pitch();
    x.hold(2);
    due(13, "undo() of hold", x.undo(), 4);
    due(13, "count(7)", x.count(7), 0);
    due(13, "undo() of pitch", x.undo(), 3);
    due(13, "singer(1, 5)", x.singer(1, 5), 5);
    due(13, "undo() of change", x.undo(), 2);
    due(13, "seat(0)", x.seat(0), 0);
    due(13, "undo() of gift", x.undo(), 1);
    due(13, "singer(0, 3)", x.singer(0, 3), 1);
    due(13, "count(2)", x.count(2), 1);
    due(13, "undo() of bar", x.undo(), 0);
    due(13, "count(2)", x.count(2), 0);
    due(13, "singer(1, 5)", x.singer(1, 5), 0);
    due(13, "undo()", x.undo(), S);
    for (int i = 0; i < 20; i++) x.bar();
    due(13, "count(8), 14 at most", x.count(8), 14);
    for (int i = 13; i >= 0; i--) due(13, "undo()", x.undo(), i);
    due(13, "undo()", x.undo(), S);
    due(13, "count(2), six are forgotten", x.count(2), 6);
  }

  private static void barsToCome() {
    JealousChoir x = told(CHAIN);
    due(14, "sings(0, 0)", x.sings(0, 0), 0);
    due(14, "sings(0, 1)", x.sings(0, 1), 0);
    due(14, "sings(0, 2)", x.sings(0, 2), 5);
    due(14, "sings(0, 60)", x.sings(0, 60), 5);
    due(14, "sings(0, 61)", x.sings(0, 61), O);
    due(14, "sings(0, -1)", x.sings(0, -1), O);
    due(14, "sings(3, 61)", x.sings(3, 61), U);
    due(15, "notes(0)", x.notes(0), 2);
    due(15, "notes(1)", x.notes(1), 2);
    due(15, "notes(2)", x.notes(2), 1);
    due(15, "notes(60)", x.notes(60), 1);
    due(15, "notes(61)", x.notes(61), O);
    due(15, "notes(-1)", x.notes(-1), O);
    due(16, "round(0)", x.round(0), 2);
    due(16, "round(1)", x.round(1), 1);
    due(16, "round(2)", x.round(2), O);
    due(16, "round(-1)", x.round(-1), O);
    due(17, "unison()", x.unison(), 2);
    due(14, "count(2), unchanged", x.count(2), 0);
    due(14, "singer(1, 5), unchanged", x.singer(1, 5), 0);
    x = told(SWING);
    due(14, "sings(0, 59)", x.sings(0, 59), 5);
    due(14, "sings(0, 60)", x.sings(0, 60), 0);
    due(15, "notes(59)", x.notes(59), 1);
    due(15, "notes(60)", x.notes(60), 2);
    due(16, "round(0)", x.round(0), 0);
    due(16, "round(1)", x.round(1), 2);
    due(17, "unison()", x.unison(), 1);
    x.bar();
    due(17, "unison(), now", x.unison(), 0);
    due(17, "unison(), never", told("CS01000S12000").unison(), N);
    due(17, "unison() of one", told("CS01000").unison(), 0);
    x = new JealousChoir();
    due(15, "notes(60) of nobody", x.notes(60), 0);
    due(16, "round(0) of nobody", x.round(0), 0);
    due(16, "round(1) of nobody", x.round(1), 1);
    due(17, "unison() of nobody", x.unison(), 0);
  }

  private static void getting() {
    JealousChoir x = told(CHAIN);
    int[][] calls = {{0, 5, 2, 0, 0}, {0, 5, 2, 1, N}, {0, 5, 1, 0, N}, {0, 5, 1, 1, N}, {1, 0, 1, 0, 1}, {1, 0, 1, 1, 1},
        {2, 0, 1, 0, 2}, {2, 0, 1, 1, 1}, {2, 7, 9, 0, N}, {3, 0, 1, 0, U}, {3, 10, 0, 2, U}, {-1, 0, 1, 0, U},
        {0, 10, 1, 0, O}, {0, -1, 1, 0, O}, {0, 0, 0, 0, O}, {0, 0, 10, 0, O}, {0, 0, 1, 2, O}, {0, 0, 1, -1, O}};
    for (int[] c : calls) {
      due(18, "gets(" + c[0] + ", " + c[1] + ", " + c[2] + ", " + c[3] + ")", x.gets(c[0], c[1], c[2], c[3]), c[4]);
    }
    due(18, "count(5), unchanged", x.count(5), 6);
    due(18, "count(8), unchanged", x.count(8), 0);
    due(18, "gets, 8, the lesser of like ones", told("CS00902S15900S23980").gets(1, 0, 1, 0), 8);
    due(18, "gets, 9, the greater", told("CS23980S15900S00902").gets(1, 0, 1, 0), 9);
    due(18, "gets, 9, to whom", told("CS23980S15900S00902").gets(1, 0, 1, 1), 2);
    due(18, "gets, 10 would do", told("CS23990S15900S00902").gets(1, 0, 1, 0), N);
    due(18, "gets, to himself", told("CS05900S17090S27090S30003").gets(0, 5, 1, 0), 9);
    due(18, "gets, to himself, whom", told("CS05900S17090S27090S30003").gets(0, 5, 1, 1), 0);
    due(18, "gets, of two alike", told("CS00950S17050S27050").gets(0, 7, 1, 0), 1);
    due(18, "gets, of two alike the least", told("CS00950S17050S27050").gets(0, 7, 1, 1), 1);
    x = told("CS03900S17010S27010");
    due(18, "gets, of like goods", x.gets(0, 3, 1, 0), 1);
    due(18, "gets, of like goods, to whom", x.gets(0, 3, 1, 1), 0);
    x = told("CS00920S50000S67000S77000");
    due(18, "gets, out of sight", x.gets(0, 7, 9, 0), N);
  }

  private static void bestChanges() {
    JealousChoir x = told(CHAIN);
    due(19, "best(9, 0)", x.best(9, 0), 2);
    due(19, "best(9, 1)", x.best(9, 1), 1);
    due(19, "best(1, 0)", x.best(1, 0), 2);
    due(19, "best(1, 1), none", x.best(1, 1), 99);
    due(19, "best(0, 0)", x.best(0, 0), O);
    due(19, "best(10, 0)", x.best(10, 0), O);
    due(19, "best(1, 2)", x.best(1, 2), O);
    due(19, "best(1, -1)", x.best(1, -1), O);
    due(19, "seat(0), unchanged", x.seat(0), 0);
    due(19, "best(1, 0) of nobody", new JealousChoir().best(1, 0), 0);
    due(19, "best(1, 1) of nobody", new JealousChoir().best(1, 1), 99);
    // 0 sees 2 alone and takes his note; far off, where 1 sits, nobody would be seen.
    x = told("CS31900S73000S05090");
    due(19, "best(2, 0)", x.best(2, 0), 3);
    due(19, "best(2, 1)", x.best(2, 1), 1);
  }

  private static void judged(JealousChoir x, int n, long row, int want) {
    due(20, "judge(" + n + ", " + row + ")", x.judge(n, row), want);
  }

  private static void judging() {
    JealousChoir x = told(CHAIN);
    judged(x, 1, 0, N);
    judged(x, 1, 1, 0);
    judged(x, 1, 10, 0);
    judged(x, 2, 415, N);
    judged(x, 2, 405, 1);
    judged(x, 3, 405, N);
    judged(x, 3, 512112512, 2);
    judged(x, 3, 512112521, N);
    judged(x, 1, 501, N);
    judged(x, 1, 502, 0);
    judged(x, 1, 511, 0);
    judged(x, 1, 515, 0);
    judged(x, 1, 531, 0);
    judged(x, 1, 110, 0);
    judged(x, 1, 119, N);
    judged(x, 1, 131, 0);
    judged(x, 1, 211, 0);
    judged(x, 1, 213, 0);
    judged(x, 1, 231, 0);
    judged(x, 1, 202, N);
    judged(x, 2, 202512, N);
    judged(x, 3, 212000405, N);
    judged(x, 4, 415300410L, N);
    judged(x, 3, 415300410L, 0);
    judged(x, 3, 415300, N);
    judged(x, 4, 415300415L, 3);
    judged(x, 1, 300, N);
    judged(x, 1, 301, 0);
    judged(x, 1, 310, 0);
    judged(x, 1, 400, N);
    judged(x, 1, 439, 0);
    judged(x, 1, 600, 0);
    judged(x, 1, 999, 0);
    judged(x, 1, 1000, O);
    judged(x, 3, 999999999L, 0);
    judged(x, 3, 1000000000L, O);
    judged(x, 4, 999999999999L, 0);
    judged(x, 4, 1000000000000L, O);
    judged(x, 4, Long.MAX_VALUE, O);
    judged(x, 4, -1, O);
    judged(x, 4, Long.MIN_VALUE, O);
    judged(x, 0, 0, O);
    judged(x, 5, 0, O);
    judged(x, 4, 0, N);
    due(20, "count(2), unchanged", x.count(2), 0);
    due(20, "count(5), unchanged", x.count(5), 6);
    due(20, "count(8), unchanged", x.count(8), 0);
    judged(told("C"), 2, 300, N);
    judged(told("C"), 2, 300400, 1);
  }

  private static void hearing() {
    JealousChoir x = told(CHAIN);
    due(23, "had(1), nothing heard", x.had(1), 1023);
    due(21, "hear(1, 1, 5)", x.hear(1, 1, 5), 1);
    due(23, "had(1)", x.had(1), 7);
    due(23, "had(2)", x.had(2), 1016);
    due(21, "hear(0, 2, 5)", x.hear(0, 2, 5), 2);
    due(23, "had(0)", x.had(0), 3);
    due(23, "had(3)", x.had(3), U);
    due(23, "had(-1)", x.had(-1), U);
    due(21, "hear(2, 0, 4)", x.hear(2, 0, 4), 3);
    due(23, "had(0), not so", x.had(0), 0);
    due(23, "singer(0, 3), unchanged", x.singer(0, 3), 1);
    due(21, "hear(3, 0, 0)", x.hear(3, 0, 0), U);
    due(21, "hear(3, 10, 10)", x.hear(3, 10, 10), U);
    due(21, "hear(0, 10, 0)", x.hear(0, 10, 0), O);
    due(21, "hear(0, -1, 0)", x.hear(0, -1, 0), O);
    due(21, "hear(0, 0, 10)", x.hear(0, 0, 10), O);
    due(21, "hear(0, 0, -1)", x.hear(0, 0, -1), O);
    due(21, "hear(0, 9, 5)", x.hear(0, 9, 5), 4);
    due(21, "hear(0, 9, 5)", x.hear(0, 9, 5), 5);
    due(21, "hear(0, 9, 9)", x.hear(0, 9, 9), 6);
    due(21, "hear(0, 9, 5), the seventh", x.hear(0, 9, 5), F);
    due(21, "hear(0, 10, 5), the seventh", x.hear(0, 10, 5), O);
    due(21, "count(9)", x.count(9), 6);
    due(22, "unhear()", x.unhear(), 6);
    due(22, "unhear()", x.unhear(), 0);
    due(22, "count(9)", x.count(9), 0);
    due(23, "had(0), all unheard", x.had(0), 1023);
    x.hear(2, 0, 4);
    x.hear(0, 0, 0);
    tell(x, SWING);
    due(23, "had(1), of one who is gone nothing", x.had(1), 1023);
    due(23, "count(9)", x.count(9), 2);
    tell(x, CHAIN);
    due(23, "had(1), who is there again", x.had(1), 0);
  }

  private static void shared(JealousChoir x, int singer, int above, int below) {
    due(24, "share(" + singer + ", true)", x.share(singer, true), above);
    due(24, "share(" + singer + ", false)", x.share(singer, false), below);
  }

  private static void shares() {
    JealousChoir x = told(CHAIN);
    shared(x, 0, 1, 2);
    shared(x, 1, 0, 1);
    shared(x, 2, 1, 2);
    shared(x, 3, U, U);
    shared(x, -1, U, U);
    shared(told("CS05000"), 0, 1, 1);
    // Three who would sing three notes all take that of the generous one.
    x = told("CS01900S12900S23900S34092");
    shared(x, 3, -1, 2);
    shared(x, 0, 1, 2);
    due(24, "count(1), unchanged", x.count(1), 4);
    due(24, "count(2), unchanged", x.count(2), 0);
  }

  private static void resting() {
    JealousChoir x = told("CS01950S12950");
    due(25, "rests(0, 1, 0)", x.rests(0, 1, 0), 1);
    due(25, "rests(0, 1, 1)", x.rests(0, 1, 1), 1);
    due(25, "rests(1, 0, 0)", x.rests(1, 0, 0), 1);
    due(25, "rests(1, 0, 1)", x.rests(1, 0, 1), 10);
    due(25, "rests(0, 2, 0)", x.rests(0, 2, 0), U);
    due(25, "rests(2, 0, 0)", x.rests(2, 0, 0), U);
    due(25, "rests(2, 2, 2)", x.rests(2, 2, 2), U);
    due(25, "rests(0, 0, 0)", x.rests(0, 0, 0), O);
    due(25, "rests(0, 1, 2)", x.rests(0, 1, 2), O);
    due(25, "rests(0, 1, -1)", x.rests(0, 1, -1), O);
    due(25, "count(5), unchanged", x.count(5), 10);
    // Where nobody envies, no gift has more than another.
    x = told("CS01001S12001");
    due(25, "rests(0, 1, 0), all", x.rests(0, 1, 0), 4);
    due(25, "rests(0, 1, 1), all", x.rests(0, 1, 1), 0);
    x = told("CS21530S00893S51300");
    due(25, "rests(0, 1, 0), none", x.rests(0, 1, 0), 0);
    due(25, "rests(0, 1, 1), none", x.rests(0, 1, 1), N);
  }

  private static void hoarseness(JealousChoir x, int n, int tenths, int above, int below) {
    due(26, "hoarse(" + n + ", " + tenths + ", true)", x.hoarse(n, tenths, true), above);
    due(26, "hoarse(" + n + ", " + tenths + ", false)", x.hoarse(n, tenths, false), below);
  }

  private static void hoarseOnes() {
    JealousChoir x = told("CS01000S12000");
    hoarseness(x, 0, 5, 3, 4);
    hoarseness(x, 9, 3, 51, 100);
    hoarseness(x, 0, 0, 0, 1);
    hoarseness(x, 0, 10, 1, 1);
    hoarseness(x, 10, 0, O, O);
    hoarseness(x, -1, 0, O, O);
    hoarseness(x, 0, 11, O, O);
    hoarseness(x, 0, -1, O, O);
    // Behind two bars it is one note unless 1 alone is hoarse: 0 and 2 do not see each other.
    x = told(CHAIN);
    hoarseness(x, 2, 5, 7, 8);
    hoarseness(x, 2, 1, 919, 1000);
    hoarseness(x, 1, 0, 0, 1);
    hoarseness(x, 2, 0, 1, 1);
    hoarseness(new JealousChoir(), 9, 7, 1, 1);
  }

  private static void seeds() {
    JealousChoir x = told("CS01000");
    due(27, "seed(5)", x.seed(5), 0);
    due(27, "seed(least)", x.seed(Long.MIN_VALUE), 5);
    due(27, "seed(0)", x.seed(0), Long.MIN_VALUE);
    due(28, "years(1)", x.years(1), 1);
    due(28, "seed(0), a step from 0", x.seed(0), 1442695040888963407L);
    due(28, "years(0)", x.years(0), O);
    due(28, "years(31)", x.years(31), O);
    due(28, "seed(1), refused", x.seed(1), 0);
    due(28, "years(30), always one note", x.years(30), 30);
    long seed = 1;
    for (int i = 0; i < 30; i++) seed = seed * 6364136223846793005L + 1442695040888963407L;
    due(28, "seed(0), 30 steps from 1", x.seed(0), seed);
    x = told(CHAIN);
    x.seed(seedFor(18));
    due(28, "years(1), a bar", x.years(1), 2);
    x = told(SWING);
    x.seed(seedFor(18));
    due(28, "years(1), a bar", x.years(1), 1);
    x.seed(seedFor(27));
    due(28, "years(1), a bar", x.years(1), 1);
    x.bar();
    x.seed(seedFor(17));
    due(28, "years(1), a pitch", x.years(1), 2);
    x.seed(seedFor(2));
    due(28, "years(1), a gift to nobody", x.years(1), 1);
    x.seed(seedFor(6, 18));
    due(28, "years(2), held on, then a bar", x.years(2), 2);
    x = told(CHAIN);
    x.seed(seedFor(13, 18));
    due(28, "years(2), changed, then a bar: 5 5 5", x.years(2), 3);
    x.seed(seedFor(14, 18));
    due(28, "years(2), no change with nobody, then a bar", x.years(2), 4);
    due(28, "count(2), unchanged", x.count(2), 0);
    due(28, "count(8), unchanged", x.count(8), 0);
    due(28, "seat(3), unchanged", x.seat(3), 1);
  }

  /** A seed by which the first lots are these. */
  private static long seedFor(int... lots) {
    for (long start = 0; start < 1000000; start++) {
      long seed = start;
      int met = 0;
      while (met < lots.length) {
        seed = seed * 6364136223846793005L + 1442695040888963407L;
        if ((seed >>> 33) % 28 != lots[met]) break;
        met++;
      }
      if (met == lots.length) return start;
    }
    throw new IllegalStateException("no such seed");
  }

  private static void slots() {
    JealousChoir x = told(CHAIN);
    x.bar();
    due(29, "keep(0)", x.keep(0), 1);
    due(29, "keep(2)", x.keep(2), U);
    due(29, "keep(-1)", x.keep(-1), U);
    due(29, "count(8), the row stays", x.count(8), 1);
    due(30, "again(1), none kept", x.again(1), S);
    due(30, "again(2)", x.again(2), U);
    due(30, "again(-1)", x.again(-1), U);
    due(30, "count(8), refused", x.count(8), 1);
    x.gift(0, 9);
    x.change(0, 1);
    x.hold(2);
    x.bar();
    due(29, "keep(1)", x.keep(1), 2);
    x.undo();
    due(30, "again(0)", x.again(0), 1);
    due(30, "count(5)", x.count(5), 6);
    due(30, "count(7)", x.count(7), 0);
    due(30, "count(4)", x.count(4), 33);
    due(30, "seat(0)", x.seat(0), 0);
    due(30, "undo()", x.undo(), S);
    due(30, "again(1)", x.again(1), 2);
    due(30, "count(5)", x.count(5), 15);
    due(30, "count(7)", x.count(7), 4);
    due(30, "seat(0)", x.seat(0), 1);
    x.bar();
    due(30, "again(1), kept still", x.again(1), 2);
  }

  private static void counts() {
    JealousChoir x = told(MIXED);
    x.gift(0, 1);
    x.hold(3);
    x.hear(0, 0, 2);
    int[] want = {25, 4, 0, 75, 564, 13, 0, 8, 2, 1};
    for (int what = 0; what < 10; what++) due(31, "count(" + what + ")", x.count(what), want[what]);
    x.undo();
    x.undo();
    due(31, "count(6)", x.count(6), 1);
    due(31, "count(10)", x.count(10), O);
    due(31, "count(-1)", x.count(-1), O);
  }

  public static void main(String[] args) {
    newObject();
    writeAndWipe();
    faults();
    choirAnew();
    singers();
    bars();
    gifts();
    changesPitchesHolds();
    undoing();
    barsToCome();
    getting();
    bestChanges();
    judging();
    hearing();
    shares();
    resting();
    hoarseOnes();
    seeds();
    slots();
    counts();
    System.out.println(wrong == 0 ? "PromiseTest: all answers are as due" : "PromiseTest: " + wrong + " answers are not as due");
    if (wrong != 0) System.exit(1);
  }
}
