import java.lang.annotation.Retention;
import java.lang.annotation.RetentionPolicy;
import java.lang.reflect.InvocationTargetException;
import java.lang.reflect.Method;
import java.nio.file.Files;
import java.nio.file.Path;
import java.util.Map;
import java.util.TreeMap;

/**
 * For each sentence of the document that names a boundary case a test of its own, named after its promise and told with
 * the words that it stands for. Answers worked out by hand.
 */
public final class BoundaryTest {
  private static final int U = -1, O = -2, S = -3, F = -4, N = -9;
  private static final int LEAST = Integer.MIN_VALUE, MOST = Integer.MAX_VALUE;

  /** Each envies the next one, and takes his note a bar later: 0 0 5, 0 5 5, 5 5 5. */
  private static final String CHAIN = "CS00910S30920S65930";
  /** Plain, boy, generous, plain; seats 0, 3, 6, 1; voices 2, 9, 4, 5; goods 5, 1, 0, 6. */
  private static final String MIXED = "CS02350S39213S64102S15060";
  /** Two boys: the first goes up to 5, and, as nobody is higher then, back to 0. */
  private static final String SWING = "CS00903S15003";
  /** Six generous ones with a note each: nothing ever moves. */
  private static final String SIX = "CS00002S11002S22002S53002S64002S75002";

  /** The document's words that a test stands for; several are parted by " | ". */
  @Retention(RetentionPolicy.RUNTIME)
  private @interface Says {
    String value();
  }

  private interface Call {
    long on(JealousChoir x);
  }

  private interface Maker {
    JealousChoir make();
  }

  private static String test = "";
  private static int wrong = 0;

  private static void due(String call, long got, long want) {
    if (got != want) complain(call + " answered " + got + ", due is " + want);
  }

  private static void complain(String what) {
    wrong++;
    System.out.println(test + ": " + what);
  }

  private static void write(JealousChoir x, String text) {
    for (int i = 0; i < text.length(); i++) x.write(text.charAt(i));
  }

  private static void tell(JealousChoir x, String text) {
    x.wipe();
    write(x, text);
    x.choir();
  }

  private static JealousChoir told(String text) {
    JealousChoir x = new JealousChoir();
    tell(x, text);
    return x;
  }

  /** An object with something of everything: five acts, slot 0 kept and slot 1 not, two heard, a seed, a text not at its end. */
  private static JealousChoir lived() {
    JealousChoir x = told(MIXED);
    x.bar();
    x.hold(1);
    x.keep(0);
    x.gift(0, 3);
    x.change(0, 2);
    x.bar();
    x.hear(0, 1, 5);
    x.hear(2, 0, 4);
    x.seed(77);
    x.write('S');
    return x;
  }

  private static void look(JealousChoir x, StringBuilder b) {
    for (int what = 0; what < 10; what++) b.append(x.count(what)).append(' ');
    for (int i = 0; i < 4; i++) b.append(x.singer(i, 0)).append(' ').append(x.singer(i, 3)).append(' ').append(x.singer(i, 5)).append(' ');
    b.append('\n');
  }

  /** All that an object still tells, to the bottom of its row, its slots and its text. */
  private static String story(JealousChoir x) {
    StringBuilder b = new StringBuilder();
    look(x, b);
    for (int i = 0; i < 4; i++) b.append(x.had(i)).append(' ');
    b.append(x.seed(0)).append(' ').append(x.fault()).append('\n');
    for (int left = x.count(8); left >= 0; left--) {
      b.append(x.undo()).append(' ');
      look(x, b);
    }
    for (int slot = 0; slot < 2; slot++) {
      b.append(x.again(slot)).append(' ');
      look(x, b);
    }
    b.append(x.choir()).append(' ').append(x.write('0')).append(' ').append(x.fault()).append(' ').append(x.unhear()).append(' ');
    look(x, b);
    return b.toString();
  }

  /** The call answers as is due, and behind it the object tells the same story as one that was never asked. */
  private static void changesNothing(Maker maker, String name, Call call, long want) {
    JealousChoir asked = maker.make();
    due(name, call.on(asked), want);
    if (!story(asked).equals(story(maker.make()))) complain(name + " changed something");
  }

  private static void refused(String name, Call call, long want) {
    changesNothing(BoundaryTest::lived, name, call, want);
  }

  private static void onlyAsks(String name, Call call) {
    changesNothing(BoundaryTest::lived, name, call, call.on(lived()));
  }

  /** Numbers of singers that there are not, where there are four; 32 and 64 are 0 to a shift. */
  private static final int[] NOBODY = {-1, 4, 5, 6, 7, 32, 64, LEAST, MOST};

  // ---- 1 a new object

  @Says("Nobody. | At first there is nobody.")
  private static void promise01_nobodyAtFirst() {
    JealousChoir x = new JealousChoir();
    for (int what = 0; what < 10; what++) due("count(" + what + ")", x.count(what), 0);
    for (int i = -1; i < 8; i++) due("singer(" + i + ", 0)", x.singer(i, 0), U);
    for (int i = 0; i < 8; i++) due("seat(" + i + ")", x.seat(i), N);
  }

  @Says("NONE is -9.")
  private static void promise01_theConstants() {
    due("NONE", JealousChoir.NONE, -9);
    due("UNKNOWN", JealousChoir.UNKNOWN, -1);
    due("OUTSIDE", JealousChoir.OUTSIDE, -2);
    due("STATE", JealousChoir.STATE, -3);
    due("FULL", JealousChoir.FULL, -4);
  }

  @Says("none at first | 0 at first")
  private static void promise01_nothingHeardNoSeedNoActNothingKept() {
    JealousChoir x = new JealousChoir();
    due("unhear()", x.unhear(), 0);
    due("seed(0)", x.seed(0), 0);
    due("undo()", x.undo(), S);
    due("again(0)", x.again(0), S);
    due("again(1)", x.again(1), S);
    due("wipe()", x.wipe(), 0);
  }

  @Says("An object is used for at most 512 calls after it has been made")
  private static void promise01_the512thCallAnswers() {
    JealousChoir x = new JealousChoir();
    x.write('C');
    x.choir();
    for (int i = 0; i < 509; i++) x.bar();
    due("count(2), the 512th call", x.count(2), 509);
  }

  // ---- 2 write

  @Says("A letter (0 to 255) comes behind THE TEXT: how long it is.")
  private static void promise02_theLeastAndTheGreatestLetter() {
    JealousChoir x = new JealousChoir();
    due("write(0)", x.write(0), 1);
    due("write(255)", x.write(255), 2);
    due("count(0)", x.count(0), 2);
  }

  @Says("A letter (0 to 255) comes behind THE TEXT")
  private static void promise02_oneLessAndOneMoreAreOutside() {
    for (int letter : new int[] {-1, 256, 'C' + 256, LEAST, MOST}) refused("write(" + letter + ")", x -> x.write(letter), O);
  }

  @Says("THE TEXT is letters (48 at most).")
  private static void promise02_theFortyEighthIsTaken() {
    JealousChoir x = new JealousChoir();
    for (int i = 1; i <= 48; i++) due("write, the " + i + "th", x.write('C'), i);
  }

  private static JealousChoir full() {
    JealousChoir x = new JealousChoir();
    write(x, SIX);
    for (int i = 37; i < 48; i++) x.write(' ');
    return x;
  }

  @Says("FULL: there are 48.")
  private static void promise02_theFortyNinthIsFull() {
    changesNothing(BoundaryTest::full, "write(67), the 49th", x -> x.write('C'), F);
    JealousChoir x = full();
    x.wipe();
    due("write(67) behind wipe", x.write('C'), 1);
  }

  @Says("of several the first that a call names")
  private static void promise02_outsideGoesBeforeFull() {
    changesNothing(BoundaryTest::full, "write(256), the 49th", x -> x.write(256), O);
    changesNothing(BoundaryTest::full, "write(-1), the 49th", x -> x.write(-1), O);
  }

  // ---- 3 wipe

  @Says("THE TEXT is empty: how long it was.")
  private static void promise03_anEmptyTextWasNone() {
    JealousChoir x = new JealousChoir();
    due("wipe()", x.wipe(), 0);
    x.write('C');
    due("wipe()", x.wipe(), 1);
    due("wipe(), twice", x.wipe(), 0);
    due("count(0)", x.count(0), 0);
    due("fault()", x.fault(), 0);
  }

  @Says("THE TEXT is empty: how long it was.")
  private static void promise03_aFullTextWas48() {
    JealousChoir x = full();
    due("wipe()", x.wipe(), 48);
    due("fault()", x.fault(), 0);
    write(x, CHAIN);
    due("fault(), nothing of the old text is left", x.fault(), N);
  }

  @Says("THE TEXT is empty")
  private static void promise03_theChoirStaysAndItIsNoAct() {
    JealousChoir x = told(CHAIN);
    x.wipe();
    due("count(1)", x.count(1), 3);
    due("count(8)", x.count(8), 0);
    due("undo()", x.undo(), S);
  }

  // ---- 4 fault

  private static void faultOf(String text, int want) {
    JealousChoir x = new JealousChoir();
    write(x, text);
    due("fault() of '" + text + "'", x.fault(), want);
    due("fault() of '" + text + "', twice", x.fault(), want);
  }

  @Says("its length, if it is only not at its end")
  private static void promise04_anEmptyTextIsNotAtItsEnd() {
    faultOf("", 0);
  }

  @Says("C, then SINGERS, none or more (6 at most)")
  private static void promise04_noSingerIsAChoir() {
    faultOf("C", N);
  }

  @Says("C, then SINGERS, none or more (6 at most)")
  private static void promise04_theFirstLetterIsC() {
    for (String first : new String[] {"B", "D", "c", "S", "0", "\0", "\u00ff"}) {
      faultOf(first, 0);
      faultOf(first + "S00000", 0);
    }
  }

  @Says("Ssvrgk a SINGER")
  private static void promise04_aSingerBeginsWithS() {
    for (String s : new String[] {"R", "T", "s", "C", "0", " "}) {
      faultOf("C" + s, 1);
      faultOf("C" + s + "00000", 1);
      faultOf("CS00000" + s, 7);
    }
  }

  @Says("SEATS are 0 to 7 in a row.")
  private static void promise04_seat7IsTheLast() {
    faultOf("CS00000", N);
    faultOf("CS70000", N);
    for (String s : new String[] {"8", "9", "/", ":", "S", "\u00b0"}) {
      faultOf("CS" + s, 2);
      faultOf("CS" + s + "0000", 2);
    }
  }

  @Says("at SEAT s (where none is told yet)")
  private static void promise04_aSeatToldTwice() {
    faultOf("CS00000S00000", 8);
    faultOf("CS70000S70000", 8);
    faultOf("CS00000S10000S00000", 14);
    faultOf("CS00000S10000S10000", 14);
    faultOf("CS00000S10000S20000S30000S40000S00000", 32);
    faultOf("CS00000S10000S20000S30000S40000S40000", 32);
    faultOf("CS01111S11111", N);
  }

  @Says("at SEAT s (where none is told yet) | whatever came behind it")
  private static void promise04_aSeatToldTwiceIsAFaultBeforeTheEnd() {
    faultOf("CS00000S0", 8);
    faultOf("CS00000S00", 8);
  }

  @Says("of VOICE v (0 to 9), of RANGE r (0 to 9), of GOODS g (0 to 9)")
  private static void promise04_voiceRangeAndGoodsAreFigures() {
    faultOf("CS09990", N);
    for (String other : new String[] {"/", ":", "A", " ", "\0", "\u00ff"}) {
      faultOf("CS0" + other + "000", 3);
      faultOf("CS00" + other + "00", 4);
      faultOf("CS000" + other + "0", 5);
    }
  }

  @Says("of KIND k: 0 PLAIN, 1 HELD, 2 GENEROUS, 3 BOY")
  private static void promise04_kind3IsTheLast() {
    for (String kind : new String[] {"0", "1", "2", "3"}) faultOf("CS0000" + kind, N);
    for (String kind : new String[] {"4", "9", "/", ":", "S"}) faultOf("CS0000" + kind, 6);
  }

  @Says("its length, if it is only not at its end; NONE: none.")
  private static void promise04_cutAtEachPlace() {
    for (int length = 0; length <= 37; length++) {
      faultOf(SIX.substring(0, length), length % 6 == 1 ? N : length);
    }
  }

  @Says("none or more (6 at most)")
  private static void promise04_aSeventhSinger() {
    faultOf(SIX, N);
    faultOf(SIX + "S", 37);
    faultOf(SIX + "S30000", 37);
    faultOf(SIX + "C", 37);
  }

  @Says("(its length set aside)")
  private static void promise04_aTextOf48Letters() {
    faultOf(SIX + "S40000S3000", 37);
    faultOf("x" + SIX + "S40000S300", 0);
  }

  @Says("the place of the first letter by which THE TEXT can be no CHOIR, whatever came behind it")
  private static void promise04_ofTwoFaultsTheFirst() {
    faultOf("CS0A004", 3);
    faultOf("CS80000x", 2);
    faultOf("CS00000T00000S00000", 7);
    faultOf("xx", 0);
  }

  @Says("FAULT; NONE.")
  private static void promise04_changesNothing() {
    onlyAsks("fault()", x -> x.fault());
  }

  // ---- 5 choir

  @Says("STATE: a FAULT.")
  private static void promise05_aFaultIsRefused() {
    refused("choir() of a text not at its end", x -> x.choir(), S);
    changesNothing(() -> {
      JealousChoir x = lived();
      x.wipe();
      return x;
    }, "choir() of an empty text", x -> x.choir(), S);
    changesNothing(BoundaryTest::full, "choir() of a text with a seventh singer", x -> x.choir(), S);
  }

  @Says("how many SINGERS")
  private static void promise05_nobodyAndSix() {
    JealousChoir x = new JealousChoir();
    x.write('C');
    due("choir() of C", x.choir(), 0);
    write(x, "S00000");
    due("choir() of one", x.choir(), 1);
    x.wipe();
    write(x, SIX);
    due("choir() of six", x.choir(), 6);
    due("singer(5, 1)", x.singer(5, 1), 5);
    due("singer(6, 1)", x.singer(6, 1), U);
    x.wipe();
    x.write('C');
    due("choir() of C behind six", x.choir(), 0);
    for (int what = 1; what < 8; what++) due("count(" + what + ")", x.count(what), 0);
    due("singer(0, 0)", x.singer(0, 0), U);
    due("seat(0)", x.seat(0), N);
  }

  /** A choir of two on an object whose choir of four had lived. */
  private static JealousChoir anew() {
    JealousChoir x = lived();
    x.keep(1);
    tell(x, SWING);
    return x;
  }

  @Says("THE ROW of ACTS is empty")
  private static void promise05_theRowIsEmpty() {
    JealousChoir x = anew();
    due("count(8)", x.count(8), 0);
    due("undo()", x.undo(), S);
    due("count(1)", x.count(1), 2);
  }

  @Says("what was kept is gone")
  private static void promise05_whatWasKeptIsGone() {
    JealousChoir x = anew();
    due("again(0)", x.again(0), S);
    due("again(1)", x.again(1), S);
  }

  @Says("HEARD, THE SEED stay")
  private static void promise05_heardAndTheSeedStay() {
    JealousChoir x = anew();
    due("count(9)", x.count(9), 2);
    due("seed(0)", x.seed(0), 77);
  }

  @Says("When THE CHOIR is made anew, each SINGER sings its VOICE, THE BAR is 0.")
  private static void promise05_voicesAndBar0() {
    JealousChoir x = anew();
    due("singer(0, 5)", x.singer(0, 5), 0);
    due("singer(1, 5)", x.singer(1, 5), 5);
    due("count(2)", x.count(2), 0);
    due("count(7)", x.count(7), 0);
  }

  @Says("When THE CHOIR is made anew")
  private static void promise05_theSameTextAgain() {
    JealousChoir x = told(CHAIN);
    x.bar();
    x.bar();
    x.gift(0, 9);
    x.change(0, 2);
    x.hold(1);
    due("choir()", x.choir(), 3);
    due("count(0)", x.count(0), 19);
    due("count(2)", x.count(2), 0);
    due("count(5)", x.count(5), 6);
    due("count(7)", x.count(7), 0);
    due("seat(0)", x.seat(0), 0);
    due("singer(0, 5)", x.singer(0, 5), 0);
  }

  // ---- 6 singer

  @Says("UNKNOWN (there is no such SINGER")
  private static void promise06_noSuchSinger() {
    for (int who : NOBODY) refused("singer(" + who + ", 0)", x -> x.singer(who, 0), U);
  }

  @Says("1 if it is HELD_ON (8). UNKNOWN; OUTSIDE.")
  private static void promise06_what8IsTheLast() {
    due("singer(1, 8)", lived().singer(1, 8), 1);
    due("singer(0, 8)", lived().singer(0, 8), 0);
    for (int what : new int[] {-1, 9, 32, LEAST, MOST}) refused("singer(0, " + what + ")", x -> x.singer(0, what), O);
  }

  @Says("of several the first that a call names")
  private static void promise06_unknownGoesBeforeOutside() {
    refused("singer(4, 9)", x -> x.singer(4, 9), U);
    refused("singer(-1, -1)", x -> x.singer(-1, -1), U);
  }

  @Says("A SINGER SEES others whose SEAT is 3 or less from its own.")
  private static void promise06_sees3SeatsOffAndNot4() {
    JealousChoir x = told("CS30000S00000S60000S70000");
    due("singer(0, 6), of seat 3: 0 and 6, not 7", x.singer(0, 6), 6);
    due("singer(1, 6), of seat 0: 3 alone", x.singer(1, 6), 1);
    due("singer(2, 6), of seat 6: 3 and 7", x.singer(2, 6), 9);
    due("singer(3, 6), of seat 7: 6 alone", x.singer(3, 6), 4);
  }

  @Says("A SINGER SEES others")
  private static void promise06_doesNotSeeItselfNorRoundTheEnd() {
    due("singer(0, 6), alone", told("CS00000").singer(0, 6), 0);
    due("singer(0, 6), seats 0 and 7", told("CS00000S70000").singer(0, 6), 0);
    due("singer(1, 6), seats 0 and 7", told("CS00000S70000").singer(1, 6), 0);
    due("singer(2, 6), all others", told("CS10000S20000S30000S40000S50000S60000").singer(2, 6), 59);
  }

  @Says("PLAIN: of all whom it SEES that one which has most GOODS, if these are more than its own")
  private static void promise06_likeGoodsAreNotMore() {
    due("singer(0, 7), like", told("CS00050S10050").singer(0, 7), N);
    due("singer(0, 7), one more", told("CS00050S10060").singer(0, 7), 1);
    due("singer(0, 7), one less", told("CS00050S10040").singer(0, 7), N);
    due("singer(0, 7), goods 0 of all", told("CS00000S10000").singer(0, 7), N);
    due("singer(0, 7), most of two", told("CS00050S10060S20070").singer(0, 7), 2);
    due("singer(0, 7), the most out of sight", told("CS00050S10060S40090").singer(0, 7), 1);
    due("singer(0, 7), alone", told("CS00000").singer(0, 7), N);
  }

  @Says("BOY: of all whom it SEES that one which sings the highest NOTE now, if that is higher than its own NOTE")
  private static void promise06_aLikeNoteIsNotHigher() {
    due("singer(0, 7), like", told("CS05003S15090").singer(0, 7), N);
    due("singer(0, 7), one higher", told("CS05093S16000").singer(0, 7), 1);
    due("singer(0, 7), one lower", told("CS05003S14090").singer(0, 7), N);
    due("singer(0, 7), highest of two", told("CS05003S16000S27000").singer(0, 7), 2);
    due("singer(0, 7), the highest out of sight", told("CS05003S16000S49000").singer(0, 7), 1);
    JealousChoir x = told(SWING);
    due("singer(0, 7)", x.singer(0, 7), 1);
    x.bar();
    due("singer(0, 7), by the note now", x.singer(0, 7), N);
  }

  @Says("of like ones the least number")
  private static void promise06_ofLikeOnesTheLeastNumber() {
    due("singer(0, 7), plain", told("CS30000S50050S20050S40040").singer(0, 7), 1);
    due("singer(3, 7), plain", told("CS50050S20050S40040S30000").singer(3, 7), 0);
    due("singer(0, 7), boy", told("CS30003S55000S25000S44000").singer(0, 7), 1);
    due("singer(3, 7), boy", told("CS55000S25000S44000S30003").singer(3, 7), 0);
  }

  @Says("nobody: HELD, GENEROUS, or if there is no such one.")
  private static void promise06_heldAndGenerousOnesEnvyNobody() {
    due("singer(0, 7), held", told("CS00901S19990").singer(0, 7), N);
    due("singer(0, 7), generous", told("CS00902S19990").singer(0, 7), N);
    JealousChoir x = told("CS00900S19990S20903");
    x.hold(0);
    x.hold(2);
    due("singer(0, 7), plain, held on", x.singer(0, 7), N);
    due("singer(2, 7), boy, held on", x.singer(2, 7), N);
  }

  @Says("Of a SINGER its SEAT (what = 0), VOICE (1), RANGE (2), GOODS (3), KIND as told (4), NOTE (5), whom it SEES (6: bits), ENVIES (7; NONE)")
  private static void promise06_theFirstAndTheLastOfSix() {
    JealousChoir x = told("CS79873S00001S11111S22222S33333S44440");
    int[][] want = {{7, 9, 8, 7, 3, 9, 32, N, 0}, {4, 4, 4, 4, 0, 4, 29, 0, 0}};
    for (int what = 0; what < 9; what++) {
      due("singer(0, " + what + ")", x.singer(0, what), want[0][what]);
      due("singer(5, " + what + ")", x.singer(5, what), want[1][what]);
    }
  }

  @Says("KIND as told (4)")
  private static void promise06_theKindStaysAsToldWhenHeldOn() {
    JealousChoir x = told(MIXED);
    for (int i = 0; i < 4; i++) x.hold(i);
    due("singer(0, 4)", x.singer(0, 4), 0);
    due("singer(1, 4)", x.singer(1, 4), 3);
    due("singer(2, 4)", x.singer(2, 4), 2);
  }

  // ---- 7 seat

  @Says("SEAT (0 to 7)")
  private static void promise07_seat8IsUnknown() {
    for (int seat : new int[] {-1, 8, 9, 32, LEAST, MOST}) refused("seat(" + seat + ")", x -> x.seat(seat), U);
  }

  @Says("Who is at a SEAT; NONE.")
  private static void promise07_theFirstTheLastAndAnEmptySeat() {
    JealousChoir x = told("CS70000S00000");
    due("seat(0)", x.seat(0), 1);
    due("seat(7)", x.seat(7), 0);
    for (int seat = 1; seat < 7; seat++) due("seat(" + seat + ")", x.seat(seat), N);
    tell(x, "CS10000");
    due("seat(0), empty now", x.seat(0), N);
    due("seat(7), empty now", x.seat(7), N);
  }

  // ---- 8 bar

  @Says("A BAR: how many NOTES are sung then. | THE BAR is one more.")
  private static void promise08_ofNobody() {
    JealousChoir x = new JealousChoir();
    due("bar()", x.bar(), 0);
    due("count(2)", x.count(2), 1);
    due("count(8)", x.count(8), 1);
  }

  @Says("(all at once, by NOTES as they are when it begins)")
  private static void promise08_allAtOnce() {
    JealousChoir x = told(CHAIN);
    due("bar()", x.bar(), 2);
    due("singer(0, 5)", x.singer(0, 5), 0);
    due("singer(1, 5)", x.singer(1, 5), 5);
    // The same chain told the other way round.
    x = told("CS65930S30920S00910");
    due("bar()", x.bar(), 2);
    due("singer(2, 5)", x.singer(2, 5), 0);
    due("singer(1, 5)", x.singer(1, 5), 5);
  }

  private static void noteBehindABar(String text, int want) {
    JealousChoir x = told(text);
    x.bar();
    due("singer(0, 5) behind a bar of " + text, x.singer(0, 5), want);
  }

  @Says("but no higher than its VOICE and its RANGE together")
  private static void promise08_noHigherThanVoiceAndRange() {
    noteBehindABar("CS03200S14010", 4);
    noteBehindABar("CS03200S15010", 5);
    noteBehindABar("CS03200S16010", 5);
    noteBehindABar("CS03203S19010", 5);
    noteBehindABar("CS08900S19010", 9);
  }

  @Says("and no lower than its VOICE less its RANGE")
  private static void promise08_noLowerThanVoiceLessRange() {
    noteBehindABar("CS08200S17010", 7);
    noteBehindABar("CS08200S16010", 6);
    noteBehindABar("CS08200S15010", 6);
    noteBehindABar("CS01900S10010", 0);
  }

  @Says("of RANGE r (0 to 9)")
  private static void promise08_range0KeepsTheVoice() {
    noteBehindABar("CS05000S19010", 5);
    noteBehindABar("CS05000S10010", 5);
    noteBehindABar("CS00903S19010", 9);
    noteBehindABar("CS09900S10010", 0);
  }

  @Says("HELD: its NOTE stays")
  private static void promise08_heldOnesStay() {
    noteBehindABar("CS05901S19090", 5);
    JealousChoir x = told(SWING);
    x.bar();
    x.hold(0);
    x.bar();
    due("singer(0, 5), held on away from its voice", x.singer(0, 5), 5);
    x.bar();
    due("singer(0, 5), a bar later", x.singer(0, 5), 5);
  }

  @Says("all others sing their VOICE.")
  private static void promise08_whoEnviesNobodySingsItsVoice() {
    JealousChoir x = told(CHAIN);
    x.bar();
    x.bar();
    due("singer(0, 5)", x.singer(0, 5), 5);
    x.gift(0, 2);
    x.bar();
    due("singer(0, 5), with as many as most", x.singer(0, 5), 0);
    noteBehindABar("CS05902S19090", 5);
  }

  @Says("how many NOTES are sung (by one SINGER, or more)")
  private static void promise08_aNoteSungBySeveralIsOne() {
    due("bar(), six", told(SIX).bar(), 6);
    due("bar(), one", told("CS05000S15000S25000S35000S45000S55000").bar(), 1);
  }

  // ---- 9 gift

  @Says("a SINGER has n (1 to 9) GOODS more")
  private static void promise09_oneAndNine() {
    JealousChoir x = told("CS00000");
    due("gift(0, 1)", x.gift(0, 1), 1);
    due("gift(0, 9)", x.gift(0, 9), 10);
  }

  @Says("GIFT: its GOODS. UNKNOWN; OUTSIDE: n. | (1 to 9)")
  private static void promise09_zeroAndTenAreOutside() {
    for (int n : new int[] {0, 10, -1, 99, LEAST, MOST}) refused("gift(0, " + n + ")", x -> x.gift(0, n), O);
  }

  @Says("UNKNOWN (there is no such SINGER")
  private static void promise09_noSuchSinger() {
    for (int who : NOBODY) refused("gift(" + who + ", 1)", x -> x.gift(who, 1), U);
  }

  @Says("of several the first that a call names")
  private static void promise09_unknownGoesBeforeOutside() {
    refused("gift(4, 0)", x -> x.gift(4, 0), U);
    refused("gift(-1, 10)", x -> x.gift(-1, 10), U);
  }

  @Says("(99 at most)")
  private static void promise09_ninetyNineAtMost() {
    JealousChoir x = told("CS00090");
    for (int i = 0; i < 9; i++) x.gift(0, 9);
    due("gift(0, 8)", x.gift(0, 8), 98);
    due("gift(0, 1)", x.gift(0, 1), 99);
    x.undo();
    due("gift(0, 2)", x.gift(0, 2), 99);
    due("gift(0, 1), at 99", x.gift(0, 1), 99);
    due("gift(0, 9), at 99", x.gift(0, 9), 99);
    due("singer(0, 3)", x.singer(0, 3), 99);
    due("count(5)", x.count(5), 99);
  }

  @Says("(99 at most) | ACTS (BARS, GIFT, CHANGED, PITCH, HELD_ON) are a row")
  private static void promise09_aGiftAt99IsAnActAllTheSame() {
    JealousChoir x = told("CS00090");
    for (int i = 0; i < 10; i++) x.gift(0, 9);
    due("count(8)", x.count(8), 10);
    x.gift(0, 1);
    due("count(8)", x.count(8), 11);
    due("undo()", x.undo(), 10);
    due("singer(0, 3)", x.singer(0, 3), 99);
    x.undo();
    due("singer(0, 3)", x.singer(0, 3), 90);
  }

  // ---- 10 change

  @Says("CHANGED: two SINGERS change SEATS. | CHANGED: the SEAT of the one then.")
  private static void promise10_theFirstAndTheLastSeat() {
    JealousChoir x = told("CS00000S30000S70000");
    due("change(0, 2)", x.change(0, 2), 7);
    due("seat(0)", x.seat(0), 2);
    due("seat(7)", x.seat(7), 0);
    due("seat(3)", x.seat(3), 1);
    due("change(0, 2), back", x.change(0, 2), 0);
    due("change(2, 0)", x.change(2, 0), 0);
  }

  @Says("UNKNOWN: both")
  private static void promise10_noSuchOneOrOther() {
    for (int who : NOBODY) {
      refused("change(" + who + ", 0)", x -> x.change(who, 0), U);
      refused("change(0, " + who + ")", x -> x.change(0, who), U);
    }
  }

  @Says("OUTSIDE: both are one.")
  private static void promise10_bothAreOne() {
    for (int i = 0; i < 4; i++) {
      int who = i;
      refused("change(" + who + ", " + who + ")", x -> x.change(who, who), O);
    }
  }

  @Says("of several the first that a call names")
  private static void promise10_unknownGoesBeforeOutside() {
    refused("change(4, 4)", x -> x.change(4, 4), U);
    refused("change(-1, -1)", x -> x.change(-1, -1), U);
  }

  // ---- 11 pitch

  @Says("PITCH: how many NOTES are sung then.")
  private static void promise11_ofNobodyAndOfSix() {
    JealousChoir x = new JealousChoir();
    due("pitch(), nobody", x.pitch(), 0);
    due("count(8)", x.count(8), 1);
    due("pitch(), six", told(SIX).pitch(), 6);
  }

  @Says("PITCH: all sing their VOICE.")
  private static void promise11_heldOnesToo() {
    JealousChoir x = told(SWING);
    x.bar();
    x.hold(0);
    due("pitch()", x.pitch(), 2);
    due("singer(0, 5)", x.singer(0, 5), 0);
    due("singer(0, 8), held on still", x.singer(0, 8), 1);
    due("count(2), no bar", x.count(2), 1);
  }

  // ---- 12 hold

  @Says("HELD_ON: a SINGER is HELD from now on, or, if it is so by this, as its KIND was told again.")
  private static void promise12_onAndOff() {
    JealousChoir x = told(CHAIN);
    due("hold(0)", x.hold(0), 1);
    due("singer(0, 7)", x.singer(0, 7), N);
    due("hold(0), again", x.hold(0), 0);
    due("singer(0, 7)", x.singer(0, 7), 1);
    due("hold(0), once more", x.hold(0), 1);
    due("hold(2)", x.hold(2), 1);
    due("count(7)", x.count(7), 5);
  }

  @Says("if it is so by this, as its KIND was told again")
  private static void promise12_oneWhoWasToldAsHeld() {
    JealousChoir x = told("CS05901S19090");
    due("hold(0)", x.hold(0), 1);
    due("singer(0, 8)", x.singer(0, 8), 1);
    due("hold(0), again", x.hold(0), 0);
    due("singer(0, 8)", x.singer(0, 8), 0);
    x.bar();
    due("singer(0, 5), held as told", x.singer(0, 5), 5);
  }

  @Says("HELD_ON: 1 if it is so then, 0. UNKNOWN.")
  private static void promise12_noSuchSinger() {
    for (int who : NOBODY) refused("hold(" + who + ")", x -> x.hold(who), U);
    due("hold(5), the last of six", told(SIX).hold(5), 1);
  }

  // ---- 13 undo

  @Says("STATE: there is none.")
  private static void promise13_noActToUndo() {
    changesNothing(() -> {
      JealousChoir x = lived();
      for (int i = 0; i < 5; i++) x.undo();
      return x;
    }, "undo()", x -> x.undo(), S);
    due("undo() of a new choir", told(CHAIN).undo(), S);
  }

  @Says("The last ACT is undone: how many are left.")
  private static void promise13_eachActTheLastFirst() {
    JealousChoir x = told(CHAIN);
    x.bar();
    x.gift(0, 5);
    x.change(0, 1);
    x.pitch();
    x.hold(2);
    due("undo() of hold", x.undo(), 4);
    due("count(7)", x.count(7), 0);
    due("singer(1, 5), the pitch stands", x.singer(1, 5), 0);
    due("undo() of pitch", x.undo(), 3);
    due("singer(1, 5)", x.singer(1, 5), 5);
    due("seat(0), the change stands", x.seat(0), 1);
    due("undo() of change", x.undo(), 2);
    due("seat(0)", x.seat(0), 0);
    due("singer(0, 3), the gift stands", x.singer(0, 3), 6);
    due("undo() of gift", x.undo(), 1);
    due("singer(0, 3)", x.singer(0, 3), 1);
    due("count(2), the bar stands", x.count(2), 1);
    due("undo() of bar, the first", x.undo(), 0);
    due("count(2)", x.count(2), 0);
    due("singer(1, 5)", x.singer(1, 5), 0);
  }

  @Says("a row (14 at most; of more the first one is forgotten)")
  private static void promise13_fourteenAllUndone() {
    JealousChoir x = told("CS00000");
    for (int i = 1; i <= 14; i++) {
      x.gift(0, 1);
      due("count(8)", x.count(8), i);
    }
    for (int i = 13; i >= 0; i--) {
      due("undo()", x.undo(), i);
      due("singer(0, 3)", x.singer(0, 3), i);
    }
    due("undo()", x.undo(), S);
  }

  @Says("of more the first one is forgotten")
  private static void promise13_ofFifteenTheFirstIsForgotten() {
    JealousChoir x = told("CS00000");
    for (int i = 0; i < 15; i++) x.gift(0, 1);
    due("count(8)", x.count(8), 14);
    for (int i = 13; i >= 0; i--) due("undo()", x.undo(), i);
    due("singer(0, 3), the first stands", x.singer(0, 3), 1);
    due("undo()", x.undo(), S);
  }

  @Says("a row (14 at most; of more the first one is forgotten); the last one can be undone.")
  private static void promise13_theRowGoesRoundMoreThanOnce() {
    JealousChoir x = told("CS00000");
    for (int i = 0; i < 40; i++) x.gift(0, 1);
    for (int i = 13; i >= 9; i--) due("undo()", x.undo(), i);
    due("singer(0, 3)", x.singer(0, 3), 35);
    for (int i = 10; i <= 12; i++) {
      x.gift(0, 2);
      due("count(8)", x.count(8), i);
    }
    due("singer(0, 3)", x.singer(0, 3), 41);
    for (int i = 11; i >= 0; i--) due("undo()", x.undo(), i);
    due("singer(0, 3)", x.singer(0, 3), 26);
    due("undo()", x.undo(), S);
  }

  @Says("What is refused changes nothing.")
  private static void promise13_whatWasRefusedIsNoAct() {
    JealousChoir x = told(CHAIN);
    x.bar();
    x.gift(3, 1);
    x.gift(0, 0);
    x.change(0, 0);
    x.hold(3);
    due("undo() of the bar", x.undo(), 0);
    due("count(2)", x.count(2), 0);
  }

  // ---- 14 sings

  @Says("IN n BARS (0 to 60): the NOTE of a SINGER")
  private static void promise14_in0AndIn60Bars() {
    JealousChoir x = told(CHAIN);
    due("sings(1, 0)", x.sings(1, 0), 0);
    due("sings(1, 1)", x.sings(1, 1), 5);
    due("sings(0, 2)", x.sings(0, 2), 5);
    due("sings(0, 60)", x.sings(0, 60), 5);
    x = told(SWING);
    due("sings(0, 59)", x.sings(0, 59), 5);
    due("sings(0, 60)", x.sings(0, 60), 0);
  }

  @Says("IN n BARS: the NOTE. UNKNOWN; OUTSIDE: n.")
  private static void promise14_sixtyOneIsOutside() {
    for (int n : new int[] {-1, 61, LEAST, MOST}) refused("sings(0, " + n + ")", x -> x.sings(0, n), O);
  }

  @Says("UNKNOWN (there is no such SINGER")
  private static void promise14_noSuchSinger() {
    for (int who : NOBODY) refused("sings(" + who + ", 0)", x -> x.sings(who, 0), U);
  }

  @Says("of several the first that a call names")
  private static void promise14_unknownGoesBeforeOutside() {
    refused("sings(4, 61)", x -> x.sings(4, 61), U);
    refused("sings(-1, -1)", x -> x.sings(-1, -1), U);
  }

  @Says("In what follows nothing is changed.")
  private static void promise14_changesNothing() {
    onlyAsks("sings(0, 60)", x -> x.sings(0, 60));
  }

  // ---- 15 notes

  @Says("IN n BARS (0 to 60) | how many NOTES are sung (by one SINGER, or more)")
  private static void promise15_in0AndIn60Bars() {
    JealousChoir x = told(CHAIN);
    due("notes(0)", x.notes(0), 2);
    due("notes(1)", x.notes(1), 2);
    due("notes(2)", x.notes(2), 1);
    due("notes(60)", x.notes(60), 1);
    x = told(SWING);
    due("notes(59)", x.notes(59), 1);
    due("notes(60)", x.notes(60), 2);
    due("notes(60), six", told(SIX).notes(60), 6);
  }

  @Says("IN n BARS: how many NOTES are sung. OUTSIDE: n.")
  private static void promise15_sixtyOneIsOutside() {
    for (int n : new int[] {-1, 61, LEAST, MOST}) refused("notes(" + n + ")", x -> x.notes(n), O);
  }

  @Says("Nobody.")
  private static void promise15_nobodySingsNone() {
    due("notes(0)", new JealousChoir().notes(0), 0);
    due("notes(60)", new JealousChoir().notes(60), 0);
    due("notes(61)", new JealousChoir().notes(61), O);
  }

  @Says("In what follows nothing is changed.")
  private static void promise15_changesNothing() {
    onlyAsks("notes(60)", x -> x.notes(60));
  }

  // ---- 16 round

  private static void goesRound(String text, int first, int more) {
    due("round(0) of " + text, told(text).round(0), first);
    due("round(1) of " + text, told(text).round(1), more);
  }

  @Says("the fewest BARS (0 to 60) behind which all NOTES are as they will be again")
  private static void promise16_atOnceAndLater() {
    goesRound(SIX, 0, 1);
    goesRound(SWING, 0, 2);
    goesRound(CHAIN, 2, 1);
  }

  @Says("by more BARS, 60 at most in all: how many; how many more")
  private static void promise16_theLongestThatWasFound() {
    // By the slow model. Of the new choirs that were tried none took longer, so none is known whose answer is NONE.
    goesRound("CS75743S53573S62850S25513S39580S04293", 9, 2);
  }

  @Says("how many more (1 and more, the fewest)")
  private static void promise16_nobodyIsAsAgainBehindOne() {
    JealousChoir x = new JealousChoir();
    due("round(0)", x.round(0), 0);
    due("round(1)", x.round(1), 1);
  }

  @Says("all NOTES are as they will be again")
  private static void promise16_allNotesNotSome() {
    // 0 is at rest from the first, 1 takes a bar, 2 takes two.
    goesRound("CS02001S35090S68950S79990", 1, 1);
    JealousChoir x = told(CHAIN);
    x.bar();
    due("round(0), from now", x.round(0), 1);
    x.bar();
    due("round(0), from now", x.round(0), 0);
  }

  @Says("how many more (1); NONE. OUTSIDE.")
  private static void promise16_what2IsOutside() {
    for (int what : new int[] {-1, 2, LEAST, MOST}) refused("round(" + what + ")", x -> x.round(what), O);
  }

  @Says("In what follows nothing is changed.")
  private static void promise16_changesNothing() {
    onlyAsks("round(0)", x -> x.round(0));
    onlyAsks("round(1)", x -> x.round(1));
  }

  // ---- 17 unison

  @Says("(nobody: 0)")
  private static void promise17_nobody() {
    due("unison()", new JealousChoir().unison(), 0);
  }

  @Says("in how many BARS (0 to 60) all sing one NOTE first")
  private static void promise17_nowAndLater() {
    due("unison(), one alone", told("CS05000").unison(), 0);
    due("unison(), now", told("CS05000S15000").unison(), 0);
    due("unison(), in one bar", told(SWING).unison(), 1);
    due("unison(), in two", told(CHAIN).unison(), 2);
    due("unison(), the longest found, by the slow model", told("CS53213S67370S74782S28520S31930S41710").unison(), 5);
    JealousChoir x = told(SWING);
    x.bar();
    due("unison(), from now", x.unison(), 0);
    x.bar();
    due("unison(), from now", x.unison(), 1);
  }

  @Says("ONE; NONE.")
  private static void promise17_never() {
    due("unison()", told(SIX).unison(), N);
    due("unison(), two alike and one not", told("CS05000S15000S26000").unison(), N);
  }

  @Says("In what follows nothing is changed.")
  private static void promise17_changesNothing() {
    onlyAsks("unison()", x -> x.unison());
  }

  // ---- 18 gets

  private static void gets(String text, int singer, int note, int n, int much, int whom) {
    String call = "gets(" + singer + ", " + note + ", " + n + ", ";
    due(call + "0) of " + text, told(text).gets(singer, note, n, 0), much);
    due(call + "1) of " + text, told(text).gets(singer, note, n, 1), whom);
  }

  @Says("UNKNOWN; OUTSIDE: note, n, what. | NOTES are 0 to 9.")
  private static void promise18_theEdgesOfTheNote() {
    for (int note : new int[] {-1, 10, LEAST, MOST}) refused("gets(0, " + note + ", 1, 0)", x -> x.gets(0, note, 1, 0), O);
    gets("CS00000", 0, 0, 1, 0, N);
    gets("CS09000", 0, 9, 1, 0, N);
  }

  @Says("GETS for a SINGER, a NOTE and n BARS (1 to 9)")
  private static void promise18_theEdgesOfTheBars() {
    for (int n : new int[] {-1, 0, 10, LEAST, MOST}) refused("gets(0, 0, " + n + ", 0)", x -> x.gets(0, 0, n, 0), O);
    gets(SWING, 0, 5, 1, 0, N);
    gets(SWING, 0, 0, 8, 0, N);
    gets(SWING, 0, 5, 9, 0, N);
    gets(SWING, 0, 0, 9, N, N);
  }

  @Says("how much (what = 0), to whom (1); NONE. UNKNOWN; OUTSIDE: note, n, what.")
  private static void promise18_what2IsOutside() {
    for (int what : new int[] {-1, 2, LEAST, MOST}) refused("gets(0, 0, 1, " + what + ")", x -> x.gets(0, 0, 1, what), O);
  }

  @Says("UNKNOWN (there is no such SINGER")
  private static void promise18_noSuchSinger() {
    for (int who : NOBODY) refused("gets(" + who + ", 0, 1, 0)", x -> x.gets(who, 0, 1, 0), U);
  }

  @Says("of several the first that a call names")
  private static void promise18_unknownGoesBeforeOutside() {
    refused("gets(4, 10, 1, 0)", x -> x.gets(4, 10, 1, 0), U);
    refused("gets(4, 0, 0, 0)", x -> x.gets(4, 0, 0, 0), U);
    refused("gets(4, 0, 1, 2)", x -> x.gets(4, 0, 1, 2), U);
  }

  @Says("the least GIFT (0, to nobody")
  private static void promise18_noGiftIsNeeded() {
    gets(CHAIN, 0, 5, 2, 0, N);
    gets(CHAIN, 0, 0, 1, 0, N);
  }

  @Says("else 1 to 9, to any one SINGER, now")
  private static void promise18_oneNineAndTen() {
    gets("CS05900S17000", 0, 7, 1, 1, 1);
    gets("CS05980S17000", 0, 7, 1, 9, 1);
    gets("CS05990S17000", 0, 7, 1, N, N);
  }

  @Says("to any one SINGER, now")
  private static void promise18_toHimself() {
    // Out of envy he sings his voice again, and just as many goods are enough for that.
    gets("CS05910S17020", 0, 5, 1, 1, 0);
    gets("CS05900S17090S20003", 0, 5, 1, 9, 0);
  }

  @Says("to whom (the least; NONE: nobody)")
  private static void promise18_ofTwoTheLeast() {
    gets("CS00950S17050S27050", 0, 7, 1, 1, 1);
    gets("CS17050S27050S00950", 2, 7, 1, 1, 0);
    // Less to the greater number goes before more to the lesser.
    gets("CS00950S17040S27050", 0, 7, 1, 1, 2);
  }

  @Says("(99 at most)")
  private static void promise18_noGiftGoesAbove99() {
    JealousChoir x = told("CS05900S10080S27090");
    for (int i = 0; i < 10; i++) x.gift(2, 9);
    for (int i = 0; i < 10; i++) x.gift(1, 9);
    due("singer(1, 3)", x.singer(1, 3), 98);
    due("singer(2, 3)", x.singer(2, 3), 99);
    due("gets(0, 0, 1, 0), like ones, the lesser", x.gets(0, 0, 1, 0), 1);
    due("gets(0, 0, 1, 1)", x.gets(0, 0, 1, 1), 1);
    x = told("CS05900S17090S20080");
    for (int i = 0; i < 10; i++) x.gift(1, 9);
    for (int i = 0; i < 10; i++) x.gift(2, 9);
    due("gets(0, 0, 1, 0), like ones, the greater", x.gets(0, 0, 1, 0), N);
    due("gets(0, 0, 1, 1)", x.gets(0, 0, 1, 1), N);
  }

  @Says("by which it sings that NOTE behind n BARS: how much; to whom (the least; NONE: nobody); NONE.")
  private static void promise18_noGiftDoes() {
    gets(CHAIN, 2, 7, 9, N, N);
    gets("CS05901S17000", 0, 7, 1, N, N);
    gets("CS05900S47000", 0, 7, 9, N, N);
    gets(SIX, 5, 9, 9, N, N);
  }

  @Says("In what follows nothing is changed.")
  private static void promise18_changesNothing() {
    for (int note = 0; note < 10; note++) {
      int v = note;
      onlyAsks("gets(0, " + v + ", 9, 0)", x -> x.gets(0, v, 9, 0));
    }
  }

  // ---- 19 best

  private static void best(String text, int n, int many, int which) {
    due("best(" + n + ", 0) of " + text, told(text).best(n, 0), many);
    due("best(" + n + ", 1) of " + text, told(text).best(n, 1), which);
  }

  @Says("BEST for n BARS (1 to 9)")
  private static void promise19_theEdgesOfTheBars() {
    for (int n : new int[] {-1, 0, 10, LEAST, MOST}) refused("best(" + n + ", 0)", x -> x.best(n, 0), O);
    best(CHAIN, 1, 2, 99);
    best(CHAIN, 2, 2, 1);
    best(SWING, 8, 2, 99);
    best(SWING, 9, 1, 99);
  }

  @Says("BEST: how many (what = 0), which (1). OUTSIDE: n, what.")
  private static void promise19_what2IsOutside() {
    for (int what : new int[] {-1, 2, LEAST, MOST}) refused("best(1, " + what + ")", x -> x.best(1, what), O);
    refused("best(0, 2)", x -> x.best(0, 2), O);
  }

  @Says("of all changes of two SINGERS (or none)")
  private static void promise19_nobodyAndOneAlone() {
    best("C", 1, 0, 99);
    best("CS05000", 9, 1, 99);
  }

  @Says("of like ones none (99)")
  private static void promise19_noneGoesBeforeLikeOnes() {
    best(SIX, 1, 6, 99);
    best("CS05000S15000", 1, 1, 99);
  }

  // The plain one takes the note of the held one at seat 2, who has 9, from all seats but 6 and 7.

  @Says("of like ones none (99), then the least")
  private static void promise19_ofLikeOnesTheLeast() {
    best("CS20091S11001S32001S63001S74001S45900", 1, 6, 35);
    best("CS45900S20091S11001S32001S63001S74001", 1, 6, 4);
  }

  @Says("10 times the lesser SINGER and the other one")
  private static void promise19_theFirstAndTheLastPair() {
    best("CS20091S11001S32001S53001S74001S45900", 1, 6, 45);
    best("CS45900S74001S20091S11001S32001S53001", 1, 6, 1);
    best("CS45900S20091S11001S32001S53001S74001", 9, 6, 5);
  }

  @Says("In what follows nothing is changed.")
  private static void promise19_changesNothing() {
    onlyAsks("best(9, 0)", x -> x.best(9, 0));
    onlyAsks("best(9, 1)", x -> x.best(9, 1));
  }

  // ---- 20 judge

  private static void judged(String text, int n, long row, int want) {
    due("judge(" + n + ", " + row + ") of " + text, told(text).judge(n, row), want);
  }

  @Says("n doings (1 to 4) | JUDGED; NONE. OUTSIDE: n")
  private static void promise20_theEdgesOfTheNumber() {
    for (int n : new int[] {-1, 0, 5, LEAST, MOST}) refused("judge(" + n + ", 0)", x -> x.judge(n, 0), O);
    judged(CHAIN, 1, 0, N);
    judged(CHAIN, 4, 0, N);
  }

  @Says("row (0 or more, 3 n figures at most)")
  private static void promise20_aRowBelow0() {
    for (long row : new long[] {-1, -1000, Long.MIN_VALUE}) refused("judge(4, " + row + ")", x -> x.judge(4, row), O);
  }

  @Says("row (0 or more, 3 n figures at most)")
  private static void promise20_moreFiguresThanThreeADoing() {
    long most = 999;
    for (int n = 1; n <= 4; n++) {
      int many = n;
      long row = most;
      judged(CHAIN, n, row, 0);
      refused("judge(" + n + ", " + (row + 1) + ")", x -> x.judge(many, row + 1), O);
      most = most * 1000 + 999;
    }
    refused("judge(1, most)", x -> x.judge(1, Long.MAX_VALUE), O);
    refused("judge(4, most)", x -> x.judge(4, Long.MAX_VALUE), O);
    refused("judge(1, 2^32)", x -> x.judge(1, 1L << 32), O);
  }

  @Says("0, 0, 0: A BAR")
  private static void promise20_aBarOfNobodyAndLeadingFigures() {
    judged("C", 4, 0, N);
    // With fewer figures the first doings are bars.
    judged(CHAIN, 2, 415, N);
    judged(CHAIN, 3, 405, N);
    judged(CHAIN, 1, 1, 0);
    judged(CHAIN, 1, 10, 0);
    judged(CHAIN, 2, 10, 1);
  }

  @Says("1, a SINGER, n: GIFT")
  private static void promise20_aGiftTheEdges() {
    judged(CHAIN, 1, 101, N);
    judged(CHAIN, 1, 129, N);
    judged(CHAIN, 1, 100, 0);
    judged(CHAIN, 1, 131, 0);
    judged(SIX, 1, 151, N);
    judged(SIX, 1, 161, 0);
    judged("C", 1, 101, 0);
  }

  @Says("1, a SINGER, n: GIFT | (99 at most)")
  private static void promise20_aGiftAt99CanBeAndAddsNothing() {
    JealousChoir x = told("CS05900S17090S20090");
    for (int i = 0; i < 10; i++) x.gift(1, 9);
    for (int i = 0; i < 10; i++) x.gift(2, 9);
    due("judge(2, 129501)", x.judge(2, 129501), N);
    due("judge(2, 129502)", x.judge(2, 129502), 1);
  }

  @Says("2, two SINGERS: CHANGED")
  private static void promise20_aChangeTheEdges() {
    judged(CHAIN, 1, 202, N);
    judged(CHAIN, 1, 220, N);
    judged(CHAIN, 1, 200, 0);
    judged(CHAIN, 1, 222, 0);
    judged(CHAIN, 1, 203, 0);
    judged(CHAIN, 1, 230, 0);
    judged(CHAIN, 1, 233, 0);
    judged(SIX, 1, 245, N);
    judged(SIX, 1, 265, 0);
    judged("CS00000", 1, 201, 0);
  }

  @Says("3, 0, 0: PITCH")
  private static void promise20_aPitchTheEdges() {
    judged("C", 1, 300, N);
    judged(CHAIN, 1, 301, 0);
    judged(CHAIN, 1, 310, 0);
    judged(CHAIN, 3, 300410L, N);
    judged(CHAIN, 3, 300415L, 2);
  }

  @Says("4, a SINGER, v: it sings NOTE v; 5, two SINGERS: the one ENVIES the other")
  private static void promise20_whatIsToldMovesNothing() {
    judged(CHAIN, 4, 415415415L, N);
    judged(CHAIN, 4, 415512405L, 3);
  }

  @Says("4, a SINGER, v: it sings NOTE v")
  private static void promise20_aNoteThatIsNotSung() {
    judged(CHAIN, 1, 425, N);
    judged(CHAIN, 1, 424, 0);
    judged(CHAIN, 1, 426, 0);
    judged(CHAIN, 1, 430, 0);
    judged("CS09000", 1, 409, N);
    judged("CS00000", 1, 400, N);
    judged("C", 1, 400, 0);
  }

  @Says("5, two SINGERS: the one ENVIES the other")
  private static void promise20_anEnvyThatIsNot() {
    judged(CHAIN, 1, 501, N);
    judged(CHAIN, 1, 510, 0);
    judged(CHAIN, 1, 502, 0);
    judged(CHAIN, 1, 500, 0);
    judged(CHAIN, 1, 522, 0);
    judged(CHAIN, 1, 529, 0);
    judged(CHAIN, 1, 530, 0);
    judged("C", 1, 500, 0);
  }

  @Says("told as three figures each")
  private static void promise20_noSuchDoing() {
    for (int kind = 6; kind <= 9; kind++) judged(CHAIN, 1, 100 * kind, 0);
    judged(CHAIN, 2, 600, 1);
  }

  @Says("the place of the first that can not be (or is not so); NONE: none.")
  private static void promise20_theFirstAndTheLastPlace() {
    judged(CHAIN, 4, 600600600600L, 0);
    judged(CHAIN, 4, 600600600L, 1);
    judged(CHAIN, 4, 600600L, 2);
    judged(CHAIN, 4, 600L, 3);
    // Each doing counts for those behind it.
    judged(CHAIN, 4, 112521000420L, N);
    judged(CHAIN, 4, 202000415405L, 3);
    judged(CHAIN, 4, 202000414405L, 2);
  }

  @Says("In what follows nothing is changed.")
  private static void promise20_changesNothing() {
    onlyAsks("judge(4, 000119201300)", x -> x.judge(4, 119201300L));
    onlyAsks("judge(4, 119201300000)", x -> x.judge(4, 119201300000L));
  }

  // ---- 21 hear

  @Says("behind n BARS (0 to 9) from now on a SINGER sang NOTE v")
  private static void promise21_theEdgesOfTheBars() {
    JealousChoir x = told(CHAIN);
    due("hear(0, 0, 0)", x.hear(0, 0, 0), 1);
    due("hear(0, 9, 5)", x.hear(0, 9, 5), 2);
    due("had(0), less than the next one's 2", x.had(0), 3);
    for (int n : new int[] {-1, 10, LEAST, MOST}) refused("hear(0, " + n + ", 0)", y -> y.hear(0, n, 0), O);
  }

  @Says("NOTES are 0 to 9. | UNKNOWN; OUTSIDE: n, v; FULL: 6.")
  private static void promise21_theEdgesOfTheNote() {
    JealousChoir x = told("CS00000S19000");
    due("hear(0, 0, 0)", x.hear(0, 0, 0), 1);
    due("hear(1, 0, 9)", x.hear(1, 0, 9), 2);
    due("had(0)", x.had(0), 1023);
    for (int v : new int[] {-1, 10, LEAST, MOST}) refused("hear(0, 0, " + v + ")", y -> y.hear(0, 0, v), O);
  }

  @Says("UNKNOWN (there is no such SINGER")
  private static void promise21_noSuchSinger() {
    for (int who : NOBODY) refused("hear(" + who + ", 0, 0)", x -> x.hear(who, 0, 0), U);
  }

  /** An object on which six are heard, all so. */
  private static JealousChoir sixHeard() {
    JealousChoir x = told(CHAIN);
    for (int i = 0; i < 6; i++) x.hear(2, i, 5);
    return x;
  }

  @Says("6 such at most | HEARD: how many there are. | FULL: 6.")
  private static void promise21_theSeventhIsFull() {
    JealousChoir x = told(CHAIN);
    for (int i = 1; i <= 6; i++) due("hear, the " + i + "th", x.hear(2, 0, 5), i);
    changesNothing(BoundaryTest::sixHeard, "hear(2, 0, 4), the 7th", y -> y.hear(2, 0, 4), F);
    x.unhear();
    due("hear behind unhear", x.hear(2, 0, 5), 1);
  }

  @Says("of several the first that a call names")
  private static void promise21_unknownThenOutsideThenFull() {
    refused("hear(4, 10, 0)", x -> x.hear(4, 10, 0), U);
    refused("hear(4, 0, 10)", x -> x.hear(4, 0, 10), U);
    changesNothing(BoundaryTest::sixHeard, "hear(3, 0, 0), the 7th", x -> x.hear(3, 0, 0), U);
    changesNothing(BoundaryTest::sixHeard, "hear(0, 10, 0), the 7th", x -> x.hear(0, 10, 0), O);
    changesNothing(BoundaryTest::sixHeard, "hear(0, 0, 10), the 7th", x -> x.hear(0, 0, 10), O);
  }

  // ---- 22 unhear

  @Says("Nothing is HEARD: how much there was.")
  private static void promise22_noneAndSix() {
    JealousChoir x = new JealousChoir();
    due("unhear(), nothing", x.unhear(), 0);
    x = sixHeard();
    x.hear(2, 0, 4);
    due("unhear(), six", x.unhear(), 6);
    due("count(9)", x.count(9), 0);
    due("unhear(), twice", x.unhear(), 0);
    x.hear(2, 0, 4);
    due("had(0), not so", x.had(0), 0);
    due("unhear(), one", x.unhear(), 1);
    due("had(0), nothing is heard", x.had(0), 1023);
  }

  // ---- 23 had

  @Says("HAD, as bits. UNKNOWN.")
  private static void promise23_noSuchSinger() {
    for (int who : NOBODY) refused("had(" + who + ")", x -> x.had(who), U);
    due("had(0), nobody", new JealousChoir().had(0), U);
  }

  @Says("GOODS 0 to 9 (bits) that it may have now")
  private static void promise23_nothingHeardIsAllTen() {
    due("had(0)", told(CHAIN).had(0), 1023);
    due("had(5)", told(SIX).had(5), 1023);
  }

  @Says("so that all that is HEARD is so")
  private static void promise23_whatCanNotBeIsNone() {
    JealousChoir x = told(CHAIN);
    x.hear(2, 0, 5);
    due("had(0)", x.had(0), 1023);
    x.hear(2, 0, 6);
    due("had(0), two notes at once", x.had(0), 0);
  }

  @Says("GOODS 0 to 9 (bits) that it may have now, in place of what it has")
  private static void promise23_theLeastAndTheGreatestGoods() {
    JealousChoir x = told("CS00900S15010");
    x.hear(0, 1, 5);
    due("had(0), 0 alone", x.had(0), 1);
    due("had(1), all but 0", x.had(1), 1022);
    x = told("CS00900S15080S20080");
    x.hear(1, 1, 5);
    x.hear(0, 1, 0);
    due("had(0), 8 and 9", x.had(0), 768);
  }

  @Says("in place of what it has")
  private static void promise23_oneWhoHasMoreThan9() {
    JealousChoir x = told("CS00900S15050");
    for (int i = 0; i < 5; i++) x.gift(0, 9);
    x.hear(0, 1, 0);
    due("had(0), 5 to 9, with 45 now", x.had(0), 992);
    due("singer(0, 3)", x.singer(0, 3), 45);
    due("had(1), any is less than 45", x.had(1), 1023);
  }

  @Says("behind n BARS (0 to 9) from now on")
  private static void promise23_behind0And9Bars() {
    JealousChoir x = told(SWING);
    x.hear(0, 0, 0);
    x.hear(0, 9, 5);
    due("had(1)", x.had(1), 1023);
    x.hear(0, 8, 5);
    due("had(1), not so behind 8", x.had(1), 0);
  }

  @Says("that it may have now | so that all that is HEARD is so")
  private static void promise23_theBarsAreCountedFromWhenItIsAsked() {
    JealousChoir x = told(SWING);
    x.hear(0, 0, 0);
    x.hear(0, 1, 5);
    due("had(1)", x.had(1), 1023);
    x.bar();
    due("had(1), a bar later 5, then 0", x.had(1), 0);
    x.bar();
    due("had(1), two bars later 0, then 5 again", x.had(1), 1023);
    x.undo();
    due("had(1), one undone", x.had(1), 0);
  }

  @Says("(of SINGERS that there are not any more nothing is looked at)")
  private static void promise23_ofSingersThatAreGone() {
    JealousChoir x = told(SIX);
    x.hear(5, 0, 9);
    due("had(0), not so", x.had(0), 0);
    tell(x, SIX.substring(0, 31));
    due("had(0), of five", x.had(0), 1023);
    due("count(9)", x.count(9), 1);
    tell(x, SIX);
    due("had(0), of six again", x.had(0), 0);
  }

  @Says("In what follows nothing is changed.")
  private static void promise23_changesNothing() {
    for (int i = 0; i < 4; i++) {
      int who = i;
      onlyAsks("had(" + who + ")", x -> x.had(who));
    }
  }

  // ---- 24 share

  private static void share(String text, int singer, int above, int below) {
    due("share(" + singer + ", true) of " + text, told(text).share(singer, true), above);
    due("share(" + singer + ", false) of " + text, told(text).share(singer, false), below);
  }

  @Says("refusals of them are told likewise | SHARE. UNKNOWN.")
  private static void promise24_noSuchSinger() {
    for (int who : NOBODY) {
      refused("share(" + who + ", true)", x -> x.share(who, true), U);
      refused("share(" + who + ", false)", x -> x.share(who, false), U);
    }
    due("share(0, false), nobody", new JealousChoir().share(0, false), U);
  }

  @Says("FRACTIONS are told above (upper = true; below 0, if they are)")
  private static void promise24_below0() {
    // Three who would sing three notes all take that of the generous one: 1 + 0 - 1 - 2 by 4.
    share("CS01900S12900S23900S34092", 3, -1, 2);
  }

  @Says("below (1 and more), in least terms")
  private static void promise24_zeroAndWholeAreBy1() {
    share("CS05000", 0, 1, 1);
    share(SIX, 5, 1, 1);
    share(CHAIN, 1, 0, 1);
  }

  @Says("in least terms")
  private static void promise24_inLeastTerms() {
    share("CS05002S15002", 0, 1, 2);
    share("CS05002S15002S25002S35002S45002S55002", 0, 1, 6);
    share("CS05002S15002S25002S35002S45002S56002", 4, 1, 5);
    share("CS05002S15002S25002S35002S46002S56002", 5, 1, 2);
  }

  @Says("(others are not there)")
  private static void promise24_whoHasNotComeIsNotSeen() {
    // Of 0 and 2 alone neither sees the other; only where 1 comes between them is it one note.
    share(CHAIN, 0, 1, 2);
    share(CHAIN, 2, 1, 2);
  }

  @Says("(others are not there)")
  private static void promise24_whoWasInAChoirBeforeIsNotThere() {
    JealousChoir x = told(SIX);
    x.share(0, true);
    tell(x, "CS05002S15002");
    due("share(0, true), of two behind six", x.share(0, true), 1);
    due("share(0, false), of two behind six", x.share(0, false), 2);
  }

  @Says("NOTES that are sung behind 6 BARS")
  private static void promise24_behindSixBarsFromNow() {
    JealousChoir x = told(SWING);
    due("share(0, true), together two notes behind 6", x.share(0, true), 1);
    due("share(0, false)", x.share(0, false), 1);
    x.bar();
    // Now 5 5: together one note behind 6 bars, 5, and each alone one.
    due("share(0, true), a bar later", x.share(0, true), 1);
    due("share(0, false), a bar later", x.share(0, false), 2);
  }

  @Says("In what follows nothing is changed.")
  private static void promise24_changesNothing() {
    onlyAsks("share(0, true)", x -> x.share(0, true));
    onlyAsks("share(3, false)", x -> x.share(3, false));
  }

  // ---- 25 rests

  private static void rests(String text, int one, int other, int many, int first) {
    due("rests(" + one + ", " + other + ", 0) of " + text, told(text).rests(one, other, 0), many);
    due("rests(" + one + ", " + other + ", 1) of " + text, told(text).rests(one, other, 1), first);
  }

  @Says("UNKNOWN: both")
  private static void promise25_noSuchOneOrOther() {
    for (int who : NOBODY) {
      refused("rests(" + who + ", 0, 0)", x -> x.rests(who, 0, 0), U);
      refused("rests(0, " + who + ", 1)", x -> x.rests(0, who, 1), U);
    }
  }

  @Says("OUTSIDE: both are one, what.")
  private static void promise25_bothAreOneOrNoSuchWhat() {
    refused("rests(0, 0, 0)", x -> x.rests(0, 0, 0), O);
    refused("rests(3, 3, 1)", x -> x.rests(3, 3, 1), O);
    for (int what : new int[] {-1, 2, LEAST, MOST}) refused("rests(0, 1, " + what + ")", x -> x.rests(0, 1, what), O);
  }

  @Says("of several the first that a call names")
  private static void promise25_unknownGoesBeforeOutside() {
    refused("rests(4, 4, 0)", x -> x.rests(4, 4, 0), U);
    refused("rests(4, 0, 2)", x -> x.rests(4, 0, 2), U);
    refused("rests(0, -1, -1)", x -> x.rests(0, -1, -1), U);
  }

  @Says("pairs of SINGERS to whom they give")
  private static void promise25_whereNothingMovesAllRest() {
    rests(SIX, 0, 5, 36, 0);
    rests("CS01001S12001", 1, 0, 4, 0);
  }

  @Says("the first (10 times the one and the other)")
  private static void promise25_theOneThenTheOther() {
    // Each patron gives to his own: that one is not envied less than the other.
    rests("CS01950S12950", 0, 1, 1, 1);
    rests("CS01950S12950", 1, 0, 1, 10);
  }

  @Says("gives 4 GOODS now")
  private static void promise25_fourGoodsEach() {
    // Both to 0 who has 8 less: as many then. Both to 0 who has 9 less: less still, so that nothing is had by any gift.
    rests("CS01900S12980", 0, 1, 2, 1);
    rests("CS01900S12990", 0, 1, 4, 0);
  }

  @Says("in which neither has more by another one alone")
  private static void promise25_justAsManyByAnotherIsNoMore() {
    // 1 has 4 more: unless both give to 0, both sing the voice of 1, whatever the first patron does where the second gives to 1.
    rests("CS01900S12940", 0, 1, 2, 1);
  }

  @Says("how many; the first (10 times the one and the other); NONE. | RESTS: how many (what = 0), the first (1); NONE.")
  private static void promise25_noneRests() {
    rests("CS21530S00893S51300", 0, 1, 0, N);
  }

  @Says("gives 4 GOODS now to any one SINGER (99 at most)")
  private static void promise25_noGiftGoesAbove99() {
    JealousChoir x = told("CS01990S12990");
    for (int i = 0; i < 10; i++) x.gift(0, 9);
    for (int i = 0; i < 10; i++) x.gift(1, 9);
    // Both have 99 and nobody envies, whatever is given: each has one.
    due("rests(0, 1, 0)", x.rests(0, 1, 0), 4);
    due("rests(0, 1, 1)", x.rests(0, 1, 1), 0);
  }

  @Says("In what follows nothing is changed.")
  private static void promise25_changesNothing() {
    onlyAsks("rests(0, 1, 0)", x -> x.rests(0, 1, 0));
    onlyAsks("rests(3, 1, 1)", x -> x.rests(3, 1, 1));
  }

  // ---- 26 hoarse

  private static void hoarse(String text, int n, int x, int above, int below) {
    due("hoarse(" + n + ", " + x + ", true) of " + text, told(text).hoarse(n, x, true), above);
    due("hoarse(" + n + ", " + x + ", false) of " + text, told(text).hoarse(n, x, false), below);
  }

  @Says("behind n BARS (0 to 9) all who are not sing one NOTE")
  private static void promise26_theEdgesOfTheBars() {
    for (int n : new int[] {-1, 10, LEAST, MOST}) {
      refused("hoarse(" + n + ", 5, true)", x -> x.hoarse(n, 5, true), O);
      refused("hoarse(" + n + ", 5, false)", x -> x.hoarse(n, 5, false), O);
    }
    hoarse(SWING, 0, 0, 0, 1);
    hoarse(SWING, 1, 0, 1, 1);
    hoarse(SWING, 8, 0, 0, 1);
    hoarse(SWING, 9, 0, 1, 1);
  }

  @Says("each SINGER is hoarse by x tenths (0 to 10) | HOARSE. OUTSIDE: n, x.")
  private static void promise26_theEdgesOfTheTenths() {
    for (int tenths : new int[] {-1, 11, LEAST, MOST}) {
      refused("hoarse(0, " + tenths + ", true)", x -> x.hoarse(0, tenths, true), O);
      refused("hoarse(0, " + tenths + ", false)", x -> x.hoarse(0, tenths, false), O);
    }
    hoarse(SIX, 0, 0, 0, 1);
    hoarse(SIX, 9, 10, 1, 1);
    hoarse("CS05000", 9, 0, 1, 1);
  }

  @Says("(nobody: so, too)")
  private static void promise26_nobodyIsOneNoteToo() {
    for (int x = 0; x <= 10; x++) hoarse("C", 9, x, 1, 1);
    // Neither, or one of the two.
    hoarse("CS01002S12002", 0, 5, 3, 4);
    hoarse("CS01002S12002", 0, 9, 99, 100);
  }

  @Says("(as if it was not there)")
  private static void promise26_hoarseOnesAreNotSeen() {
    // Behind two bars it is one note unless 1 alone is hoarse: 0 and 2 do not see each other.
    hoarse(CHAIN, 2, 5, 7, 8);
    hoarse(CHAIN, 2, 1, 919, 1000);
  }

  @Says("below (1 and more), in least terms")
  private static void promise26_sixSingersInLeastTerms() {
    // Nobody or one of six: 1 + 6 * 9 by a million.
    hoarse(SIX, 0, 1, 11, 200000);
    // Three of one note: 1 + 6 * 9 + 3 * 81 + 729 is no multiple of 2 or 5.
    hoarse("CS05002S15002S25002S36002S47002S58002", 0, 1, 1027, 1000000);
  }

  @Says("In what follows nothing is changed.")
  private static void promise26_changesNothing() {
    onlyAsks("hoarse(9, 5, true)", x -> x.hoarse(9, 5, true));
    onlyAsks("hoarse(9, 10, false)", x -> x.hoarse(9, 10, false));
  }

  // ---- 27 seed

  @Says("THE SEED is v: what it was. | (THE SEED, a long; 0 at first)")
  private static void promise27_theLeastAndTheGreatestLong() {
    JealousChoir x = new JealousChoir();
    due("seed(least)", x.seed(Long.MIN_VALUE), 0);
    due("seed(greatest)", x.seed(Long.MAX_VALUE), Long.MIN_VALUE);
    due("seed(-1)", x.seed(-1), Long.MAX_VALUE);
    due("seed(0)", x.seed(0), -1);
    due("seed(0)", x.seed(0), 0);
  }

  @Says("ACTS (BARS, GIFT, CHANGED, PITCH, HELD_ON) are a row | SLOTS 0 to 1 keep SEATS, GOODS, NOTES, who is HELD_ON, THE BAR")
  private static void promise27_isNotUndoneAndNotKept() {
    JealousChoir x = told(CHAIN);
    x.keep(0);
    x.bar();
    x.seed(5);
    due("count(8)", x.count(8), 1);
    x.undo();
    x.again(0);
    due("seed(0)", x.seed(0), 5);
  }

  // ---- 28 years

  private static final long FACTOR = 6364136223846793005L, ADDEND = 1442695040888963407L;

  /** A seed by which the first lots are these. */
  private static long seedFor(int... lots) {
    for (long start = 0; start < 10000000; start++) {
      long seed = start;
      int met = 0;
      while (met < lots.length) {
        seed = seed * FACTOR + ADDEND;
        if ((seed >>> 33) % 28 != lots[met]) break;
        met++;
      }
      if (met == lots.length) return start;
    }
    throw new IllegalStateException("no such seed");
  }

  private static void years(JealousChoir x, int want, int... lots) {
    x.seed(seedFor(lots));
    due("years(" + lots.length + ") of lots " + java.util.Arrays.toString(lots), x.years(lots.length), want);
  }

  @Says("m times (1 to 30) | YEARS. OUTSIDE: m.")
  private static void promise28_theEdgesOfTheTimes() {
    for (int m : new int[] {-1, 0, 31, LEAST, MOST}) refused("years(" + m + ")", x -> x.years(m), O);
    JealousChoir x = told("CS05000");
    due("years(1)", x.years(1), 1);
    due("seed(0), one step", x.seed(0), ADDEND);
    due("years(30)", x.years(30), 30);
    long seed = 0;
    for (int i = 0; i < 30; i++) seed = seed * FACTOR + ADDEND;
    due("seed(0), 30 steps", x.seed(0), seed);
  }

  @Says("(64 bits, wrapping)")
  private static void promise28_theSeedWraps() {
    JealousChoir x = new JealousChoir();
    x.seed(-1);
    x.years(1);
    due("seed, from -1", x.seed(Long.MAX_VALUE), -4921441182957829598L);
    x.years(1);
    due("seed, from the greatest", x.seed(Long.MIN_VALUE), 4301930853896946210L);
    x.years(1);
    due("seed, from the least", x.seed(0), -7780676995965812401L);
  }

  @Says("its upper 31 bits by 28, what is left")
  private static void promise28_theUpperBitsHaveNoSign() {
    // From 74 the seed goes below 0; its upper 31 bits are 1306200139, by 28 27 is left: a bar. With the sign cast off it were 17.
    JealousChoir x = told(SWING);
    x.seed(74);
    due("years(1)", x.years(1), 1);
    due("seed(0)", x.seed(0), -7226570310896696239L);
  }

  @Says("each if there are such | how many NOTES are sung, each time, together.")
  private static void promise28_ofNobody() {
    JealousChoir x = new JealousChoir();
    due("years(30)", x.years(30), 0);
    long seed = 0;
    for (int i = 0; i < 30; i++) seed = seed * FACTOR + ADDEND;
    due("seed(0), it goes on", x.seed(0), seed);
  }

  @Says("0 to 5 that SINGER has a GIFT of 1")
  private static void promise28_lots0To5Give() {
    // He who has 1 more than the other is envied by him, and the note of both is his then.
    years(told("CS01900S12900"), 3, 0, 18);
    years(told("CS01900S12900"), 3, 1, 18);
    years(told("CS01900S12900"), 4, 2, 18);
    // 1 more is as many as the other has, not more.
    years(told("CS01900S12910"), 4, 0, 18);
    years(told(SIX.substring(0, 25) + "S64900S75000"), 11, 5, 18);
    years(told(SIX.substring(0, 25) + "S64900"), 10, 5, 18);
  }

  @Says("0 to 5 that SINGER has a GIFT of 1 | (99 at most)")
  private static void promise28_aGiftAt99AddsNothing() {
    JealousChoir x = told("CS01990S12990");
    for (int i = 0; i < 10; i++) x.gift(0, 9);
    for (int i = 0; i < 10; i++) x.gift(1, 9);
    years(x, 4, 0, 18);
    years(x, 4, 1, 18);
  }

  @Says("6 to 11 that less 6 SINGER is HELD_ON")
  private static void promise28_lots6To11Hold() {
    years(told(SWING), 4, 6, 18);
    years(told(SWING), 3, 7, 18);
    years(told(SWING), 5, 6, 6, 18);
    years(told(SWING), 3, 8, 18);
    String last = "CS05002S15002S25002S35002S45002S50903";
    years(told(last), 4, 11, 18);
    years(told(last), 3, 10, 18);
    years(told(last.substring(0, 31)), 2, 11, 18);
  }

  @Says("12 to 16 the SINGER of that less 12, and that of 1 more, are CHANGED")
  private static void promise28_lots12To16Change() {
    // The boy, 4, sees nobody who sings higher from seat 7, but does from the seat of 5: 0, 5 and 9 then.
    String far = "CS09002S19002S29002S60002S70503S39002";
    years(told(far), 4, 18, 18);
    years(told(far), 5, 16, 18);
    // A choir of five has no 1 more than the last.
    years(told(far.substring(0, 31)), 4, 16, 18);
    // 0 sees the rich one, 2; if either of them changes with 1 he does not.
    years(told("CS31900S72000S05090"), 4, 18, 18);
    years(told("CS31900S72000S05090"), 6, 12, 18);
    years(told("CS31900S72000S05090"), 6, 13, 18);
    years(told("CS31900S72000S05090"), 5, 14, 18);
  }

  @Says("17 PITCH")
  private static void promise28_lot17IsAPitch() {
    JealousChoir x = told(SWING);
    x.bar();
    years(x, 2, 17);
    x.hold(0);
    years(x, 2, 17);
  }

  @Says("18 and more A BAR")
  private static void promise28_lots18To27AreBars() {
    for (int lot = 18; lot < 28; lot++) years(told(SWING), 1, lot);
  }

  @Says("(Nothing changes but THE SEED.)")
  private static void promise28_nothingChangesButTheSeed() {
    changesNothing(BoundaryTest::lived, "years(30) and the seed given back", x -> {
      x.years(30);
      x.seed(77);
      return 0;
    }, 0);
    JealousChoir x = told(SWING);
    years(x, 1, 18);
    years(x, 1, 18);
    due("count(2)", x.count(2), 0);
  }

  // ---- 29 keep

  @Says("SLOTS 0 to 1")
  private static void promise29_slot2IsUnknown() {
    for (int slot : new int[] {-1, 2, 32, LEAST, MOST}) refused("keep(" + slot + ")", x -> x.keep(slot), U);
  }

  @Says("They are kept: THE BAR.")
  private static void promise29_bothSlotsEachItsOwn() {
    JealousChoir x = told(CHAIN);
    due("keep(0)", x.keep(0), 0);
    x.bar();
    due("keep(1)", x.keep(1), 1);
    x.bar();
    due("again(0)", x.again(0), 0);
    due("singer(1, 5)", x.singer(1, 5), 0);
    due("again(1)", x.again(1), 1);
    due("singer(1, 5)", x.singer(1, 5), 5);
    due("singer(0, 5)", x.singer(0, 5), 0);
  }

  @Says("They are kept")
  private static void promise29_aSlotIsKeptAnewAndOfNobody() {
    JealousChoir x = told(CHAIN);
    x.keep(0);
    x.bar();
    x.keep(0);
    x.bar();
    due("again(0), the later one", x.again(0), 1);
    x = new JealousChoir();
    due("keep(1), nobody", x.keep(1), 0);
    due("again(1), nobody", x.again(1), 0);
    due("again(0)", x.again(0), S);
  }

  @Says("ACTS (BARS, GIFT, CHANGED, PITCH, HELD_ON) are a row")
  private static void promise29_isNoActAndTheRowStays() {
    JealousChoir x = told(CHAIN);
    x.bar();
    x.keep(0);
    due("count(8)", x.count(8), 1);
    due("undo()", x.undo(), 0);
    due("again(0), kept all the same", x.again(0), 1);
  }

  // ---- 30 again

  @Says("SLOTS 0 to 1")
  private static void promise30_slot2IsUnknown() {
    for (int slot : new int[] {-1, 2, 32, 33, LEAST, MOST}) refused("again(" + slot + ")", x -> x.again(slot), U);
  }

  @Says("STATE: none were kept.")
  private static void promise30_noneWereKept() {
    refused("again(1)", x -> x.again(1), S);
    due("again(0)", told(CHAIN).again(0), S);
  }

  @Says("of several the first that a call names")
  private static void promise30_unknownGoesBeforeState() {
    due("again(2), none kept", new JealousChoir().again(2), U);
    due("again(-1), none kept", new JealousChoir().again(-1), U);
  }

  @Says("SLOTS 0 to 1 keep SEATS, GOODS, NOTES, who is HELD_ON, THE BAR")
  private static void promise30_theyAreAsTheyWere() {
    JealousChoir x = told(CHAIN);
    x.bar();
    x.hold(1);
    x.keep(1);
    x.bar();
    x.gift(0, 9);
    x.change(0, 2);
    x.hold(1);
    x.hold(0);
    due("again(1)", x.again(1), 1);
    due("count(2)", x.count(2), 1);
    due("seat(0)", x.seat(0), 0);
    due("seat(6)", x.seat(6), 2);
    due("singer(0, 3)", x.singer(0, 3), 1);
    due("singer(0, 5)", x.singer(0, 5), 0);
    due("count(7)", x.count(7), 2);
  }

  @Says("SLOTS 0 to 1 keep SEATS, GOODS, NOTES, who is HELD_ON, THE BAR")
  private static void promise30_theTextAndWhatIsHeardAreNotKept() {
    JealousChoir x = told(CHAIN);
    x.keep(0);
    x.write('S');
    x.hear(0, 0, 0);
    x.again(0);
    due("count(0)", x.count(0), 20);
    due("count(9)", x.count(9), 1);
  }

  @Says("(THE ROW of ACTS is empty when one goes on)")
  private static void promise30_theRowIsEmpty() {
    JealousChoir x = told(CHAIN);
    x.bar();
    x.keep(0);
    x.gift(0, 1);
    due("again(0)", x.again(0), 1);
    due("count(8)", x.count(8), 0);
    due("undo()", x.undo(), S);
    x.bar();
    due("undo(), of the new row", x.undo(), 0);
    due("count(2)", x.count(2), 1);
  }

  @Says("They are as they were kept: THE BAR.")
  private static void promise30_keptStillBehindGoingOn() {
    JealousChoir x = told(CHAIN);
    x.keep(0);
    for (int i = 0; i < 3; i++) {
      due("again(0)", x.again(0), 0);
      x.bar();
      x.gift(0, 9);
    }
    due("again(0)", x.again(0), 0);
    due("singer(0, 3)", x.singer(0, 3), 1);
  }

  // ---- 31 count

  @Says("9 HEARD. OUTSIDE.")
  private static void promise31_what10IsOutside() {
    for (int what : new int[] {-1, 10, 32, LEAST, MOST}) refused("count(" + what + ")", x -> x.count(what), O);
    due("count(9)", lived().count(9), 2);
    due("count(0)", lived().count(0), 26);
  }

  @Says("0 letters of THE TEXT, 1 SINGERS, 2 THE BAR")
  private static void promise31_ofNobodyAllAre0() {
    JealousChoir x = told("C");
    due("count(0)", x.count(0), 1);
    for (int what = 1; what < 10; what++) due("count(" + what + ")", x.count(what), 0);
  }

  @Says("3 SEATS that are taken (bits), 4 NOTES that are sung (bits), 5 GOODS of all, 6 who ENVIES anybody (bits), 7 who is HELD_ON (bits), 8 ACTS in the row")
  private static void promise31_whenAllIsFull() {
    JealousChoir x = told("CS09090S11090S22090S53090S64090S75090");
    for (int i = 37; i < 48; i++) x.write('S');
    for (int i = 0; i < 6; i++) x.hold(i);
    for (int i = 0; i < 60; i++) x.gift(i % 6, 9);
    for (int i = 0; i < 7; i++) x.hear(0, 0, 0);
    int[] want = {48, 6, 0, 231, 574, 594, 0, 63, 14, 6};
    for (int what = 0; what < 10; what++) due("count(" + what + ")", x.count(what), want[what]);
  }

  @Says("6 who ENVIES anybody (bits)")
  private static void promise31_whoEnvies() {
    due("count(6), 0 and 1", told(CHAIN).count(6), 3);
    due("count(6), the last of six", told("CS09992S19992S29992S39992S49992S50000").count(6), 32);
    due("count(6), nobody", told(SIX).count(6), 0);
  }

  // ---- the run

  private static void run(Method m) throws IllegalAccessException {
    test = m.getName();
    try {
      m.invoke(null);
    } catch (InvocationTargetException e) {
      complain("threw " + e.getCause());
    }
  }

  /** The words of each test stand in the document, so that no test outlives its sentence. */
  private static void quotes(Method m, String document) {
    test = m.getName();
    Says says = m.getAnnotation(Says.class);
    if (says == null) {
      complain("tells no words of the document");
      return;
    }
    for (String words : says.value().split(" \\| ")) {
      if (document != null && !document.contains(words)) complain("the document does not say: " + words);
    }
  }

  public static void main(String[] args) throws Exception {
    Path path = Path.of("../shared/DOC.md");
    String document = Files.exists(path) ? Files.readString(path).replaceAll("\\s+", " ") : null;
    Map<String, Method> tests = new TreeMap<>();
    int met = 0;
    for (Method m : BoundaryTest.class.getDeclaredMethods()) if (m.getName().startsWith("promise")) tests.put(m.getName(), m);
    for (Method m : tests.values()) {
      run(m);
      quotes(m, document);
      met |= 1 << Integer.parseInt(m.getName().substring(7, 9)) - 1;
    }
    test = "main";
    due("the promises that have tests", met, MOST);
    System.out.println("BoundaryTest: " + tests.size() + " tests, " + (wrong == 0 ? "all answers are as due" : wrong + " answers are not as due"));
    if (wrong != 0) System.exit(1);
  }
}
