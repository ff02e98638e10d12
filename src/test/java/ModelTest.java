import java.math.BigInteger;
import java.util.ArrayList;
import java.util.HashSet;
import java.util.List;
import java.util.Random;
import java.util.Set;
import java.util.regex.Matcher;
import java.util.regex.Pattern;

/** Long runs of calls by chance, each answer compared with a slow model that is written another way. */
public final class ModelTest {
  private static final int U = -1, O = -2, S = -3, F = -4, N = -9;
  private static int wrong = 0;

  /** One singer as he is at a time; a list of these is all that a bar goes by. */
  record Singer(int number, int seat, int voice, int range, int goods, int kind, int note, boolean heldOn) {
    boolean held() { return heldOn || kind == 1; }
    Singer sing(int v) { return new Singer(number, seat, voice, range, goods, kind, v, heldOn); }
    Singer rich(int g) { return new Singer(number, seat, voice, range, Math.min(99, g), kind, note, heldOn); }
    Singer at(int s) { return new Singer(number, s, voice, range, goods, kind, note, heldOn); }
    Singer turned() { return new Singer(number, seat, voice, range, goods, kind, note, !heldOn); }
  }

  record Stand(List<Singer> all, int bars) {
    Singer find(int number) {
      for (Singer s : all) if (s.number == number) return s;
      return null;
    }
    Stand with(Singer changed) {
      List<Singer> next = new ArrayList<>();
      for (Singer s : all) next.add(s.number == changed.number ? changed : s);
      return new Stand(next, bars);
    }
    List<Singer> seen(Singer one) {
      List<Singer> found = new ArrayList<>();
      for (Singer s : all) if (s.number != one.number && Math.abs(s.seat - one.seat) < 4) found.add(s);
      return found;
    }
    Singer envied(Singer one) {
      if (one.held() || one.kind == 2) return null;
      boolean boy = one.kind == 3;
      int most = boy ? one.note : one.goods;
      for (Singer s : seen(one)) most = Math.max(most, boy ? s.note : s.goods);
      for (Singer s : seen(one)) {
        int has = boy ? s.note : s.goods;
        if (has == most && has > (boy ? one.note : one.goods)) return s;
      }
      return null;
    }
    Stand bar() {
      List<Singer> next = new ArrayList<>();
      for (Singer s : all) {
        Singer e = envied(s);
        int v = s.held() ? s.note : s.voice;
        if (e != null) {
          v = e.note;
          if (v > s.voice + s.range) v = s.voice + s.range;
          if (v < s.voice - s.range) v = s.voice - s.range;
        }
        next.add(s.sing(v));
      }
      return new Stand(next, bars + 1);
    }
    Stand bars(int n) {
      Stand s = this;
      for (int i = 0; i < n; i++) s = s.bar();
      return s;
    }
    Stand pitch() {
      Stand s = this;
      for (Singer one : all) s = s.with(one.sing(one.voice));
      return s;
    }
    Stand gift(int who, int n) { return with(find(who).rich(find(who).goods + n)); }
    Stand change(int one, int other) {
      int a = find(one).seat, b = find(other).seat;
      return with(find(one).at(b)).with(find(other).at(a));
    }
    Stand hold(int who) { return with(find(who).turned()); }
    Stand only(int bits) {
      List<Singer> some = new ArrayList<>();
      for (Singer s : all) if ((bits >> s.number & 1) == 1) some.add(s);
      return new Stand(some, bars);
    }
    List<Integer> sung() {
      List<Integer> row = new ArrayList<>();
      for (Singer s : all) row.add(s.note);
      return row;
    }
    int rich() { return new HashSet<>(sung()).size(); }
    int like(int v) {
      int n = 0;
      for (int s : sung()) if (s == v) n++;
      return n;
    }
  }

  static final class Model {
    String text = "";
    Stand now = new Stand(new ArrayList<>(), 0);
    List<Stand> acts = new ArrayList<>();
    List<int[]> heard = new ArrayList<>();
    Stand[] slots = new Stand[2];
    BigInteger seed = BigInteger.ZERO;

    boolean is(int s) { return s >= 0 && s < now.all.size(); }
    static boolean in(int v, int a, int b) { return v >= a && v <= b; }

    void act(Stand next) {
      acts.add(now);
      if (acts.size() > 14) acts.remove(0);
      now = next;
    }

    int write(int c) {
      if (!in(c, 0, 255)) return O;
      if (text.length() == 48) return F;
      text += (char) c;
      return text.length();
    }
    int wipe() { int n = text.length(); text = ""; return n; }

    static final Pattern CHOIR = Pattern.compile("C(S[0-7][0-9][0-9][0-9][0-3]){0,6}");
    static boolean canBegin(String t) {
      Matcher m = CHOIR.matcher(t);
      if (!m.matches() && !m.hitEnd()) return false;
      Set<Character> told = new HashSet<>();
      for (int i = 2; i < t.length(); i += 6) if (!told.add(t.charAt(i))) return false;
      return true;
    }
    int fault() {
      for (int i = 1; i <= text.length(); i++) if (!canBegin(text.substring(0, i))) return i - 1;
      return CHOIR.matcher(text).matches() ? N : text.length();
    }
    int choir() {
      if (fault() != N) return S;
      List<Singer> all = new ArrayList<>();
      for (int i = 1; i < text.length(); i += 6) {
        int[] f = new int[6];
        for (int j = 1; j < 6; j++) f[j] = text.charAt(i + j) - '0';
        all.add(new Singer(all.size(), f[1], f[2], f[3], f[4], f[5], f[2], false));
      }
      now = new Stand(all, 0);
      acts.clear();
      slots = new Stand[2];
      return all.size();
    }
    int bits(List<Singer> some) {
      int b = 0;
      for (Singer s : some) b |= 1 << s.number;
      return b;
    }
    int singer(int s, int what) {
      if (!is(s)) return U;
      if (!in(what, 0, 8)) return O;
      Singer one = now.find(s);
      Singer e = now.envied(one);
      return new int[] {one.seat, one.voice, one.range, one.goods, one.kind, one.note, bits(now.seen(one)),
          e == null ? N : e.number, one.heldOn ? 1 : 0}[what];
    }
    int seat(int seat) {
      if (!in(seat, 0, 7)) return U;
      for (Singer s : now.all) if (s.seat == seat) return s.number;
      return N;
    }
    int bar() { act(now.bar()); return now.rich(); }
    int gift(int s, int n) {
      if (!is(s)) return U;
      if (!in(n, 1, 9)) return O;
      act(now.gift(s, n));
      return now.find(s).goods;
    }
    int change(int a, int b) {
      if (!is(a) || !is(b)) return U;
      if (a == b) return O;
      act(now.change(a, b));
      return now.find(a).seat;
    }
    int pitch() { act(now.pitch()); return now.rich(); }
    int hold(int s) {
      if (!is(s)) return U;
      act(now.hold(s));
      return now.find(s).heldOn ? 1 : 0;
    }
    int undo() {
      if (acts.isEmpty()) return S;
      now = acts.remove(acts.size() - 1);
      return acts.size();
    }
    int sings(int s, int n) { return !is(s) ? U : !in(n, 0, 60) ? O : now.bars(n).find(s).note; }
    int notes(int n) { return !in(n, 0, 60) ? O : now.bars(n).rich(); }
    int round(int what) {
      if (!in(what, 0, 1)) return O;
      List<List<Integer>> rows = new ArrayList<>();
      Stand s = now;
      for (int i = 0; i <= 60; i++) {
        int before = rows.indexOf(s.sung());
        if (before >= 0) return what == 0 ? before : i - before;
        rows.add(s.sung());
        s = s.bar();
      }
      return N;
    }
    int unison() {
      Stand s = now;
      for (int i = 0; i <= 60; i++, s = s.bar()) if (s.rich() < 2) return i;
      return N;
    }
    int gets(int s, int note, int n, int what) {
      if (!is(s)) return U;
      if (!in(note, 0, 9) || !in(n, 1, 9) || !in(what, 0, 1)) return O;
      if (now.bars(n).find(s).note == note) return what == 0 ? 0 : N;
      for (int g = 1; g < 10; g++) {
        for (Singer to : now.all) {
          if (now.gift(to.number, g).bars(n).find(s).note == note) return what == 0 ? g : to.number;
        }
      }
      return N;
    }
    int best(int n, int what) {
      if (!in(n, 1, 9) || !in(what, 0, 1)) return O;
      int size = now.all.size(), most = now.bars(n).rich(), which = 99;
      for (int b = size - 1; b >= 0; b--) {
        for (int a = b - 1; a >= 0; a--) {
          int r = now.change(a, b).bars(n).rich();
          if (r > most || r == most && which != 99 && 10 * a + b < which) { most = r; which = 10 * a + b; }
        }
      }
      return what == 0 ? most : which;
    }
    int judge(int n, long row) {
      if (!in(n, 1, 4) || row < 0) return O;
      String figures = Long.toString(row);
      if (figures.length() > 3 * n) return O;
      while (figures.length() < 3 * n) figures = "0" + figures;
      Stand s = now;
      for (int i = 0; i < n; i++) {
        int k = figures.charAt(3 * i) - '0', a = figures.charAt(3 * i + 1) - '0', b = figures.charAt(3 * i + 2) - '0';
        if (k > 5 || (k == 0 || k == 3) && a + b > 0) return i;
        if (k != 0 && k != 3 && !is(a)) return i;
        if ((k == 2 || k == 5) && (!is(b) || a == b)) return i;
        if (k == 1 && b == 0) return i;
        if (k == 4 && s.find(a).note != b) return i;
        if (k == 5 && s.envied(s.find(a)) != s.find(b)) return i;
        if (k == 0) s = s.bar();
        if (k == 1) s = s.gift(a, b);
        if (k == 2) s = s.change(a, b);
        if (k == 3) s = s.pitch();
      }
      return N;
    }
    int hear(int s, int n, int v) {
      if (!is(s)) return U;
      if (!in(n, 0, 9) || !in(v, 0, 9)) return O;
      if (heard.size() == 6) return F;
      heard.add(new int[] {s, n, v});
      return heard.size();
    }
    int unhear() { int n = heard.size(); heard.clear(); return n; }
    int had(int s) {
      if (!is(s)) return U;
      int b = 0;
      for (int g = 0; g < 10; g++) {
        Stand as = now.with(now.find(s).rich(g));
        boolean so = true;
        for (int[] h : heard) so &= !is(h[0]) || as.bars(h[1]).find(h[0]).note == h[2];
        if (so) b |= 1 << g;
      }
      return b;
    }
    static int side(long above, long below, boolean upper) {
      long g = BigInteger.valueOf(above).gcd(BigInteger.valueOf(below)).longValue();
      return (int) (upper ? above / g : below / g);
    }
    long gain, orders;
    void come(int here, int who) {
      boolean last = here == (1 << now.all.size()) - 1;
      if (last) { orders++; return; }
      for (Singer s : now.all) {
        if ((here >> s.number & 1) == 1) continue;
        long before = orders;
        come(here | 1 << s.number, who);
        if (s.number == who) {
          gain += (orders - before) * (now.only(here | 1 << who).bars(6).rich() - now.only(here).bars(6).rich());
        }
      }
    }
    int share(int s, boolean upper) {
      if (!is(s)) return U;
      gain = 0;
      orders = 0;
      come(0, s);
      return side(gain, orders, upper);
    }
    int has(int voiceOf, int a, int b) {
      return now.gift(a, 4).gift(b, 4).bars(6).like(now.find(voiceOf).voice);
    }
    int rests(int one, int other, int what) {
      if (!is(one) || !is(other)) return U;
      if (one == other || !in(what, 0, 1)) return O;
      int n = now.all.size();
      int[][] p = new int[n][n], q = new int[n][n];
      for (int a = 0; a < n; a++) for (int b = 0; b < n; b++) { p[a][b] = has(one, a, b); q[a][b] = has(other, a, b); }
      List<Integer> found = new ArrayList<>();
      for (int a = 0; a < n; a++) {
        for (int b = 0; b < n; b++) {
          int mostP = 0, mostQ = 0;
          for (int c = 0; c < n; c++) { mostP = Math.max(mostP, p[c][b]); mostQ = Math.max(mostQ, q[a][c]); }
          if (p[a][b] == mostP && q[a][b] == mostQ) found.add(10 * a + b);
        }
      }
      return what == 0 ? found.size() : found.isEmpty() ? N : found.get(0);
    }
    int hoarse(int n, int x, boolean upper) {
      if (!in(n, 0, 9) || !in(x, 0, 10)) return O;
      return side(hoarse(0, 0, n, x), (long) Math.round(Math.pow(10, now.all.size())), upper);
    }
    private long hoarse(int from, int here, int n, int x) {
      if (from == now.all.size()) return now.only(here).bars(n).rich() < 2 ? 1 : 0;
      return x * hoarse(from + 1, here, n, x) + (10 - x) * hoarse(from + 1, here | 1 << from, n, x);
    }
    long seed(long v) {
      long was = seed.longValue();
      seed = BigInteger.valueOf(v);
      return was;
    }
    int years(int m) {
      if (!in(m, 1, 30)) return O;
      Stand s = now;
      int sum = 0;
      for (int i = 0; i < m; i++) {
        BigInteger wrap = BigInteger.ONE.shiftLeft(64);
        seed = seed.multiply(new BigInteger("6364136223846793005")).add(new BigInteger("1442695040888963407")).mod(wrap);
        int r = seed.shiftRight(33).mod(BigInteger.valueOf(28)).intValue();
        if (r <= 5 && is(r)) s = s.gift(r, 1);
        if (r >= 6 && r <= 11 && is(r - 6)) s = s.hold(r - 6);
        if (r >= 12 && r <= 16 && is(r - 11)) s = s.change(r - 12, r - 11);
        if (r == 17) s = s.pitch();
        if (r >= 18) s = s.bar();
        sum += s.rich();
      }
      return sum;
    }
    int keep(int slot) {
      if (!in(slot, 0, 1)) return U;
      slots[slot] = now;
      return now.bars;
    }
    int again(int slot) {
      if (!in(slot, 0, 1)) return U;
      if (slots[slot] == null) return S;
      now = slots[slot];
      acts.clear();
      return now.bars;
    }
    int count(int what) {
      if (!in(what, 0, 9)) return O;
      int seats = 0, sung = 0, goods = 0, envious = 0, on = 0;
      for (Singer s : now.all) {
        seats |= 1 << s.seat;
        sung |= 1 << s.note;
        goods += s.goods;
        if (now.envied(s) != null) envious |= 1 << s.number;
        if (s.heldOn) on |= 1 << s.number;
      }
      return new int[] {text.length(), now.all.size(), now.bars, seats, sung, goods, envious, on, acts.size(), heard.size()}[what];
    }
  }

  private static void due(long run, String call, long got, long want) {
    if (got != want) {
      wrong++;
      if (wrong < 40) System.out.println("run " + run + ": " + call + " answered " + got + ", due is " + want);
    }
  }

  private static String textByChance(Random r) {
    int singers = r.nextInt(8) == 0 ? r.nextInt(3) : 2 + r.nextInt(5);
    List<Integer> seats = new ArrayList<>(List.of(0, 1, 2, 3, 4, 5, 6, 7));
    java.util.Collections.shuffle(seats, r);
    int goods = 1 + r.nextInt(10), range = 1 + r.nextInt(10), style = r.nextInt(4);
    StringBuilder t = new StringBuilder("C");
    for (int i = 0; i < singers; i++) {
      int kind = style == 0 ? 3 : style == 1 ? 0 : r.nextInt(4);
      t.append('S').append(seats.get(i)).append(r.nextInt(10)).append(r.nextInt(range)).append(r.nextInt(goods)).append(kind);
    }
    int spoil = r.nextInt(12);
    if (spoil == 0) t.setCharAt(r.nextInt(t.length()), "CS0123456789/:T8".charAt(r.nextInt(16)));
    if (spoil == 1) t.setLength(r.nextInt(t.length() + 1));
    if (spoil == 2) t.append("S01234x".charAt(r.nextInt(7)));
    return t.toString();
  }

  private static int near(Random r, int least, int most) {
    int lot = r.nextInt(30);
    if (lot == 0) return least - 1;
    if (lot == 1) return most + 1;
    if (lot == 2) return r.nextInt();
    return least + r.nextInt(most - least + 1);
  }

  private static long rowByChance(Random r, Model m, int n) {
    int lot = r.nextInt(20);
    if (lot == 0) return r.nextLong();
    if (lot == 1) return -1;
    long row = 0;
    for (int i = 0; i < Math.min(Math.max(n, 0), 5); i++) {
      int k = r.nextInt(r.nextInt(8) == 0 ? 8 : 6), a = r.nextInt(7), b = r.nextInt(7);
      if (k == 0 || k == 3) { a = r.nextInt(12) == 0 ? 1 : 0; b = r.nextInt(12) == 0 ? 1 : 0; }
      if (k > 3 && m.is(a)) {
        Singer one = m.now.find(a);
        Singer e = m.now.envied(one);
        b = k == 4 ? m.now.bars(r.nextInt(2)).find(a).note : e == null ? b : e.number;
      }
      row = row * 1000 + 100 * k + 10 * a + b;
    }
    return row;
  }

  private static void tell(long run, Random r, JealousChoir x, Model m) {
    due(run, "wipe()", x.wipe(), m.wipe());
    String t = textByChance(r);
    for (int i = 0; i < t.length(); i++) due(run, "write", x.write(t.charAt(i)), m.write(t.charAt(i)));
    due(run, "fault() of " + t, x.fault(), m.fault());
    due(run, "choir() of " + t, x.choir(), m.choir());
  }

  private static void call(long run, Random r, JealousChoir x, Model m) {
    int a = near(r, 0, Math.max(0, m.now.all.size() - 1)), b = near(r, 0, Math.max(0, m.now.all.size() - 1));
    int n, v, w;
    boolean up = r.nextBoolean();
    switch (r.nextInt(34)) {
      case 0: n = near(r, 0, 255); due(run, "write " + n, x.write(n), m.write(n)); break;
      case 1: due(run, "fault", x.fault(), m.fault()); break;
      case 2: if (r.nextInt(4) == 0) due(run, "choir", x.choir(), m.choir()); break;
      case 3: case 4: w = near(r, 0, 8); due(run, "singer " + a + " " + w, x.singer(a, w), m.singer(a, w)); break;
      case 5: n = near(r, 0, 7); due(run, "seat " + n, x.seat(n), m.seat(n)); break;
      case 6: case 7: due(run, "bar", x.bar(), m.bar()); break;
      case 8: case 9: n = near(r, 1, 9); due(run, "gift " + a + " " + n, x.gift(a, n), m.gift(a, n)); break;
      case 10: due(run, "change " + a + " " + b, x.change(a, b), m.change(a, b)); break;
      case 11: due(run, "pitch", x.pitch(), m.pitch()); break;
      case 12: due(run, "hold " + a, x.hold(a), m.hold(a)); break;
      case 13: case 14: due(run, "undo", x.undo(), m.undo()); break;
      case 15: n = near(r, 0, 60); due(run, "sings " + a + " " + n, x.sings(a, n), m.sings(a, n)); break;
      case 16: n = near(r, 0, 60); due(run, "notes " + n, x.notes(n), m.notes(n)); break;
      case 17: w = near(r, 0, 1); due(run, "round " + w, x.round(w), m.round(w)); break;
      case 18: due(run, "unison", x.unison(), m.unison()); break;
      case 19: v = near(r, 0, 9); n = near(r, 1, 9); w = near(r, 0, 1);
        due(run, "gets " + a + " " + v + " " + n + " " + w, x.gets(a, v, n, w), m.gets(a, v, n, w)); break;
      case 20: n = near(r, 1, 9); w = near(r, 0, 1); due(run, "best " + n + " " + w, x.best(n, w), m.best(n, w)); break;
      case 21: case 22: n = near(r, 1, 4); long row = rowByChance(r, m, n);
        due(run, "judge " + n + " " + row, x.judge(n, row), m.judge(n, row)); break;
      case 23: n = near(r, 0, 9); v = near(r, 0, 9);
        if (m.is(a) && n >= 0 && n < 10 && r.nextInt(4) > 0) v = m.now.bars(n).find(a).note;
        due(run, "hear " + a + " " + n + " " + v, x.hear(a, n, v), m.hear(a, n, v)); break;
      case 24: due(run, "had " + a, x.had(a), m.had(a)); break;
      case 25: if (r.nextInt(3) == 0) due(run, "unhear", x.unhear(), m.unhear()); break;
      case 26: due(run, "share " + a + " " + up, x.share(a, up), m.share(a, up)); break;
      case 27: w = near(r, 0, 1); due(run, "rests " + a + " " + b + " " + w, x.rests(a, b, w), m.rests(a, b, w)); break;
      case 28: n = near(r, 0, 9); v = near(r, 0, 10);
        due(run, "hoarse " + n + " " + v + " " + up, x.hoarse(n, v, up), m.hoarse(n, v, up)); break;
      case 29: long s = r.nextLong(); due(run, "seed " + s, x.seed(s), m.seed(s)); break;
      case 30: n = near(r, 1, 30); due(run, "years " + n, x.years(n), m.years(n)); break;
      case 31: n = near(r, 0, 1); due(run, "keep " + n, x.keep(n), m.keep(n)); break;
      case 32: n = near(r, 0, 1); due(run, "again " + n, x.again(n), m.again(n)); break;
      default: tell(run, r, x, m); break;
    }
    w = near(r, 0, 9);
    due(run, "count " + w, x.count(w), m.count(w));
  }

  /** Everything that can be seen of the state. */
  private static void look(long run, JealousChoir x, Model m) {
    for (int w = -1; w <= 10; w++) due(run, "count " + w, x.count(w), m.count(w));
    for (int i = -1; i <= 6; i++) for (int w = -1; w <= 9; w++) due(run, "singer " + i + " " + w, x.singer(i, w), m.singer(i, w));
    for (int i = -1; i <= 8; i++) due(run, "seat " + i, x.seat(i), m.seat(i));
  }

  public static void main(String[] args) {
    int runs = args.length > 0 ? Integer.parseInt(args[0]) : 1500;
    for (long run = 0; run < runs; run++) {
      Random r = new Random(run);
      JealousChoir x = new JealousChoir();
      Model m = new Model();
      if (r.nextInt(10) > 0) tell(run, r, x, m);
      for (int i = 0; i < 150; i++) call(run, r, x, m);
      look(run, x, m);
    }
    System.out.println(wrong == 0 ? "ModelTest: all answers are as due" : "ModelTest: " + wrong + " answers are not as due");
    if (wrong != 0) System.exit(1);
  }
}
