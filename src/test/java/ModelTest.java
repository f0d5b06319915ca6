import java.util.ArrayList;
import java.util.List;
import java.util.Random;

/** Long runs of calls, drawn by fixed seeds, on InquiryBench and on the Model side by side. */
public final class ModelTest {
  private static final int RUNS = 1500, CALLS = 512;
  private static int wrong = 0;

  private final Random r;
  private final InquiryBench x = new InquiryBench();
  private final Model m = new Model();
  private final List<String> log = new ArrayList<>();
  private final int spread, style;
  /** What the clocks go ahead by in truth; most stamps keep to it, so that they seldom clash. */
  private final int[] ahead = new int[6];

  private ModelTest(int seed) {
    r = new Random(seed);
    // Close hours make clocks agree, wide ones make them clash, and the ends of the day are hours too.
    spread = new int[] {10, 60, 120, 1000}[r.nextInt(4)];
    style = r.nextInt(4);
    for (int c = 1; c < 6; c++) ahead[c] = r.nextInt(121) - 60;
  }

  private int upTo(int most) { return r.nextInt(most + 1); }
  /** Mostly a number as told, now and then one at the edge or far away. */
  private int num(int least, int most) {
    int odd = r.nextInt(40);
    if (odd == 0) return least - 1;
    if (odd == 1) return most + 1;
    if (odd == 2) return r.nextInt();
    if (odd == 3) return least;
    if (odd == 4) return most;
    if (odd == 5 && r.nextInt(4) == 0) return r.nextBoolean() ? Integer.MAX_VALUE : Integer.MIN_VALUE;
    return most < least ? least : least + r.nextInt(most - least + 1);
  }
  private int person() { return num(0, m.k.persons.size() - 1); }
  private int paper() { return num(0, m.k.papers.size() - 1); }
  private int bitsOf(int n) { return r.nextInt(30) == 0 ? r.nextInt() : r.nextInt(1 << Math.max(n, 1)); }
  private int reading(int paper, int clock) {
    if (r.nextInt(style == 3 ? 8 : 60) == 0 || clock < 0 || clock > 5) return hour();
    int at = 400 + r.nextInt(spread);
    if (spread == 1000) at = r.nextInt(1000);
    for (Model.Stamp s : m.k.stamps) {
      if (s.paper() == paper) at = s.h() - ahead[s.clock()] + r.nextInt(Math.max(1, Math.min(m.k.gap, 20)));
    }
    return at + ahead[clock];
  }
  private int hour() { return spread >= 1000 ? num(0, 999) : num(400, 400 + spread); }

  private boolean due(String call, int got, int want) {
    log.add(call + " = " + want);
    if (got == want) return true;
    wrong++;
    System.out.println(call + " answered " + got + ", due is " + want);
    for (String s : log.subList(Math.max(0, log.size() - 60), log.size())) System.out.println("    " + s);
    return false;
  }

  private String cond(int depth) {
    int kind = r.nextInt(8);
    if (kind == 0) return "not " + cond(depth);
    if (kind == 1 && depth < 4) return "(" + cond(depth + 1) + ")";
    if (kind == 2) return cond(depth) + " and " + cond(depth);
    if (kind == 3) return cond(depth) + " or " + cond(depth);
    String fact = List.of("person", "post", "had", "made", "slow").get(r.nextInt(5));
    String gap = r.nextInt(4) == 0 ? " " : "";
    return fact + gap + "<=>".charAt(r.nextInt(3)) + gap + upTo(r.nextInt(20) == 0 ? 1001 : fact.equals("slow") ? 48 : 4);
  }

  private String text() {
    StringBuilder b = new StringBuilder();
    int n = r.nextInt(r.nextInt(6) == 0 ? 12 : 7);
    for (int i = 0; i < n; i++) {
      int sort = r.nextInt(7);
      if (sort < 3) {
        b.append("taken ").append(upTo(r.nextInt(25) == 0 ? 120 : 12)).append(" of ").append(upTo(r.nextInt(25) == 0 ? 9 : 3));
        b.append(" from ").append(upTo(r.nextInt(25) == 0 ? 9 : 3));
      } else if (sort == 3) {
        b.append("warn ").append(upTo(r.nextInt(25) == 0 ? 120 : 9));
      } else if (sort < 6) {
        b.append("ask ").append(upTo(r.nextInt(25) == 0 ? 9 : 3)).append(" by ").append(r.nextInt(25) == 0 ? upTo(1200) : 380 + upTo(150));
      } else {
        b.append("heard ").append(upTo(r.nextInt(25) == 0 ? 12 : 3));
      }
      if ((sort < 6 || r.nextInt(9) == 0) && r.nextBoolean()) b.append(" if ").append(cond(0));
      b.append(r.nextInt(40) == 0 ? " " : ";").append(r.nextBoolean() ? " " : "");
    }
    for (int i = 0; i < 3 && b.length() > 0; i++) {
      int at = r.nextInt(b.length());
      int odd = r.nextInt(12);
      if (odd == 0) b.deleteCharAt(at);
      if (odd == 1) b.insert(at, "()<=>;, 0123456789azifnotof".charAt(r.nextInt(27)));
      if (odd == 2) b.setCharAt(at, (char) r.nextInt(256));
    }
    return b.toString();
  }

  private boolean feedText() {
    String t = text();
    if (log.size() + t.length() / 8 + 2 > CALLS) return true;
    for (int i = 0; i < t.length(); i += 8) {
      int n = Math.min(8, t.length() - i);
      long eight = n < 8 && r.nextBoolean() ? -1L << (8 * n) : 0;
      for (int j = 0; j < n; j++) eight |= (long) t.charAt(i + j) << (8 * j);
      if (!due("feed(" + eight + "L, " + n + ")", x.feed(eight, n), m.feed(eight, n))) return false;
    }
    return due("read() of '" + t + "'", x.read(), m.read());
  }

  private boolean call() {
    int a, b, c, d;
    boolean w = r.nextBoolean();
    switch (r.nextInt(60)) {
      case 0: a = num(1, r.nextInt(8) == 0 ? 99 : 5); return due("days(" + a + ")", x.days(a), m.days(a));
      case 1:
        a = r.nextBoolean() ? -1 : num(-1, r.nextInt(6) == 0 ? 499 : m.k.today);
        b = r.nextInt(3) == 0 ? num(0, 3) : 3;
        return due("view(" + a + ", " + b + ")", x.view(a, b), m.view(a, b));
      case 2: a = num(0, 9); b = num(0, 48); return due("person(" + a + ", " + b + ")", x.person(a, b), m.person(a, b));
      case 3: a = person(); b = num(0, 4); return due("personOf(" + a + ", " + b + ")", x.personOf(a, b), m.personOf(a, b));
      case 4: case 5:
        a = person(); b = bitsOf(m.k.persons.size()); c = num(0, 15); d = r.nextInt(3) == 0 ? num(0, 3) : 0;
        return due("paper(" + a + ", " + b + ", " + c + ", " + d + ")", x.paper(a, b, c, d), m.paper(a, b, c, d));
      case 6: if (r.nextInt(3) != 0) return true; a = paper(); return due("lose(" + a + ")", x.lose(a), m.lose(a));
      case 7: a = paper(); b = num(0, 6); return due("paperOf(" + a + ", " + b + ")", x.paperOf(a, b), m.paperOf(a, b));
      case 8: case 9: case 10:
        a = paper(); b = num(0, style == 0 ? 5 : style); c = reading(a, b);
        return due("stamp(" + a + ", " + b + ", " + c + ")", x.stamp(a, b, c), m.stamp(a, b, c));
      case 11:
        a = paper(); b = num(0, 3); c = num(0, 6); d = num(0, r.nextInt(3) == 0 ? 9 : 2);
        return due("stamps(" + a + ", " + b + ", " + c + ", " + d + ")", x.stamps(a, b, c, d), m.stamps(a, b, c, d));
      case 12:
        a = num(0, 99);
        if (r.nextBoolean()) a = 24 + r.nextInt(75);
        if (r.nextInt(4) != 0) return true;
        return due("gap(" + a + ")", x.gap(a), m.gap(a));
      case 13: a = num(0, 1); return due("clash(" + a + ")", x.clash(a), m.clash(a));
      case 14: a = num(0, 5); return due("span(" + a + ", " + w + ")", x.span(a, w), m.span(a, w));
      case 15: a = paper(); return due("sent(" + a + ", " + w + ")", x.sent(a, w), m.sent(a, w));
      case 16: case 17: a = paper(); b = person(); return due("hand(" + a + ", " + b + ", " + w + ")", x.hand(a, b, w), m.hand(a, b, w));
      case 18: case 19: a = paper(); b = paper(); return due("before(" + a + ", " + b + ")", x.before(a, b), m.before(a, b));
      case 20: case 21: case 22:
        a = person(); b = num(0, 3); c = num(0, 2);
        return due("knew(" + a + ", " + b + ", " + c + ")", x.knew(a, b, c), m.knew(a, b, c));
      case 23: return r.nextInt(3) != 0 || feedText();
      case 24:
        if (r.nextInt(4) != 0) return true;
        long eight = r.nextLong(); a = num(1, 8);
        return due("feed(" + eight + "L, " + a + ")", x.feed(eight, a), m.feed(eight, a));
      case 25: return r.nextInt(9) != 0 || due("read()", x.read(), m.read());
      case 26:
        a = num(0, m.k.versions.size() - 1); b = num(0, 6); c = num(0, 4);
        return due("line(" + a + ", " + b + ", " + c + ")", x.line(a, b, c), m.line(a, b, c));
      case 27: case 28: a = person(); b = num(0, 3); return due("why(" + a + ", " + b + ")", x.why(a, b), m.why(a, b));
      case 29: case 30:
        a = person(); b = person(); c = paper(); d = 10 * hour() + num(1, 9);
        int talk = r.nextInt(4) == 0 ? num(-1, m.k.sayings.size() - 1) : -1;
        return due("saying(" + a + ", " + b + ", " + c + ", " + d + ", " + w + ", " + talk + ")",
            x.saying(a, b, c, d, w, talk), m.saying(a, b, c, d, w, talk));
      case 31: case 32: a = person(); b = paper(); c = num(0, 1); return due("quarrel(" + a + ", " + b + ", " + c + ")", x.quarrel(a, b, c), m.quarrel(a, b, c));
      case 33: return due("impossible()", x.impossible(), m.impossible());
      case 34:
        a = person(); b = num(0, 3); c = r.nextInt(3) == 0 ? num(0, 999) : 400 + spread % 900 / 2 + upTo(100); d = num(0, 2);
        return due("finding(" + a + ", " + b + ", " + c + ", " + d + ")", x.finding(a, b, c, d), m.finding(a, b, c, d));
      case 35: case 36: case 37:
        a = num(0, m.k.findings.size() - 1); b = r.nextInt(3) == 0 ? num(0, 6) : num(4, 6);
        return due("findingOf(" + a + ", " + b + ")", x.findingOf(a, b), m.findingOf(a, b));
      case 38: a = person(); b = paper(); return due("warn(" + a + ", " + b + ")", x.warn(a, b), m.warn(a, b));
      case 39: a = num(1, 9); b = bitsOf(8); return due("question(" + a + ", " + b + ")", x.question(a, b), m.question(a, b));
      case 40: a = bitsOf(m.k.questions.size()); return r.nextInt(4) != 0 || due("round(" + a + ")", x.round(a), m.round(a));
      case 41: a = num(0, m.many(12) - 1); b = num(0, 1); return due("row(" + a + ", " + b + ")", x.row(a, b), m.row(a, b));
      case 42:
        a = num(0, m.many(12) - 1); b = num(0, 1); c = num(0, 20);
        return r.nextInt(4) != 0 || due("alterRow(" + a + ", " + b + ", " + c + ")", x.alterRow(a, b, c), m.alterRow(a, b, c));
      case 43: return r.nextInt(6) != 0 || due("dropRow()", x.dropRow(), m.dropRow());
      case 44: return due("judge()", x.judge(), m.judge());
      case 45: a = num(0, 3); b = num(-1, 4); c = num(0, 40); return due("sheet(" + a + ", " + b + ", " + c + ")", x.sheet(a, b, c), m.sheet(a, b, c));
      case 46: a = num(0, 3); b = 1; c = num(4, 40); return due("sheet(" + a + ", " + b + ", " + c + ")", x.sheet(a, b, c), m.sheet(a, b, c));
      case 47: case 48: case 49:
        a = num(0, 3); b = num(0, 9); c = r.nextInt(5) == 0 ? r.nextInt() : b % 2 == 0 ? num(0, 5) : hour();
        return due("put(" + a + ", " + b + ", " + c + ")", x.put(a, b, c), m.put(a, b, c));
      case 50: a = num(0, 3); b = num(0, 4); c = num(0, 9); return due("item(" + a + ", " + b + ", " + c + ")", x.item(a, b, c), m.item(a, b, c));
      case 51: case 52:
        a = num(0, 3); b = num(0, 4); c = num(0, 4);
        return due("shelf(" + a + ", " + b + ", " + c + ")", x.shelf(a, b, c), m.shelf(a, b, c));
      case 53: a = num(0, 3); b = num(0, 14); return due("taken(" + a + ", " + b + ")", x.taken(a, b), m.taken(a, b));
      case 54: case 55: a = num(0, 3); b = num(0, 3); c = num(-50, 50); return due("deal(" + a + ", " + b + ", " + c + ")", x.deal(a, b, c), m.deal(a, b, c));
      case 56: a = num(0, 11); return due("trace(" + a + ")", x.trace(a), m.trace(a));
      case 57: a = num(0, 14); return due("many(" + a + ")", x.many(a), m.many(a));
      case 58: return r.nextInt(5) != 0 || due("keep()", x.keep(), m.keep());
      default: return r.nextInt(9) != 0 || due("again()", x.again(), m.again());
    }
  }

  private void run() {
    for (int i = 0; i < 1 + r.nextInt(5); i++) {
      int post = r.nextInt(4), slow = r.nextInt(49);
      if (!due("person(" + post + ", " + slow + ")", x.person(post, slow), m.person(post, slow))) return;
    }
    for (int i = 0; i < r.nextInt(7); i++) {
      int by = r.nextInt(m.k.persons.size()), to = bitsOf(m.k.persons.size()), things = upTo(15);
      if (!due("paper(" + by + ", " + to + ", " + things + ", 0)", x.paper(by, to, things, 0), m.paper(by, to, things, 0))) return;
    }
    while (log.size() < CALLS) {
      if (!call()) return;
    }
  }

  public static void main(String[] args) {
    int runs = args.length > 0 ? Integer.parseInt(args[0]) : RUNS, from = args.length > 1 ? Integer.parseInt(args[1]) : 0;
    for (int seed = from; seed < from + runs && wrong < 3; seed++) {
      int was = wrong;
      new ModelTest(seed).run();
      if (wrong > was) System.out.println("(seed " + seed + ")");
    }
    System.out.println(wrong == 0 ? runs + " runs are as the model's" : wrong + " runs are not as the model's");
    if (wrong != 0) System.exit(1);
  }
}
