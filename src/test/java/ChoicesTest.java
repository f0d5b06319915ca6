import java.util.Random;

/** Sections 2 and 3 by trying every choice of what two clocks go ahead by, with no arithmetic of bounds at all. */
public final class ChoicesTest {
  private static final int RUNS = 400, NEVER = Integer.MAX_VALUE;
  private static int wrong = 0, answers = 0;

  private final InquiryBench x = new InquiryBench();
  private final Random r;
  private final StringBuilder log = new StringBuilder();
  private final int persons, papers, seen;
  private final int[] slow, by, to, things;
  private final int[][][] stamps;
  private int gap = 24;

  /** What all choices make of some papers: of each the least and the most true hour of the first and the last stamp. */
  private final class Choices {
    final int[] clockLeast = {0, 60, 60}, clockMost = {0, -60, -60};
    final int[] firstLeast = new int[papers], firstMost = new int[papers], lastLeast = new int[papers], lastMost = new int[papers];
    final boolean[][] some = new boolean[papers][papers], notAll = new boolean[papers][papers];
    final int among;
    int doubt = -1;
    boolean none = true;

    Choices(int among) {
      this.among = among;
      for (int p = 0; p < papers; p++) {
        firstLeast[p] = NEVER;
        lastLeast[p] = NEVER;
        firstMost[p] = -NEVER;
        lastMost[p] = -NEVER;
      }
      int[] ahead = new int[3];
      for (ahead[1] = -60; ahead[1] <= 60; ahead[1]++) for (ahead[2] = -60; ahead[2] <= 60; ahead[2]++) take(ahead);
    }
    private void take(int[] ahead) {
      int against = 0;
      for (int p = 0; p < papers; p++) if (has(among, p) && !fits(p, ahead)) against |= 1 << p;
      boolean fewer = doubt < 0 || Integer.bitCount(against) < Integer.bitCount(doubt);
      if (fewer || Integer.bitCount(against) == Integer.bitCount(doubt) && against < doubt) doubt = against;
      if (against != 0) return;
      none = false;
      for (int c = 1; c < 3; c++) {
        clockLeast[c] = Math.min(clockLeast[c], ahead[c]);
        clockMost[c] = Math.max(clockMost[c], ahead[c]);
      }
      for (int p = 0; p < papers; p++) {
        if (!isStamped(p)) continue;
        firstLeast[p] = Math.min(firstLeast[p], hour(p, 0, ahead));
        firstMost[p] = Math.max(firstMost[p], hour(p, 0, ahead));
        lastLeast[p] = Math.min(lastLeast[p], last(p, ahead));
        lastMost[p] = Math.max(lastMost[p], last(p, ahead));
        for (int q = 0; q < papers; q++) {
          if (!isStamped(q)) continue;
          some[p][q] |= last(p, ahead) < last(q, ahead);
          notAll[p][q] |= last(p, ahead) >= last(q, ahead);
        }
      }
    }
    boolean isStamped(int p) { return has(among, p) && stamps[p].length > 0; }
    boolean isSent(int p) { return !none && isStamped(p); }
    boolean isInHand(int p, int person) { return isSent(p) && (by[p] == person || has(to[p], person)); }
    int hand(int p, int person, boolean most) {
      if (by[p] == person) return most ? firstMost[p] : firstLeast[p];
      return most ? lastMost[p] + slow[person] : lastLeast[p];
    }
    int knew(int person, int thing, boolean sure) {
      int least = NEVER;
      for (int p = 0; p < papers; p++) {
        if (isInHand(p, person) && has(things[p], thing)) least = Math.min(least, hand(p, person, sure));
      }
      return least;
    }
  }

  private ChoicesTest(int seed) {
    r = new Random(seed);
    persons = 1 + r.nextInt(4);
    papers = 1 + r.nextInt(5);
    slow = new int[persons];
    by = new int[papers];
    to = new int[papers];
    things = new int[papers];
    stamps = new int[papers][][];
    for (int p = 0; p < persons; p++) {
      slow[p] = r.nextInt(49);
      due("person(0, " + slow[p] + ")", x.person(0, slow[p]), p);
    }
    int spread = new int[] {5, 40, 90, 150}[r.nextInt(4)];
    int start = new int[] {0, 500, 999 - spread}[r.nextInt(3)];
    int shut = 0;
    for (int p = 0; p < papers; p++) {
      by[p] = r.nextInt(persons);
      to[p] = r.nextInt(1 << persons);
      things[p] = r.nextInt(4);
      int level = r.nextInt(6) == 0 ? 2 : 0;
      if (level > 0) shut |= 1 << p;
      due("paper(" + by[p] + ", " + to[p] + ", " + things[p] + ", " + level + ")", x.paper(by[p], to[p], things[p], level), p);
      stamp(p, start, spread);
    }
    if (r.nextInt(3) == 0) {
      due("gap", x.gap(r.nextInt(2) == 0 ? 0 : 60), 24);
      gap = x.gap(50);
      x.gap(gap);
    }
    seen = r.nextBoolean() ? (1 << papers) - 1 & ~shut : (1 << papers) - 1;
    due("view", x.view(-1, seen == (1 << papers) - 1 ? 3 : 1), Integer.bitCount(seen));
  }

  private void stamp(int p, int start, int spread) {
    stamps[p] = new int[r.nextInt(4)][];
    for (int i = 0; i < stamps[p].length; i++) {
      stamps[p][i] = new int[] {r.nextInt(3), start + r.nextInt(spread + 1)};
      int number = x.stamp(p, stamps[p][i][0], stamps[p][i][1]);
      log.append("stamp(").append(p).append(", ").append(stamps[p][i][0]).append(", ").append(stamps[p][i][1]).append(") = ").append(number).append('\n');
    }
  }

  private static boolean has(int bits, int i) { return (bits & 1 << i) != 0; }
  private int hour(int p, int i, int[] ahead) { return stamps[p][i][1] - ahead[stamps[p][i][0]]; }
  private int last(int p, int[] ahead) { return hour(p, stamps[p].length - 1, ahead); }
  private boolean fits(int p, int[] ahead) {
    for (int i = 1; i < stamps[p].length; i++) {
      int behind = hour(p, i, ahead) - hour(p, i - 1, ahead);
      if (behind < 0 || behind > gap) return false;
    }
    return true;
  }

  private void due(String call, int got, int want) {
    answers++;
    log.append(call).append(" = ").append(want).append('\n');
    if (got == want) return;
    wrong++;
    if (wrong < 4) System.out.println(log + "but it answered " + got);
  }

  private void run() {
    Choices all = new Choices(seen);
    due("clash(0)", x.clash(0), all.none ? 1 : 0);
    due("clash(1)", x.clash(1), all.doubt);
    for (int c = 0; c < 3; c++) {
      due("span(" + c + ", false)", x.span(c, false), all.none ? -4 : all.clockLeast[c] + 1000);
      due("span(" + c + ", true)", x.span(c, true), all.none ? -4 : all.clockMost[c] + 1000);
    }
    for (int p = 0; p < papers; p++) {
      due("sent(" + p + ", false)", x.sent(p, false), all.isSent(p) ? all.lastLeast[p] + 1000 : -3);
      due("sent(" + p + ", true)", x.sent(p, true), all.isSent(p) ? all.lastMost[p] + 1000 : -3);
      for (int q = 0; q < papers; q++) {
        int want = all.some[p][q] ? all.notAll[p][q] ? 1 : 2 : 0;
        due("before(" + p + ", " + q + ")", x.before(p, q), p == q ? -1 : all.isSent(p) && all.isSent(q) ? want : -3);
      }
      for (int person = 0; person < persons; person++) {
        for (boolean most : new boolean[] {false, true}) {
          int want = all.isInHand(p, person) ? all.hand(p, person, most) + 1000 : -3;
          due("hand(" + p + ", " + person + ", " + most + ")", x.hand(p, person, most), want);
        }
      }
    }
    knew(all);
    leans(all);
  }

  private void knew(Choices all) {
    for (int person = 0; person < persons; person++) {
      for (int t = 0; t < 2; t++) {
        for (int way = 0; way < 3; way++) {
          int hour = all.knew(person, t, way != 1);
          due("knew(" + person + ", " + t + ", " + way + ")", x.knew(person, t, way), hour == NEVER ? -3 : hour + 1000);
        }
      }
    }
  }

  /** Findings at the hour itself, and one ahead of it, as far as findings may name these hours. */
  private void leans(Choices all) {
    Choices[] less = new Choices[papers];
    for (int p = 0; p < papers; p++) less[p] = has(seen, p) ? new Choices(seen & ~(1 << p)) : null;
    for (int n = 0; n < 12; n++) {
      int person = r.nextInt(persons), thing = r.nextInt(2);
      boolean sure = r.nextBoolean();
      int from = all.knew(person, thing, sure), hour = Math.max(0, Math.min(999, from == NEVER ? 500 : from - r.nextInt(2) + r.nextInt(2) * r.nextInt(30)));
      due("finding(" + person + ", " + thing + ", " + hour + ", " + (sure ? 0 : 1) + ")", x.finding(person, thing, hour, sure ? 0 : 1), n);
      int bits = 0;
      for (int p = 0; p < papers; p++) if (hour >= from && less[p] != null && hour < less[p].knew(person, thing, sure)) bits |= 1 << p;
      due("findingOf(" + n + ", 4)", x.findingOf(n, 4), hour >= from ? 1 : 0);
      due("findingOf(" + n + ", 5)", x.findingOf(n, 5), bits);
      due("findingOf(" + n + ", 6)", x.findingOf(n, 6), bits == 0 ? 0 : 1);
    }
  }

  public static void main(String[] args) {
    for (int seed = 0; seed < RUNS && wrong == 0; seed++) new ChoicesTest(seed).run();
    System.out.println(wrong == 0 ? answers + " answers are as all choices tell" : wrong + " answers are not as all choices tell");
    if (wrong != 0) System.exit(1);
  }
}
