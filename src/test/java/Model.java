import java.util.ArrayList;
import java.util.Arrays;
import java.util.List;

/** The document again, in the plainest way and by other means, to compare InquiryBench with. */
final class Model {
  record Person(int post, int slow) {}
  record Paper(int by, int to, int things, int level, int found, int lost) {}
  record Stamp(int paper, int clock, int h) {}
  record Saying(int by, int of, int paper, int hour, int weight, boolean yes, int talk, int day) {}
  record Finding(int person, int thing, int hour, int way) {}
  record Warning(int person, int paper, int day) {}
  record Question(int days, int things) {}
  record Line(int sort, int[] n, Cond cond) {}
  record Version(int day, List<Line> lines) {}
  interface Cond { boolean holds(int[] facts); }

  static final class Kept implements Cloneable {
    int today = 0, viewDay = -1, viewLevel = 3, gap = 24;
    List<Person> persons = List.of();
    List<Paper> papers = List.of();
    List<Stamp> stamps = List.of();
    List<Version> versions = List.of();
    List<Saying> sayings = List.of();
    List<Finding> findings = List.of();
    List<Warning> warnings = List.of();
    List<Question> questions = List.of();
    Kept copy() {
      try { return (Kept) clone(); } catch (CloneNotSupportedException e) { throw new IllegalStateException(e); }
    }
  }

  Kept k = new Kept();
  private Kept kept = null;
  private final List<Integer> tape = new ArrayList<>();
  private List<int[]> rows = new ArrayList<>();
  private int asked = -1, askedDay = 0;
  private final Object[] sheets = new Object[4];
  private final Object[] shelves = new Object[4];
  private List<Integer> trace = new ArrayList<>();

  private static <T> List<T> with(List<T> list, T one) {
    List<T> more = new ArrayList<>(list);
    more.add(one);
    return more;
  }
  private static boolean is(int v, int a, int b) { return a <= v && v <= b; }
  private static boolean bit(int bits, int i) { return ((bits >> i) & 1) == 1; }
  private boolean isPerson(int i) { return is(i, 0, k.persons.size() - 1); }
  private boolean isPaper(int i) { return is(i, 0, k.papers.size() - 1); }
  private int day() { return k.viewDay == -1 ? k.today : k.viewDay; }

  // ---- days, persons, papers

  int days(int n) {
    if (!is(n, 1, 99)) return -1;
    if (k.today + n > 499) return -4;
    return k.today += n;
  }
  int view(int day, int level) {
    if (!is(day, -1, 499) || !is(level, 0, 3)) return -1;
    k.viewDay = day; k.viewLevel = level;
    return viewed().size();
  }
  private List<Integer> viewed() {
    List<Integer> list = new ArrayList<>();
    for (int p = 0; p < k.papers.size(); p++) {
      Paper x = k.papers.get(p);
      if (x.found <= day() && x.level <= k.viewLevel && (x.lost < 0 || day() < x.lost)) list.add(p);
    }
    return list;
  }
  int person(int post, int slow) {
    if (!is(post, 0, 9) || !is(slow, 0, 48)) return -1;
    if (k.persons.size() == 10) return -2;
    k.persons = with(k.persons, new Person(post, slow));
    return k.persons.size() - 1;
  }
  private int to(int person, List<Integer> papers) {
    return (int) papers.stream().filter(p -> bit(k.papers.get(p).to, person)).count();
  }
  private int by(int person, List<Integer> papers) {
    return (int) papers.stream().filter(p -> k.papers.get(p).by == person).count();
  }
  int personOf(int person, int what) {
    if (!isPerson(person) || !is(what, 0, 4)) return -1;
    return switch (what) {
      case 0 -> k.persons.get(person).post;
      case 1 -> k.persons.get(person).slow;
      case 2 -> to(person, viewed());
      case 3 -> by(person, viewed());
      default -> (int) counting().stream().filter(s -> k.sayings.get(s).by == person).count();
    };
  }
  int paper(int by, int to, int things, int level) {
    if (!isPerson(by) || to < 0 || to >= 1 << k.persons.size() || !is(things, 0, 255) || !is(level, 0, 3)) return -1;
    if (k.papers.size() == 12) return -2;
    k.papers = with(k.papers, new Paper(by, to, things, level, k.today, -1));
    return k.papers.size() - 1;
  }
  int lose(int paper) {
    if (!isPaper(paper)) return -1;
    Paper p = k.papers.get(paper);
    if (p.lost >= 0) return -4;
    k.papers = new ArrayList<>(k.papers);
    k.papers.set(paper, new Paper(p.by, p.to, p.things, p.level, p.found, k.today));
    return 1;
  }
  int paperOf(int paper, int what) {
    if (!isPaper(paper) || !is(what, 0, 6)) return -1;
    Paper p = k.papers.get(paper);
    int stamps = (int) k.stamps.stream().filter(s -> s.paper == paper).count();
    return new int[] {p.by, p.to, p.things, p.level, p.found, stamps, viewed().contains(paper) ? 1 : 0}[what];
  }

  // ---- clocks: a choice is tried by Bellman and Ford's way, with one bound more for what is asked

  /** {from, to, most}: `to` is ahead of `from` by that at most. */
  private List<int[]> bounds(List<Integer> papers) {
    List<int[]> bounds = new ArrayList<>();
    for (int c = 1; c < 6; c++) {
      bounds.add(new int[] {0, c, 60});
      bounds.add(new int[] {c, 0, 60});
    }
    for (int p : papers) {
      Stamp ahead = null;
      for (Stamp s : k.stamps) {
        if (s.paper != p) continue;
        if (ahead != null) {
          bounds.add(new int[] {ahead.clock, s.clock, s.h - ahead.h});
          bounds.add(new int[] {s.clock, ahead.clock, k.gap - (s.h - ahead.h)});
        }
        ahead = s;
      }
    }
    return bounds;
  }
  private static boolean possible(List<int[]> bounds, int[]... more) {
    int[] d = new int[6];
    List<int[]> all = new ArrayList<>(bounds);
    all.addAll(Arrays.asList(more));
    for (int pass = 0; pass < 8; pass++) {
      boolean changed = false;
      for (int[] b : all) {
        if (d[b[0]] + b[2] < d[b[1]]) {
          d[b[1]] = d[b[0]] + b[2];
          changed = true;
        }
      }
      if (!changed) return true;
    }
    return false;
  }
  private static boolean canBe(List<int[]> bounds, int clock, int v) {
    return possible(bounds, new int[] {0, clock, v}, new int[] {clock, 0, -v});
  }
  private static int spanOf(List<int[]> bounds, int clock, boolean most) {
    int v = most ? 60 : -60;
    while (!canBe(bounds, clock, v)) v += most ? -1 : 1;
    return v;
  }
  int stamp(int paper, int clock, int h) {
    if (!isPaper(paper) || !is(clock, 0, 5) || !is(h, 0, 999)) return -1;
    if (k.stamps.size() == 24) return -2;
    k.stamps = with(k.stamps, new Stamp(paper, clock, h));
    return k.stamps.size() - 1;
  }
  int stamps(int paper, int sheet, int i, int n) {
    if (!isPaper(paper) || !is(sheet, 0, 3) || !is(n, 0, 9)) return -1;
    Object row = sheets[sheet];
    if (row != null && !(row instanceof short[])) return -13;
    if (row == null) return -11;
    short[] s = (short[]) row;
    if (i < 0 || i > s.length || (long) i + 2 * n > s.length) return -12;
    for (int j = 0; j < n; j++) if (!is(s[i + 2 * j], 0, 5) || !is(s[i + 2 * j + 1], 0, 999)) return -4;
    if (k.stamps.size() + n > 24) return -2;
    for (int j = 0; j < n; j++) stamp(paper, s[i + 2 * j], s[i + 2 * j + 1]);
    return k.stamps.size();
  }
  int gap(int n) {
    if (!is(n, 0, 99)) return -1;
    int was = k.gap;
    k.gap = n;
    return was;
  }
  private boolean clashes(List<Integer> papers) { return !possible(bounds(papers)); }
  int clash(int what) {
    if (!is(what, 0, 1)) return -1;
    if (!clashes(viewed())) return 0;
    if (what == 0) return 1;
    int best = -1;
    for (int bits = 0; bits < 1 << 12; bits++) {
      if (best >= 0 && Integer.bitCount(bits) >= Integer.bitCount(best)) continue;
      int without = bits;
      List<Integer> stamped = viewed().stream().filter(p -> paperOf(p, 5) > 0).toList();
      boolean fits = true;
      for (int p = 0; p < 12; p++) if (bit(bits, p) && !stamped.contains(p)) fits = false;
      if (fits && !clashes(viewed().stream().filter(p -> !bit(without, p)).toList())) best = bits;
    }
    return best;
  }
  int span(int clock, boolean most) {
    if (!is(clock, 0, 5)) return -1;
    if (clashes(viewed())) return -4;
    return spanOf(bounds(viewed()), clock, most) + 1000;
  }
  private List<Stamp> stampsOf(int paper) { return k.stamps.stream().filter(s -> s.paper == paper).toList(); }
  private int trueHour(Stamp s, List<Integer> papers, boolean most) {
    return s.h - spanOf(bounds(papers), s.clock, !most);
  }
  private boolean hasSent(int paper, List<Integer> papers) {
    return papers.contains(paper) && !stampsOf(paper).isEmpty() && !clashes(papers);
  }
  private int sentOf(int paper, List<Integer> papers, boolean most) {
    List<Stamp> s = stampsOf(paper);
    return trueHour(s.get(s.size() - 1), papers, most);
  }
  int sent(int paper, boolean most) {
    if (!isPaper(paper)) return -1;
    return hasSent(paper, viewed()) ? sentOf(paper, viewed(), most) + 1000 : -3;
  }
  private boolean hasHand(int paper, int person, List<Integer> papers) {
    Paper p = k.papers.get(paper);
    return hasSent(paper, papers) && (p.by == person || bit(p.to, person));
  }
  private int handOf(int paper, int person, List<Integer> papers, boolean most) {
    if (k.papers.get(paper).by == person) return trueHour(stampsOf(paper).get(0), papers, most);
    return sentOf(paper, papers, most) + (most ? k.persons.get(person).slow : 0);
  }
  int hand(int paper, int person, boolean most) {
    if (!isPaper(paper) || !isPerson(person)) return -1;
    return hasHand(paper, person, viewed()) ? handOf(paper, person, viewed(), most) + 1000 : -3;
  }
  int before(int paper, int other) {
    if (!isPaper(paper) || !isPaper(other) || paper == other) return -1;
    if (!hasSent(paper, viewed()) || !hasSent(other, viewed())) return -3;
    List<Stamp> p = stampsOf(paper), q = stampsOf(other);
    Stamp x = p.get(p.size() - 1), y = q.get(q.size() - 1);
    // ahead: x.h - aheadX < y.h - aheadY, so aheadY - aheadX <= y.h - x.h - 1
    boolean ahead = possible(bounds(viewed()), new int[] {x.clock, y.clock, y.h - x.h - 1});
    boolean not = possible(bounds(viewed()), new int[] {y.clock, x.clock, x.h - y.h});
    return ahead ? not ? 1 : 2 : 0;
  }

  // ---- who knew

  private static final int NEVER = Integer.MAX_VALUE;

  private int told(int person, int thing, List<Integer> papers, boolean sure) {
    int least = NEVER;
    for (int p : papers) {
      if (bit(k.papers.get(p).things, thing) && hasHand(p, person, papers)) {
        least = Math.min(least, handOf(p, person, papers, sure));
      }
    }
    return least;
  }
  private List<Line> rules() {
    List<Line> latest = List.of();
    for (Version v : k.versions) if (v.day <= day()) latest = v.lines;
    return latest;
  }
  private int[] facts(int person, List<Integer> papers) {
    Person x = k.persons.get(person);
    return new int[] {person, x.post, to(person, papers), by(person, papers), x.slow};
  }
  private int[] should(int person, List<Integer> papers) {
    int[] hours = new int[8];
    for (int t = 0; t < 8; t++) hours[t] = told(person, t, papers, true);
    for (boolean goesOn = true; goesOn;) {
      goesOn = false;
      for (Line l : rules()) {
        int t = thingBy(l, facts(person, papers)), hour = hourBy(l, hours);
        if (t >= 0 && hour < hours[t]) {
          hours[t] = hour;
          goesOn = true;
        }
      }
    }
    return hours;
  }
  private static int thingBy(Line l, int[] facts) {
    if (l.cond != null && !l.cond.holds(facts)) return -1;
    return l.sort == 0 ? l.n[1] : l.sort == 2 ? l.n[0] : -1;
  }
  private static int hourBy(Line l, int[] hours) {
    if (l.sort == 2) return l.n[1];
    if (l.sort != 0 || hours[l.n[2]] == NEVER) return NEVER;
    return hours[l.n[2]] + l.n[0];
  }
  private int known(int person, int thing, int way, List<Integer> papers) {
    return way == 2 ? should(person, papers)[thing] : told(person, thing, papers, way == 0);
  }
  int knew(int person, int thing, int way) {
    if (!isPerson(person) || !is(thing, 0, 7) || !is(way, 0, 2)) return -1;
    int hour = known(person, thing, way, viewed());
    return hour == NEVER ? -3 : hour + 1000;
  }
  int why(int person, int thing) {
    if (!isPerson(person) || !is(thing, 0, 7)) return -1;
    int[] hours = should(person, viewed());
    if (hours[thing] == NEVER || hours[thing] == told(person, thing, viewed(), true)) return -3;
    for (int i = 0; i < rules().size(); i++) {
      Line l = rules().get(i);
      if (thingBy(l, facts(person, viewed())) == thing && hourBy(l, hours) == hours[thing]) return i;
    }
    throw new IllegalStateException();
  }
  int feed(long eight, int n) {
    if (!is(n, 1, 8)) return -1;
    if (tape.size() + n > 240) return -2;
    for (int i = 0; i < n; i++) tape.add((int) (eight >> (8 * i) & 0xff));
    return tape.size();
  }
  int read() {
    Text text = new Text(tape);
    int end = tape.size();
    List<Line> lines;
    try {
      lines = text.lines();
    } catch (Fault f) {
      tape.clear();
      return -100 - Math.min(f.place, end);
    }
    tape.clear();
    if (k.versions.size() == 8) return -2;
    k.versions = with(k.versions, new Version(k.today, lines));
    return k.versions.size() - 1;
  }
  int line(int version, int i, int what) {
    if (!is(version, 0, k.versions.size() - 1)) return -9;
    List<Line> lines = k.versions.get(version).lines;
    if (!is(i, 0, lines.size() - 1) || !is(what, 0, 4)) return -9;
    Line l = lines.get(i);
    if (what == 0) return l.sort;
    if (what == 4) return l.cond == null ? 0 : 1;
    return what - 1 < l.n.length ? l.n[what - 1] : -9;
  }

  static final class Fault extends RuntimeException {
    final int place;
    Fault(int place) { this.place = place; }
  }

  /** Words with their places; then the grammar, that throws where a word can't stand. */
  static final class Text {
    private final List<String> words = new ArrayList<>();
    private final List<Integer> places = new ArrayList<>();
    private int at = 0;

    Text(List<Integer> bytes) {
      StringBuilder b = new StringBuilder();
      for (int x : bytes) b.append((char) x);
      var m = java.util.regex.Pattern.compile("[a-z]+|[0-9]+|[^ ]", java.util.regex.Pattern.DOTALL).matcher(b);
      while (m.find()) {
        words.add(m.group());
        places.add(m.start());
      }
      words.add("");
      places.add(b.length());
    }
    private String word() { return words.get(at); }
    private Fault fault() { return new Fault(places.get(at)); }
    private void need(String w) {
      if (!word().equals(w)) throw fault();
      at++;
    }
    private boolean may(String w) {
      if (!word().equals(w)) return false;
      at++;
      return true;
    }
    private int number(int most) {
      if (!word().matches("[0-9]{1,3}") || Integer.parseInt(word()) > most) throw fault();
      return Integer.parseInt(words.get(at++));
    }
    List<Line> lines() {
      List<Line> lines = new ArrayList<>();
      while (!word().isEmpty()) {
        if (lines.size() == 9) throw fault();
        int sort = List.of("taken", "warn", "ask", "heard").indexOf(word());
        if (sort < 0) throw fault();
        at++;
        int[] n;
        if (sort == 0) {
          int a = number(99);
          need("of");
          int b = number(7);
          need("from");
          n = new int[] {a, b, number(7)};
        } else if (sort == 2) {
          int a = number(7);
          need("by");
          n = new int[] {a, number(999)};
        } else {
          n = new int[] {number(sort == 1 ? 99 : 9)};
        }
        Cond cond = sort != 3 && may("if") ? any(0) : null;
        need(";");
        lines.add(new Line(sort, n, cond));
      }
      return lines;
    }
    private Cond any(int open) {
      List<Cond> parts = new ArrayList<>();
      do parts.add(all(open)); while (may("or"));
      return facts -> parts.stream().anyMatch(c -> c.holds(facts));
    }
    private Cond all(int open) {
      List<Cond> parts = new ArrayList<>();
      do parts.add(one(open)); while (may("and"));
      return facts -> parts.stream().allMatch(c -> c.holds(facts));
    }
    private Cond one(int open) {
      if (may("not")) {
        Cond c = one(open);
        return facts -> !c.holds(facts);
      }
      if (word().equals("(")) {
        if (open == 4) throw fault();
        at++;
        Cond c = any(open + 1);
        need(")");
        return c;
      }
      int fact = List.of("person", "post", "had", "made", "slow").indexOf(word());
      if (fact < 0) throw fault();
      at++;
      String sign = word();
      if (!List.of("<", "=", ">").contains(sign)) throw fault();
      at++;
      int n = number(999);
      return switch (sign) {
        case "<" -> facts -> facts[fact] < n;
        case "=" -> facts -> facts[fact] == n;
        default -> facts -> facts[fact] > n;
      };
    }
  }

  // ---- sayings

  int saying(int by, int of, int paper, int how, boolean yes, int talk) {
    if (!isPerson(by) || !isPerson(of) || !isPaper(paper) || !is(how, 0, 9999) || how % 10 == 0) return -1;
    if (!is(talk, -1, k.sayings.size() - 1)) return -1;
    if (k.sayings.size() == 16) return -2;
    k.sayings = with(k.sayings, new Saying(by, of, paper, how / 10, how % 10, yes, talk, k.today));
    return k.sayings.size() - 1;
  }
  private List<Integer> counting() {
    List<Integer> list = new ArrayList<>();
    for (int i = 0; i < k.sayings.size(); i++) {
      Saying s = k.sayings.get(i);
      if (s.day <= day() && s.talk == -1 && viewed().contains(s.paper)) list.add(i);
    }
    return list;
  }
  private static boolean against(Saying s, int h) { return s.yes ? s.hour < h : s.hour >= h; }
  private int[] hours(int person, int paper) {
    if (!hasHand(paper, person, viewed())) return new int[] {0, 1000};
    return new int[] {handOf(paper, person, viewed(), false), handOf(paper, person, viewed(), true)};
  }
  int quarrel(int person, int paper, int what) {
    if (!isPerson(person) || !isPaper(paper) || !is(what, 0, 1)) return -1;
    if (!viewed().contains(paper)) return -3;
    int[] range = hours(person, paper);
    List<Saying> all = counting().stream().map(i -> k.sayings.get(i)).filter(s -> s.of == person && s.paper == paper).toList();
    int least = NEVER, believed = 0;
    for (int h = range[0]; h <= range[1]; h++) {
      int sum = 0;
      for (Saying s : all) if (against(s, h)) sum += s.weight;
      if (sum < least) {
        least = sum;
        believed = h;
      }
    }
    return what == 0 ? least : believed + 1000;
  }
  int impossible() {
    int bits = 0;
    for (int i : counting()) {
      Saying s = k.sayings.get(i);
      int[] range = hours(s.of, s.paper);
      boolean each = true;
      for (int h = range[0]; h <= range[1]; h++) each &= against(s, h);
      if (each) bits |= 1 << i;
    }
    return bits;
  }

  // ---- findings

  int finding(int person, int thing, int hour, int way) {
    if (!isPerson(person) || !is(thing, 0, 7) || !is(hour, 0, 999) || !is(way, 0, 2)) return -1;
    if (k.findings.size() == 12) return -2;
    k.findings = with(k.findings, new Finding(person, thing, hour, way));
    return k.findings.size() - 1;
  }
  private boolean stands(int finding, List<Integer> papers) {
    Finding f = k.findings.get(finding);
    return f.hour >= known(f.person, f.thing, f.way, papers);
  }
  private List<Integer> leans(int finding) {
    if (!stands(finding, viewed())) return List.of();
    return viewed().stream().filter(p -> !stands(finding, viewed().stream().filter(q -> !q.equals(p)).toList())).toList();
  }
  private boolean barred(int finding) {
    int person = k.findings.get(finding).person, days = 0, heard = 0;
    int[] facts = facts(person, viewed());
    for (Line l : rules()) if (l.sort == 3) heard = l.n[0];
    for (int i = rules().size() - 1; i >= 0; i--) {
      Line l = rules().get(i);
      if (l.sort == 1 && (l.cond == null || l.cond.holds(facts))) days = l.n[0];
    }
    if (personOf(person, 4) < heard) return true;
    for (int p : leans(finding)) {
      boolean warned = false;
      for (Warning w : k.warnings) {
        if (w.person == person && w.paper == p && w.day <= day() && day() - w.day >= days) warned = true;
      }
      if (!warned) return true;
    }
    return false;
  }
  int findingOf(int finding, int what) {
    if (!is(finding, 0, k.findings.size() - 1) || !is(what, 0, 6)) return -1;
    Finding f = k.findings.get(finding);
    return switch (what) {
      case 0 -> f.person;
      case 1 -> f.thing;
      case 2 -> f.hour;
      case 3 -> f.way;
      case 4 -> stands(finding, viewed()) ? 1 : 0;
      case 5 -> leans(finding).stream().mapToInt(p -> 1 << p).sum();
      default -> barred(finding) ? 1 : 0;
    };
  }
  int warn(int person, int paper) {
    if (!isPerson(person) || !isPaper(paper)) return -1;
    if (k.warnings.size() == 16) return -2;
    k.warnings = with(k.warnings, new Warning(person, paper, k.today));
    return k.warnings.size() - 1;
  }

  // ---- questions: all orders are tried

  int question(int days, int things) {
    if (!is(days, 1, 9) || !is(things, 0, 255)) return -1;
    if (k.questions.size() == 7) return -2;
    k.questions = with(k.questions, new Question(days, things));
    return k.questions.size() - 1;
  }
  private int bestCost;
  private List<Integer> bestOrder;

  int round(int questions) {
    if (questions < 0 || questions >= 1 << k.questions.size()) return -1;
    if (questions == 0) return -3;
    bestCost = NEVER;
    orders(questions, new ArrayList<>());
    rows = new ArrayList<>();
    int day = k.today;
    for (int q : bestOrder) rows.add(new int[] {q, day += k.questions.get(q).days});
    asked = questions;
    askedDay = k.today;
    return bestCost;
  }
  private void orders(int left, List<Integer> order) {
    if (left == 0) {
      int cost = 0, time = 0, closed = 0;
      for (int q : order) {
        time += k.questions.get(q).days;
        cost += time * Integer.bitCount(k.questions.get(q).things & ~closed);
        closed |= k.questions.get(q).things;
      }
      if (cost < bestCost) {
        bestCost = cost;
        bestOrder = new ArrayList<>(order);
      }
      return;
    }
    for (int q = 0; q < 7; q++) {
      if (!bit(left, q)) continue;
      order.add(q);
      orders(left & ~(1 << q), order);
      order.remove(order.size() - 1);
    }
  }
  int row(int i, int what) {
    return is(i, 0, rows.size() - 1) && is(what, 0, 1) ? rows.get(i)[what] : -9;
  }
  int alterRow(int i, int what, int v) {
    int was = row(i, what);
    if (is(i, 0, rows.size() - 1) && is(what, 0, 1)) rows.get(i)[what] = v;
    return was;
  }
  int dropRow() {
    if (rows.isEmpty()) return -3;
    rows.remove(rows.size() - 1);
    return rows.size();
  }
  int judge() {
    if (asked < 0) return -3;
    List<Integer> set = new ArrayList<>();
    for (int q = 0; q < k.questions.size(); q++) if (bit(asked, q)) set.add(q);
    int day = askedDay;
    for (int i = 0; i < rows.size(); i++) {
      Integer q = rows.get(i)[0];
      if (!set.remove(q)) return i + 1;
      day += k.questions.get(q).days;
      if (rows.get(i)[1] != day) return i + 1;
    }
    return set.isEmpty() ? 0 : rows.size() + 1;
  }

  // ---- the host: kinds as classes, rows as arrays

  static final class Parted extends RuntimeException {}

  class PaperKind {
    final int n, p, a;
    PaperKind(int n, int p, int a) { this.n = n; this.p = p; this.a = a; }
    int bounds(int x) { trace.add(10); return x + a; }
    int reaches(int x) { trace.add(11); return bounds(x) * 2; }
    int weighs(int x) { trace.add(12); return reaches(x) - p; }
    int ends(int x) {
      trace.add(13);
      if (p == n) throw new Parted();
      return x / (p - n);
    }
  }
  class Letter extends PaperKind {
    Letter(int n, int p, int a) { super(n, p, a); }
    @Override int reaches(int x) { trace.add(20); return super.reaches(x) ^ n; }
  }
  class Draft extends PaperKind {
    Draft(int n, int p, int a) { super(n, p, a); }
    @Override int weighs(int x) { trace.add(30); return super.weighs(x) * 3; }
  }
  class Shut extends Letter {
    Shut(int n, int p, int a) { super(n, p, a); }
    @Override int reaches(int x) { trace.add(40); return 0 - super.reaches(x); }
    @Override int ends(int x) { trace.add(41); return super.ends(x + 2); }
  }
  class Note extends PaperKind {
    Note(int n, int p, int a) { super(n, p, a); }
    @Override int bounds(int x) { trace.add(50); return super.bounds(x) - n; }
    @Override int weighs(int x) { trace.add(51); return super.weighs(x) + reaches(1); }
  }
  class Said extends Note {
    Said(int n, int p, int a) { super(n, p, a); }
    @Override int weighs(int x) { trace.add(60); return super.weighs(x) * 2; }
    @Override int bounds(int x) { trace.add(61); return super.bounds(x + p); }
  }
  class Found extends PaperKind {
    Found(int n, int p, int a) { super(n, p, a); }
    @Override int ends(int x) { trace.add(70); return super.ends(x) - bounds(n); }
  }

  int sheet(int sheet, int sort, int n) {
    if (!is(sheet, 0, 3) || !is(sort, -1, 4)) return -1;
    if (sort >= 0 && n > 40) return -1;
    if (sort >= 0 && n < 0) return -14;
    sheets[sheet] = switch (sort) {
      case 0 -> new byte[n];
      case 1 -> new short[n];
      case 2 -> new int[n];
      case 3 -> new long[n];
      case 4 -> new boolean[n];
      default -> null;
    };
    return 1;
  }
  private static int length(Object row) { return java.lang.reflect.Array.getLength(row); }
  int put(int sheet, int i, int v) {
    if (!is(sheet, 0, 3)) return -1;
    Object row = sheets[sheet];
    if (row == null) return -11;
    if (!is(i, 0, length(row) - 1)) return -12;
    if (row instanceof byte[] r) r[i] = (byte) v;
    if (row instanceof short[] r) r[i] = (short) v;
    if (row instanceof int[] r) r[i] = v;
    if (row instanceof long[] r) r[i] = v;
    if (row instanceof boolean[] r) r[i] = v != 0;
    return 1;
  }
  private static boolean isOf(Object row, int sort) {
    return switch (sort) {
      case 0 -> row instanceof byte[];
      case 1 -> row instanceof short[];
      case 2 -> row instanceof int[];
      case 3 -> row instanceof long[];
      case 4 -> row instanceof boolean[];
      default -> false;
    };
  }
  int item(int sheet, int sort, int i) {
    if (!is(sheet, 0, 3) || !is(sort, 0, 4)) return -1;
    Object row = sheets[sheet];
    if (row != null && !isOf(row, sort)) return -13;
    if (row == null) return -11;
    if (!is(i, 0, length(row) - 1)) return -12;
    if (row instanceof byte[] r) return r[i];
    if (row instanceof short[] r) return r[i];
    if (row instanceof int[] r) return r[i];
    if (row instanceof long[] r) return (int) r[i];
    return ((boolean[]) row)[i] ? 1 : 0;
  }
  int shelf(int shelf, int what, int n) {
    if (!is(shelf, 0, 3) || !is(what, 0, 4)) return -1;
    int most = new int[] {k.papers.size() - 1, k.sayings.size() - 1, k.findings.size() - 1, 3, NEVER}[what];
    if (what < 4 && !is(n, 0, most)) return -1;
    shelves[shelf] = what == 4 ? null : what == 3 ? sheets[n] : new int[][] {{what, n}};
    return 1;
  }
  /** null: nothing; a PaperKind; or an array. */
  private Object held(int shelf) {
    if (!(shelves[shelf] instanceof int[][] name)) return shelves[shelf];
    int what = name[0][0], n = name[0][1];
    if (what == 0 && n < k.papers.size()) {
      Paper p = k.papers.get(n);
      boolean letter = (p.to & ~(1 << p.by)) != 0;
      if (!letter) return new Draft(n, p.by, p.things);
      return p.level > 0 ? new Shut(n, p.by, p.things) : new Letter(n, p.by, p.things);
    }
    if (what == 1 && n < k.sayings.size()) {
      Saying s = k.sayings.get(n);
      return s.talk == -1 ? new Said(n, s.by, s.weight) : new Note(n, s.by, s.weight);
    }
    if (what == 2 && n < k.findings.size()) return new Found(n, k.findings.get(n).person, k.findings.get(n).hour);
    return null;
  }
  int taken(int shelf, int as) {
    if (!is(shelf, 0, 3) || !is(as, 0, 6) && !is(as, 10, 14)) return -1;
    Object x = held(shelf);
    boolean fits = switch (as) {
      case 0 -> x instanceof PaperKind;
      case 1 -> x instanceof Letter;
      case 2 -> x instanceof Draft;
      case 3 -> x instanceof Shut;
      case 4 -> x instanceof Note;
      case 5 -> x instanceof Said;
      case 6 -> x instanceof Found;
      default -> isOf(x, as - 10);
    };
    if (x == null) return -11;
    if (!fits) return -13;
    return x instanceof PaperKind p ? p.n : length(x);
  }
  int deal(int shelf, int deal, int x) {
    trace = new ArrayList<>();
    if (!is(shelf, 0, 3) || !is(deal, 0, 3)) return 0;
    if (!(held(shelf) instanceof PaperKind p)) return 0;
    try {
      return switch (deal) {
        case 0 -> p.bounds(x);
        case 1 -> p.reaches(x);
        case 2 -> p.weighs(x);
        default -> p.ends(x);
      };
    } catch (Parted e) {
      return -15;
    }
  }
  int trace(int i) { return is(i, 0, Math.min(30, trace.size()) - 1) ? trace.get(i) : -3; }
  int many(int what) {
    if (!is(what, 0, 14)) return -1;
    return switch (what) {
      case 0 -> k.today;
      case 1 -> k.persons.size();
      case 2 -> k.papers.size();
      case 3 -> viewed().size();
      case 4 -> k.stamps.size();
      case 5 -> k.versions.size();
      case 6 -> k.sayings.size();
      case 7 -> counting().size();
      case 8 -> k.findings.size();
      case 9 -> {
        int n = 0;
        for (int f = 0; f < k.findings.size(); f++) if (stands(f, viewed())) n++;
        yield n;
      }
      case 10 -> k.warnings.size();
      case 11 -> k.questions.size();
      case 12 -> rows.size();
      case 13 -> tape.size();
      default -> Math.min(30, trace.size());
    };
  }

  // ---- kept

  int keep() {
    kept = k.copy();
    return 1;
  }
  int again() {
    if (kept == null) return -3;
    k = kept.copy();
    return 1;
  }
}
