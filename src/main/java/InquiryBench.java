/** An inquiry's clock: it says who knew what by which hour, from papers whose clocks were wrong. */
public final class InquiryBench {
  public static final int BAD = -1, FULL = -2, NONE = -3, STATE = -4;

  private static final int NO_ROW = -9;
  private static final int NOTHING = -11, OUTSIDE = -12, OTHER_KIND = -13, SIZE_BELOW_0 = -14, PARTED_BY_0 = -15;

  private static final int PERSONS = 10, PAPERS = 12, STAMPS = 24, VERSIONS = 8, SAYINGS = 16;
  private static final int FINDINGS = 12, WARNINGS = 16, QUESTIONS = 7;
  private static final int LAST_DAY = 499, LAST_HOUR = 999, MOST_LEVEL = 3, MOST_GAP = 99;
  private static final int THINGS = 8, ALL_THINGS = 255, CLOCKS = 6, MOST_AHEAD = 60;
  private static final int TAPE_ROOM = 240, LINES = 9, STEPS = 120;

  /** Hours may lie below 0 (a clock went ahead); answers are moved up by this to stay clear of refusals. */
  private static final int MORE = 1000;
  private static final int NEVER = 1000000;

  private static final int PERSON_POST = 0, PERSON_SLOW = 1;
  private static final int PAPER_BY = 0, PAPER_TO = 1, PAPER_THINGS = 2, PAPER_LEVEL = 3;
  private static final int PAPER_FOUND = 4, PAPER_LOST = 5;
  private static final int STAMP_PAPER = 0, STAMP_CLOCK = 1, STAMP_HOUR = 2;
  private static final int VERSION_DAY = 0, VERSION_FIRST = 1, VERSION_LINES = 2;
  private static final int LINE_SORT = 0, LINE_N1 = 1, LINE_N2 = 2, LINE_N3 = 3;
  private static final int LINE_COND = 4, LINE_FIRST = 5, LINE_STEPS = 6;
  private static final int SAYING_BY = 0, SAYING_OF = 1, SAYING_PAPER = 2, SAYING_HOUR = 3, SAYING_WEIGHT = 4;
  private static final int SAYING_YES = 5, SAYING_TALK = 6, SAYING_DAY = 7;
  private static final int FINDING_PERSON = 0, FINDING_THING = 1, FINDING_HOUR = 2, FINDING_WAY = 3;
  private static final int WARNING_PERSON = 0, WARNING_PAPER = 1, WARNING_DAY = 2;
  private static final int QUESTION_DAYS = 0, QUESTION_THINGS = 1;

  private static final int SURE = 0, MAY = 1, SHOULD = 2;
  private static final int SORT_TAKEN = 0, SORT_WARN = 1, SORT_ASK = 2, SORT_HEARD = 3;
  private static final int STEP_NOT = -1, STEP_AND = -2, STEP_OR = -3;
  private static final int SIGN_LESS = 0, SIGN_SAME = 1, SIGN_MORE = 2, SIGNS = 3;
  private static final int ON_PAPER = 0, ON_SAYING = 1, ON_FINDING = 2, ON_ROW = 3, ON_NOTHING = 4;

  private final Book book;
  private final Book kept;
  private boolean isKept;
  private final Sight sight;
  private final Doubt doubt;
  private final Rules rules;
  private final Talk talk;
  private final Tape tape;
  private final Round best;
  private final Host host;
  private final Dealer dealer;

  public InquiryBench() {
    Book papers = new Book();
    Sight seen = new Sight(papers);
    book = papers;
    kept = new Book();
    isKept = false;
    sight = seen;
    doubt = new Doubt(papers);
    rules = new Rules(papers, seen);
    talk = new Talk(papers, seen);
    tape = new Tape();
    best = new Round(papers);
    host = new Host();
    dealer = new Dealer(papers);
  }

  // ---- days, persons, papers

  public int days(int n) {
    if (!within(n, 1, 99)) return BAD;
    if (book.today + n > LAST_DAY) return STATE;
    book.today += n;
    return book.today;
  }

  public int view(int day, int level) {
    if (!within(day, -1, LAST_DAY) || !within(level, 0, MOST_LEVEL)) return BAD;
    book.viewDay = day;
    book.viewLevel = level;
    return Integer.bitCount(book.inView());
  }

  public int person(int post, int slow) {
    if (!within(post, 0, 9) || !within(slow, 0, 48)) return BAD;
    if (book.persons.isFull()) return FULL;
    int person = book.persons.append();
    book.persons.set(person, PERSON_POST, post);
    book.persons.set(person, PERSON_SLOW, slow);
    return person;
  }

  public int personOf(int person, int what) {
    if (!book.persons.has(person)) return BAD;
    switch (what) {
      case 0: return book.persons.at(person, PERSON_POST);
      case 1: return book.persons.at(person, PERSON_SLOW);
      case 2: return book.countTo(person, book.inView());
      case 3: return book.countBy(person, book.inView());
      case 4: return book.countSayingsBy(person, book.inView());
      default: return BAD;
    }
  }

  public int paper(int by, int to, int things, int level) {
    if (!book.persons.has(by) || !book.persons.hasAll(to)) return BAD;
    if (!within(things, 0, ALL_THINGS) || !within(level, 0, MOST_LEVEL)) return BAD;
    if (book.papers.isFull()) return FULL;
    int paper = book.papers.append();
    book.papers.set(paper, PAPER_BY, by);
    book.papers.set(paper, PAPER_TO, to);
    book.papers.set(paper, PAPER_THINGS, things);
    book.papers.set(paper, PAPER_LEVEL, level);
    book.papers.set(paper, PAPER_FOUND, book.today);
    book.papers.set(paper, PAPER_LOST, -1);
    return paper;
  }

  public int lose(int paper) {
    if (!book.papers.has(paper)) return BAD;
    if (book.papers.at(paper, PAPER_LOST) >= 0) return STATE;
    book.papers.set(paper, PAPER_LOST, book.today);
    return 1;
  }

  public int paperOf(int paper, int what) {
    if (!book.papers.has(paper)) return BAD;
    switch (what) {
      case 0: return book.papers.at(paper, PAPER_BY);
      case 1: return book.papers.at(paper, PAPER_TO);
      case 2: return book.papers.at(paper, PAPER_THINGS);
      case 3: return book.papers.at(paper, PAPER_LEVEL);
      case 4: return book.papers.at(paper, PAPER_FOUND);
      case 5: return book.countStamps(paper);
      case 6: return hasBit(book.inView(), paper) ? 1 : 0;
      default: return BAD;
    }
  }

  // ---- clocks

  public int stamp(int paper, int clock, int h) {
    if (!book.papers.has(paper) || !isStamp(clock, h)) return BAD;
    if (book.stamps.isFull()) return FULL;
    return book.addStamp(paper, clock, h);
  }

  public int stamps(int paper, int sheet, int i, int n) {
    if (!book.papers.has(paper) || !isSheet(sheet) || !within(n, 0, 9)) return BAD;
    int refusal = host.refusal(sheet, Host.SHORTS);
    if (refusal != 0) return refusal;
    if (!within(i, 0, host.size(sheet)) || 2 * n > host.size(sheet) - i) return OUTSIDE;
    for (int k = 0; k < n; k++) {
      if (!isStamp(host.at(sheet, i + 2 * k), host.at(sheet, i + 2 * k + 1))) return STATE;
    }
    if (book.stamps.count() + n > STAMPS) return FULL;
    for (int k = 0; k < n; k++) {
      book.addStamp(paper, host.at(sheet, i + 2 * k), host.at(sheet, i + 2 * k + 1));
    }
    return book.stamps.count();
  }

  public int gap(int n) {
    if (!within(n, 0, MOST_GAP)) return BAD;
    int was = book.gap;
    book.gap = n;
    return was;
  }

  public int clash(int what) {
    if (!within(what, 0, 1)) return BAD;
    if (what == 1) return doubt.fewest(book.inView());
    sight.look(book.inView());
    return sight.clashes() ? 1 : 0;
  }

  public int span(int clock, boolean most) {
    if (!within(clock, 0, CLOCKS - 1)) return BAD;
    sight.look(book.inView());
    if (sight.clashes()) return STATE;
    return sight.ahead(clock, most) + MORE;
  }

  public int sent(int paper, boolean most) {
    if (!book.papers.has(paper)) return BAD;
    sight.look(book.inView());
    if (!sight.isSent(paper)) return NONE;
    return sight.sentHour(paper, most) + MORE;
  }

  public int hand(int paper, int person, boolean most) {
    if (!book.papers.has(paper) || !book.persons.has(person)) return BAD;
    sight.look(book.inView());
    if (!sight.isInHand(paper, person)) return NONE;
    return sight.handHour(paper, person, most) + MORE;
  }

  public int before(int paper, int other) {
    if (!book.papers.has(paper) || !book.papers.has(other) || paper == other) return BAD;
    sight.look(book.inView());
    if (!sight.isSent(paper) || !sight.isSent(other)) return NONE;
    if (sight.leastBetween(paper, other) > 0) return 2;
    return sight.mostBetween(paper, other) > 0 ? 1 : 0;
  }

  // ---- who knew

  public int knew(int person, int thing, int way) {
    if (!book.persons.has(person) || !isThing(thing) || !isWay(way)) return BAD;
    int hour = knownFrom(person, thing, way, book.inView());
    return hour == NEVER ? NONE : hour + MORE;
  }

  public int feed(long eight, int n) {
    if (!within(n, 1, 8)) return BAD;
    if (tape.count() + n > TAPE_ROOM) return FULL;
    for (int k = 0; k < n; k++) tape.append((int) (eight >>> (8 * k)) & 255);
    return tape.count();
  }

  public int read() {
    int fault = tape.scan();
    tape.clear();
    if (fault >= 0) return -100 - fault;
    if (book.versions.isFull()) return FULL;
    return tape.store(book);
  }

  public int line(int version, int i, int what) {
    if (!book.versions.has(version) || !within(i, 0, book.versions.at(version, VERSION_LINES) - 1)) return NO_ROW;
    int line = book.versions.at(version, VERSION_FIRST) + i;
    switch (what) {
      case 0: return book.lines.at(line, LINE_SORT);
      case 1: return book.lines.at(line, LINE_N1);
      case 2: return book.lines.at(line, LINE_N2);
      case 3: return book.lines.at(line, LINE_N3);
      case 4: return book.lines.at(line, LINE_COND);
      default: return NO_ROW;
    }
  }

  public int why(int person, int thing) {
    if (!book.persons.has(person) || !isThing(thing)) return BAD;
    int papers = book.inView();
    sight.look(papers);
    rules.settle(person, papers);
    int hour = rules.shouldHour(thing);
    if (hour == NEVER || hour == sight.toldHour(person, thing, true)) return NONE;
    return rules.firstLineFor(thing);
  }

  // ---- sayings

  public int saying(int by, int of, int paper, int how, boolean yes, int talk) {
    if (!book.persons.has(by) || !book.persons.has(of) || !book.papers.has(paper)) return BAD;
    if (how < 0 || !within(how / 10, 0, LAST_HOUR) || how % 10 == 0) return BAD;
    if (talk != -1 && !book.sayings.has(talk)) return BAD;
    if (book.sayings.isFull()) return FULL;
    int saying = book.sayings.append();
    book.sayings.set(saying, SAYING_BY, by);
    book.sayings.set(saying, SAYING_OF, of);
    book.sayings.set(saying, SAYING_PAPER, paper);
    book.sayings.set(saying, SAYING_HOUR, how / 10);
    book.sayings.set(saying, SAYING_WEIGHT, how % 10);
    book.sayings.set(saying, SAYING_YES, yes ? 1 : 0);
    book.sayings.set(saying, SAYING_TALK, talk);
    book.sayings.set(saying, SAYING_DAY, book.today);
    return saying;
  }

  public int quarrel(int person, int paper, int what) {
    if (!book.persons.has(person) || !book.papers.has(paper) || !within(what, 0, 1)) return BAD;
    int papers = book.inView();
    if (!hasBit(papers, paper)) return NONE;
    sight.look(papers);
    talk.weigh(person, paper, papers);
    return what == 0 ? talk.leastWeight() : talk.believedHour() + MORE;
  }

  public int impossible() {
    int papers = book.inView();
    sight.look(papers);
    return talk.impossibleOnes(papers);
  }

  // ---- findings

  public int finding(int person, int thing, int hour, int way) {
    if (!book.persons.has(person) || !isThing(thing) || !within(hour, 0, LAST_HOUR) || !isWay(way)) return BAD;
    if (book.findings.isFull()) return FULL;
    int finding = book.findings.append();
    book.findings.set(finding, FINDING_PERSON, person);
    book.findings.set(finding, FINDING_THING, thing);
    book.findings.set(finding, FINDING_HOUR, hour);
    book.findings.set(finding, FINDING_WAY, way);
    return finding;
  }

  public int findingOf(int finding, int what) {
    if (!book.findings.has(finding)) return BAD;
    int papers = book.inView();
    switch (what) {
      case 0: return book.findings.at(finding, FINDING_PERSON);
      case 1: return book.findings.at(finding, FINDING_THING);
      case 2: return book.findings.at(finding, FINDING_HOUR);
      case 3: return book.findings.at(finding, FINDING_WAY);
      case 4: return stands(finding, papers) ? 1 : 0;
      case 5: return leansOn(finding, papers);
      case 6: return isBarred(finding, papers, leansOn(finding, papers)) ? 1 : 0;
      default: return BAD;
    }
  }

  public int warn(int person, int paper) {
    if (!book.persons.has(person) || !book.papers.has(paper)) return BAD;
    if (book.warnings.isFull()) return FULL;
    int warning = book.warnings.append();
    book.warnings.set(warning, WARNING_PERSON, person);
    book.warnings.set(warning, WARNING_PAPER, paper);
    book.warnings.set(warning, WARNING_DAY, book.today);
    return warning;
  }

  // ---- questions

  public int question(int days, int things) {
    if (!within(days, 1, 9) || !within(things, 0, ALL_THINGS)) return BAD;
    if (book.questions.isFull()) return FULL;
    int question = book.questions.append();
    book.questions.set(question, QUESTION_DAYS, days);
    book.questions.set(question, QUESTION_THINGS, things);
    return question;
  }

  public int round(int questions) {
    if (!book.questions.hasAll(questions)) return BAD;
    if (questions == 0) return NONE;
    return best.order(questions);
  }

  public int row(int i, int what) {
    if (!best.rows.has(i) || !within(what, 0, 1)) return NO_ROW;
    return best.rows.at(i, what);
  }

  public int alterRow(int i, int what, int v) {
    if (!best.rows.has(i) || !within(what, 0, 1)) return NO_ROW;
    int was = best.rows.at(i, what);
    best.rows.set(i, what, v);
    return was;
  }

  public int dropRow() {
    if (best.rows.count() == 0) return NONE;
    best.rows.cut(best.rows.count() - 1);
    return best.rows.count();
  }

  public int judge() {
    if (!best.isTold()) return NONE;
    return best.firstWrong() + 1;
  }

  // ---- the host

  public int sheet(int sheet, int sort, int n) {
    if (!isSheet(sheet) || !within(sort, Host.MISSING, Host.BOOLEANS)) return BAD;
    if (sort == Host.MISSING) {
      host.clear(sheet);
      return 1;
    }
    if (n > Host.ITEMS) return BAD;
    if (n < 0) return SIZE_BELOW_0;
    host.lay(sheet, sort, n);
    return 1;
  }

  public int put(int sheet, int i, int v) {
    if (!isSheet(sheet)) return BAD;
    if (host.sort(sheet) == Host.MISSING) return NOTHING;
    if (!within(i, 0, host.size(sheet) - 1)) return OUTSIDE;
    host.write(sheet, i, v);
    return 1;
  }

  public int item(int sheet, int sort, int i) {
    if (!isSheet(sheet) || !isSort(sort)) return BAD;
    int refusal = host.refusal(sheet, sort);
    if (refusal != 0) return refusal;
    if (!within(i, 0, host.size(sheet) - 1)) return OUTSIDE;
    return host.at(sheet, i);
  }

  public int shelf(int shelf, int what, int n) {
    if (!isShelf(shelf)) return BAD;
    switch (what) {
      case ON_PAPER: if (!book.papers.has(n)) return BAD; break;
      case ON_SAYING: if (!book.sayings.has(n)) return BAD; break;
      case ON_FINDING: if (!book.findings.has(n)) return BAD; break;
      case ON_ROW: if (!isSheet(n)) return BAD; break;
      case ON_NOTHING: break;
      default: return BAD;
    }
    if (what == ON_ROW) host.holdRow(shelf, n);
    else host.hold(shelf, what, n);
    return 1;
  }

  public int taken(int shelf, int as) {
    if (!isShelf(shelf) || !within(as, 0, Dealer.KINDS - 1) && !isSort(as - 10)) return BAD;
    int what = host.held(shelf, book);
    if (what == ON_NOTHING) return NOTHING;
    if (what == ON_ROW) return host.heldSort(shelf) == as - 10 ? host.heldNumber(shelf) : OTHER_KIND;
    dealer.grasp(what, host.heldNumber(shelf));
    return dealer.isUnder(as) ? host.heldNumber(shelf) : OTHER_KIND;
  }

  public int deal(int shelf, int deal, int x) {
    dealer.clearTrace();
    if (!isShelf(shelf) || !within(deal, 0, Dealer.DEALS - 1)) return 0;
    int what = host.held(shelf, book);
    if (what == ON_NOTHING || what == ON_ROW) return 0;
    dealer.grasp(what, host.heldNumber(shelf));
    return dealer.answer(deal, x);
  }

  public int trace(int i) {
    return within(i, 0, dealer.ran() - 1) ? dealer.traced(i) : NONE;
  }

  public int many(int what) {
    switch (what) {
      case 0: return book.today;
      case 1: return book.persons.count();
      case 2: return book.papers.count();
      case 3: return Integer.bitCount(book.inView());
      case 4: return book.stamps.count();
      case 5: return book.versions.count();
      case 6: return book.sayings.count();
      case 7: return book.countSayings(book.inView());
      case 8: return book.findings.count();
      case 9: return countStanding(book.inView());
      case 10: return book.warnings.count();
      case 11: return book.questions.count();
      case 12: return best.rows.count();
      case 13: return tape.count();
      case 14: return dealer.ran();
      default: return BAD;
    }
  }

  // ---- kept

  public int keep() {
    kept.copy(book);
    isKept = true;
    return 1;
  }

  public int again() {
    if (!isKept) return NONE;
    book.copy(kept);
    return 1;
  }

  private static boolean within(int v, int least, int most) {
    return v >= least && v <= most;
  }

  private static boolean hasBit(int bits, int i) {
    return i >= 0 && i < 31 && (bits >> i & 1) == 1;
  }

  private static boolean isThing(int thing) {
    return within(thing, 0, THINGS - 1);
  }

  private static boolean isWay(int way) {
    return within(way, SURE, SHOULD);
  }

  private static boolean isStamp(int clock, int h) {
    return within(clock, 0, CLOCKS - 1) && within(h, 0, LAST_HOUR);
  }

  private static boolean isSheet(int sheet) {
    return within(sheet, 0, Host.SHEETS - 1);
  }

  private static boolean isShelf(int shelf) {
    return within(shelf, 0, Host.SHELVES - 1);
  }

  private static boolean isSort(int sort) {
    return within(sort, 0, Host.BOOLEANS);
  }

  /** The hour from which a person knew a thing, if just these papers were there; NEVER without one. */
  private int knownFrom(int person, int thing, int way, int papers) {
    sight.look(papers);
    if (way != SHOULD) return sight.toldHour(person, thing, way == SURE);
    rules.settle(person, papers);
    return rules.shouldHour(thing);
  }

  private boolean stands(int finding, int papers) {
    int person = book.findings.at(finding, FINDING_PERSON);
    int thing = book.findings.at(finding, FINDING_THING);
    int way = book.findings.at(finding, FINDING_WAY);
    return book.findings.at(finding, FINDING_HOUR) >= knownFrom(person, thing, way, papers);
  }

  private int countStanding(int papers) {
    int count = 0;
    for (int f = 0; f < book.findings.count(); f++) {
      if (stands(f, papers)) count++;
    }
    return count;
  }

  private int leansOn(int finding, int papers) {
    if (!stands(finding, papers)) return 0;
    int leans = 0;
    for (int p = 0; p < book.papers.count(); p++) {
      if (hasBit(papers, p) && !stands(finding, papers & ~(1 << p))) leans |= 1 << p;
    }
    return leans;
  }

  private boolean isBarred(int finding, int papers, int leans) {
    int person = book.findings.at(finding, FINDING_PERSON);
    rules.consider(person, papers);
    if (book.countSayingsBy(person, papers) < rules.leastHeard()) return true;
    int latest = book.viewedDay() - rules.warnDays();
    for (int p = 0; p < book.papers.count(); p++) {
      if (hasBit(leans, p) && !book.isWarned(person, p, latest)) return true;
    }
    return false;
  }

  /** Rows of numbers; their room is made once, so that calls make nothing. */
  private static final class Table {
    private final int room, width;
    private final int[] cells;
    private int count;

    Table(int room, int width) {
      this.room = Math.max(room, 0);
      this.width = Math.max(width, 1);
      cells = new int[this.room * this.width];
      count = 0;
    }

    int count() {
      return count;
    }

    boolean isFull() {
      return count >= room;
    }

    boolean has(int row) {
      return row >= 0 && row < count;
    }

    /** Whether each bit is that of a row. */
    boolean hasAll(int bits) {
      return bits >= 0 && bits >> Math.min(count, 31) == 0;
    }

    int at(int row, int column) {
      if (row < 0 || row >= count || column < 0 || column >= width) return 0;
      return cells[row * width + column];
    }

    void set(int row, int column, int v) {
      if (row < 0 || row >= count || column < 0 || column >= width) return;
      cells[row * width + column] = v;
    }

    int append() {
      if (count >= room) return FULL;
      count++;
      return count - 1;
    }

    /** Ends the rows behind the first n. */
    void cut(int n) {
      if (n >= 0 && n < count) count = n;
    }

    void copy(Table other) {
      int n = Math.min(cells.length, other.cells.length);
      System.arraycopy(other.cells, 0, cells, 0, n);
      count = Math.min(other.count, room);
    }
  }

  /** All that keep() keeps. */
  private static final class Book {
    private final Table persons = new Table(PERSONS, 2);
    private final Table papers = new Table(PAPERS, 6);
    private final Table stamps = new Table(STAMPS, 3);
    private final Table versions = new Table(VERSIONS, 3);
    private final Table lines = new Table(VERSIONS * LINES, 7);
    private final Table steps = new Table(VERSIONS * STEPS, 1);
    private final Table sayings = new Table(SAYINGS, 8);
    private final Table findings = new Table(FINDINGS, 4);
    private final Table warnings = new Table(WARNINGS, 3);
    private final Table questions = new Table(QUESTIONS, 2);
    private int today = 0;
    /** -1: today, as it goes on. */
    private int viewDay = -1;
    private int viewLevel = MOST_LEVEL;
    private int gap = 24;

    void copy(Book other) {
      persons.copy(other.persons);
      papers.copy(other.papers);
      stamps.copy(other.stamps);
      versions.copy(other.versions);
      lines.copy(other.lines);
      steps.copy(other.steps);
      sayings.copy(other.sayings);
      findings.copy(other.findings);
      warnings.copy(other.warnings);
      questions.copy(other.questions);
      today = other.today;
      viewDay = other.viewDay;
      viewLevel = other.viewLevel;
      gap = other.gap;
    }

    int viewedDay() {
      return viewDay < 0 ? today : viewDay;
    }

    /** The papers in the view, as bits. */
    int inView() {
      int bits = 0, day = viewedDay();
      for (int p = 0; p < papers.count(); p++) {
        int lost = papers.at(p, PAPER_LOST);
        boolean isLost = lost >= 0 && lost <= day;
        if (papers.at(p, PAPER_FOUND) <= day && papers.at(p, PAPER_LEVEL) <= viewLevel && !isLost) bits |= 1 << p;
      }
      return bits;
    }

    int countTo(int person, int seen) {
      int count = 0;
      for (int p = 0; p < papers.count(); p++) {
        if (hasBit(seen, p) && hasBit(papers.at(p, PAPER_TO), person)) count++;
      }
      return count;
    }

    int countBy(int person, int seen) {
      int count = 0;
      for (int p = 0; p < papers.count(); p++) {
        if (hasBit(seen, p) && papers.at(p, PAPER_BY) == person) count++;
      }
      return count;
    }

    int addStamp(int paper, int clock, int h) {
      int stamp = stamps.append();
      stamps.set(stamp, STAMP_PAPER, paper);
      stamps.set(stamp, STAMP_CLOCK, clock);
      stamps.set(stamp, STAMP_HOUR, h);
      return stamp;
    }

    int countStamps(int paper) {
      int count = 0;
      for (int s = 0; s < stamps.count(); s++) {
        if (stamps.at(s, STAMP_PAPER) == paper) count++;
      }
      return count;
    }

    /** A talk goes on only from a saying told ahead, and that one is in each view in which this one is. */
    boolean counts(int saying, int seen) {
      return sayings.at(saying, SAYING_DAY) <= viewedDay() && sayings.at(saying, SAYING_TALK) < 0
          && hasBit(seen, sayings.at(saying, SAYING_PAPER));
    }

    int countSayings(int seen) {
      int count = 0;
      for (int s = 0; s < sayings.count(); s++) {
        if (counts(s, seen)) count++;
      }
      return count;
    }

    int countSayingsBy(int person, int seen) {
      int count = 0;
      for (int s = 0; s < sayings.count(); s++) {
        if (sayings.at(s, SAYING_BY) == person && counts(s, seen)) count++;
      }
      return count;
    }

    /** The version that is the rules of the view; -1: an empty text. */
    int ruling() {
      int latest = -1, day = viewedDay();
      for (int v = 0; v < versions.count(); v++) {
        if (versions.at(v, VERSION_DAY) <= day) latest = v;
      }
      return latest;
    }

    boolean isWarned(int person, int paper, int latest) {
      for (int w = 0; w < warnings.count(); w++) {
        if (warnings.at(w, WARNING_PERSON) == person && warnings.at(w, WARNING_PAPER) == paper
            && warnings.at(w, WARNING_DAY) <= latest) return true;
      }
      return false;
    }
  }

  /** What the clocks may go ahead by: for each two, the most by which one may be ahead of the other. */
  private static final class Clocks {
    /** [from * CLOCKS + to]: the most by which `to` is ahead of `from`; always as narrow as it follows. */
    private final int[] most = new int[CLOCKS * CLOCKS];

    /** Clock 0 is true, so the bounds of the others are bounds against it. */
    void free() {
      for (int from = 0; from < CLOCKS; from++) {
        for (int to = 0; to < CLOCKS; to++) {
          int bound = from == 0 || to == 0 ? MOST_AHEAD : 2 * MOST_AHEAD;
          most[from * CLOCKS + to] = from == to ? 0 : bound;
        }
      }
    }

    void copy(Clocks other) {
      System.arraycopy(other.most, 0, most, 0, CLOCKS * CLOCKS);
    }

    int mostAhead(int from, int to) {
      if (from < 0 || from >= CLOCKS || to < 0 || to >= CLOCKS) return 0;
      return most[from * CLOCKS + to];
    }

    /** Takes in that a stamp was made 0 to gap hours behind another one; false: that can't be. */
    boolean follow(Table stamps, int ahead, int behind, int gap) {
      int from = stamps.at(ahead, STAMP_CLOCK), to = stamps.at(behind, STAMP_CLOCK);
      int later = stamps.at(behind, STAMP_HOUR) - stamps.at(ahead, STAMP_HOUR);
      return narrow(from, to, later) && narrow(to, from, gap - later);
    }

    private boolean narrow(int from, int to, int bound) {
      if (!within(from, 0, CLOCKS - 1) || !within(to, 0, CLOCKS - 1)) return true;
      if (most[to * CLOCKS + from] + bound < 0) return false;
      if (bound >= most[from * CLOCKS + to]) return true;
      for (int i = 0; i < CLOCKS; i++) {
        int lead = most[i * CLOCKS + from] + bound;
        for (int j = 0; j < CLOCKS; j++) {
          int way = lead + most[to * CLOCKS + j];
          if (way < most[i * CLOCKS + j]) most[i * CLOCKS + j] = way;
        }
      }
      return true;
    }
  }

  /** What a set of papers tells of hours: when they were sent, and in whose hand they were. */
  private static final class Sight {
    private final Book book;
    private final Clocks clocks = new Clocks();
    /** Of a paper its first and last stamp that is seen, -1 without. */
    private final int[] first = new int[PAPERS], last = new int[PAPERS];
    /** Of a paper the true hours of these stamps; free without them, or if the stamps clash. */
    private final int[] madeLeast = new int[PAPERS], madeMost = new int[PAPERS];
    private final int[] sentLeast = new int[PAPERS], sentMost = new int[PAPERS];
    private boolean clash;

    Sight(Book book) {
      this.book = book;
      clash = false;
    }

    /** All that is asked from here on is asked of these papers alone. */
    void look(int papers) {
      clash = false;
      clocks.free();
      for (int p = 0; p < PAPERS; p++) {
        first[p] = -1;
        last[p] = -1;
      }
      for (int s = 0; s < book.stamps.count(); s++) {
        int p = book.stamps.at(s, STAMP_PAPER);
        if (!within(p, 0, PAPERS - 1) || !hasBit(papers, p)) continue;
        if (last[p] < 0) first[p] = s;
        else if (!clash) clash = !clocks.follow(book.stamps, last[p], s, book.gap);
        last[p] = s;
      }
      boundHours();
    }

    private void boundHours() {
      for (int p = 0; p < PAPERS; p++) {
        if (last[p] < 0) continue;
        madeLeast[p] = trueHour(first[p], false);
        madeMost[p] = trueHour(first[p], true);
        sentLeast[p] = trueHour(last[p], false);
        sentMost[p] = trueHour(last[p], true);
      }
    }

    boolean clashes() {
      return clash;
    }

    int ahead(int clock, boolean most) {
      return most ? clocks.mostAhead(0, clock) : -clocks.mostAhead(clock, 0);
    }

    boolean isSent(int paper) {
      return !clash && paper >= 0 && paper < PAPERS && last[paper] >= 0;
    }

    int sentHour(int paper, boolean most) {
      if (!isSent(paper)) return 0;
      return most ? sentMost[paper] : sentLeast[paper];
    }

    /** The further a clock went ahead, the earlier is the true hour. */
    private int trueHour(int stamp, boolean most) {
      int clock = book.stamps.at(stamp, STAMP_CLOCK);
      int behind = most ? clocks.mostAhead(clock, 0) : -clocks.mostAhead(0, clock);
      return book.stamps.at(stamp, STAMP_HOUR) + behind;
    }

    boolean isInHand(int paper, int person) {
      return isSent(paper)
          && (book.papers.at(paper, PAPER_BY) == person || hasBit(book.papers.at(paper, PAPER_TO), person));
    }

    int handHour(int paper, int person, boolean most) {
      if (!isSent(paper)) return 0;
      if (book.papers.at(paper, PAPER_BY) == person) return most ? madeMost[paper] : madeLeast[paper];
      return most ? sentMost[paper] + book.persons.at(person, PERSON_SLOW) : sentLeast[paper];
    }

    /** The least hour from which a paper had told it, at the latest (sure) or at the earliest. */
    int toldHour(int person, int thing, boolean sure) {
      int least = NEVER;
      for (int p = 0; p < book.papers.count(); p++) {
        if (!hasBit(book.papers.at(p, PAPER_THINGS), thing) || !isInHand(p, person)) continue;
        least = Math.min(least, handHour(p, person, sure));
      }
      return least;
    }

    /** How many hours a paper was sent ahead of another one, in the choice in which these are fewest. */
    int leastBetween(int paper, int other) {
      return readBetween(paper, other) - clocks.mostAhead(clockOf(paper), clockOf(other));
    }

    int mostBetween(int paper, int other) {
      return readBetween(paper, other) + clocks.mostAhead(clockOf(other), clockOf(paper));
    }

    private int readBetween(int paper, int other) {
      if (!isSent(paper) || !isSent(other)) return 0;
      return book.stamps.at(last[other], STAMP_HOUR) - book.stamps.at(last[paper], STAMP_HOUR);
    }

    private int clockOf(int paper) {
      return within(paper, 0, PAPERS - 1) ? book.stamps.at(last[paper], STAMP_CLOCK) : 0;
    }
  }

  /** Seeks the fewest papers without which the stamps don't clash. */
  private static final class Doubt {
    private final Book book;
    /** One more for each paper that is held to be right on the present path. */
    private final Clocks[] held = new Clocks[PAPERS + 1];
    /** A paper with one stamp binds no clock, so leaving it out never helps. */
    private int bound;
    private int least, bits;

    Doubt(Book book) {
      this.book = book;
      for (int i = 0; i < held.length; i++) held[i] = new Clocks();
      bound = 0;
      least = 0;
      bits = 0;
    }

    int fewest(int papers) {
      bound = 0;
      for (int p = 0; p < book.papers.count(); p++) {
        if (hasBit(papers, p) && book.countStamps(p) > 1) bound |= 1 << p;
      }
      least = PAPERS + 1;
      bits = 0;
      held[0].free();
      search(PAPERS - 1, 0, 0, 0);
      return bits;
    }

    /** Goes from the highest paper down and holds it first, so sets come by their bits, the least first. */
    private void search(int paper, int without, int count, int level) {
      if (count >= least) return;
      int p = paper;
      while (p >= 0 && !hasBit(bound, p)) p--;
      if (p < 0) {
        least = count;
        bits = without;
      } else {
        holdOrLeave(p, without, count, level);
      }
    }

    private void holdOrLeave(int paper, int without, int count, int level) {
      if (level < 0 || level + 1 >= held.length) return;
      held[level + 1].copy(held[level]);
      if (isRight(paper, held[level + 1])) search(paper - 1, without, count, level + 1);
      search(paper - 1, without | 1 << paper, count + 1, level);
    }

    private boolean isRight(int paper, Clocks clocks) {
      int last = -1;
      for (int s = 0; s < book.stamps.count(); s++) {
        if (book.stamps.at(s, STAMP_PAPER) != paper) continue;
        if (last >= 0 && !clocks.follow(book.stamps, last, s, book.gap)) return false;
        last = s;
      }
      return true;
    }
  }

  /** The rules of the view, for one person. */
  private static final class Rules {
    private final Book book;
    private final Sight sight;
    private final int[] facts = new int[5];
    private final int[] should = new int[THINGS];
    private int first, count;
    /** The lines whose cond holds of the person, as bits. */
    private int holding;

    Rules(Book book, Sight sight) {
      this.book = book;
      this.sight = sight;
      first = 0;
      count = 0;
      holding = 0;
    }

    /** Looks which lines hold of a person. */
    void consider(int person, int papers) {
      int version = book.ruling();
      first = book.versions.at(version, VERSION_FIRST);
      count = book.versions.at(version, VERSION_LINES);
      facts[0] = person;
      facts[1] = book.persons.at(person, PERSON_POST);
      facts[2] = book.countTo(person, papers);
      facts[3] = book.countBy(person, papers);
      facts[4] = book.persons.at(person, PERSON_SLOW);
      holding = 0;
      for (int i = 0; i < count; i++) {
        if (holds(first + i)) holding |= 1 << i;
      }
    }

    /** The cond stands as steps on a pile of truths (one bit each), lowest the latest; without steps it holds. */
    private boolean holds(int line) {
      int from = book.lines.at(line, LINE_FIRST), n = book.lines.at(line, LINE_STEPS);
      int pile = 1;
      for (int k = 0; k < n; k++) {
        int step = book.steps.at(from + k, 0);
        if (step >= 0) {
          pile = pile << 1 | (isSo(step) ? 1 : 0);
        } else if (step == STEP_NOT) {
          pile ^= 1;
        } else {
          int top = pile & 1;
          pile >>= 1;
          pile = step == STEP_AND ? pile & (~1 | top) : pile | top;
        }
      }
      return (pile & 1) == 1;
    }

    private boolean isSo(int step) {
      int fact = step / MORE / SIGNS, sign = step / MORE % SIGNS, n = step % MORE;
      if (fact < 0 || fact >= facts.length) return false;
      if (sign == SIGN_LESS) return facts[fact] < n;
      return sign == SIGN_SAME ? facts[fact] == n : facts[fact] > n;
    }

    /** Finds from which hours a person should know things; the sight must be on these papers. */
    void settle(int person, int papers) {
      consider(person, papers);
      for (int t = 0; t < THINGS; t++) should[t] = sight.toldHour(person, t, true);
      boolean goesOn = true;
      // The earliest hour of a thing comes over each other thing once at most.
      for (int pass = 0; goesOn && pass <= THINGS; pass++) goesOn = tellEarlier();
    }

    private boolean tellEarlier() {
      boolean some = false;
      for (int i = 0; i < count; i++) {
        int thing = thingOf(i);
        if (!isThing(thing) || hourBy(i) >= should[thing]) continue;
        should[thing] = hourBy(i);
        some = true;
      }
      return some;
    }

    /** The thing that a person should know by a line; -1 by none. */
    private int thingOf(int i) {
      if (!hasBit(holding, i)) return -1;
      int sort = book.lines.at(first + i, LINE_SORT);
      if (sort == SORT_TAKEN) return book.lines.at(first + i, LINE_N2);
      return sort == SORT_ASK ? book.lines.at(first + i, LINE_N1) : -1;
    }

    private int hourBy(int i) {
      int line = first + i;
      if (book.lines.at(line, LINE_SORT) == SORT_ASK) return book.lines.at(line, LINE_N2);
      int from = shouldHour(book.lines.at(line, LINE_N3));
      return from == NEVER ? NEVER : from + book.lines.at(line, LINE_N1);
    }

    int shouldHour(int thing) {
      return thing >= 0 && thing < THINGS ? should[thing] : NEVER;
    }

    int firstLineFor(int thing) {
      for (int i = 0; i < count; i++) {
        if (thingOf(i) == thing && hourBy(i) == shouldHour(thing)) return i;
      }
      return NONE;
    }

    int warnDays() {
      for (int i = 0; i < count; i++) {
        int line = first + i;
        if (book.lines.at(line, LINE_SORT) == SORT_WARN && hasBit(holding, i)) return book.lines.at(line, LINE_N1);
      }
      return 0;
    }

    int leastHeard() {
      int n = 0;
      for (int i = 0; i < count; i++) {
        if (book.lines.at(first + i, LINE_SORT) == SORT_HEARD) n = book.lines.at(first + i, LINE_N1);
      }
      return n;
    }
  }

  /** What sayings that count make of the hours of a person and a paper. */
  private static final class Talk {
    private final Book book;
    private final Sight sight;
    private int from, to;
    private int least, believed;

    Talk(Book book, Sight sight) {
      this.book = book;
      this.sight = sight;
      from = 0;
      to = 0;
      least = 0;
      believed = 0;
    }

    int leastWeight() {
      return least;
    }

    int believedHour() {
      return believed;
    }

    private void bound(int person, int paper) {
      boolean isInHand = sight.isInHand(paper, person);
      from = isInHand ? sight.handHour(paper, person, false) : 0;
      to = isInHand ? sight.handHour(paper, person, true) : LAST_HOUR + 1;
    }

    private boolean isOn(int saying, int person, int paper, int papers) {
      return book.sayings.at(saying, SAYING_OF) == person && book.sayings.at(saying, SAYING_PAPER) == paper
          && book.counts(saying, papers);
    }

    /** Sums change only behind the hour of a saying, so the first hour and these are enough. */
    void weigh(int person, int paper, int papers) {
      bound(person, paper);
      believed = from;
      least = weightAgainst(from, person, paper, papers);
      for (int s = 0; s < book.sayings.count(); s++) {
        int hour = book.sayings.at(s, SAYING_HOUR) + 1;
        if (!within(hour, from, to) || !isOn(s, person, paper, papers)) continue;
        int weight = weightAgainst(hour, person, paper, papers);
        if (weight > least || weight == least && hour >= believed) continue;
        least = weight;
        believed = hour;
      }
    }

    private int weightAgainst(int hour, int person, int paper, int papers) {
      int sum = 0;
      for (int s = 0; s < book.sayings.count(); s++) {
        if (!isOn(s, person, paper, papers)) continue;
        boolean yes = book.sayings.at(s, SAYING_YES) == 1;
        boolean isBelow = book.sayings.at(s, SAYING_HOUR) < hour;
        if (yes == isBelow) sum += book.sayings.at(s, SAYING_WEIGHT);
      }
      return sum;
    }

    int impossibleOnes(int papers) {
      int bits = 0;
      for (int s = 0; s < book.sayings.count(); s++) {
        if (!book.counts(s, papers)) continue;
        bound(book.sayings.at(s, SAYING_OF), book.sayings.at(s, SAYING_PAPER));
        int hour = book.sayings.at(s, SAYING_HOUR);
        boolean isSo = book.sayings.at(s, SAYING_YES) == 1 ? hour < from : hour >= to;
        if (isSo) bits |= 1 << s;
      }
      return bits;
    }
  }

  /** The tape, and the reader of the text on it. */
  private static final class Tape {
    private static final int END = -1, NAME = -2, NUMBER = -3;
    private static final int MOST_OPEN = 4, MOST_DIGITS = 3;

    private final int[] bytes = new int[TAPE_ROOM];
    private int count;
    private final Table lines = new Table(LINES, 7);
    private final Table steps = new Table(STEPS, 1);
    /** What stands at `start`: END, NAME, NUMBER, or a byte of another sort; `next` is the place behind it. */
    private int kind, start, next;
    private int fault;

    Tape() {
      count = 0;
      kind = END;
      start = 0;
      next = 0;
      fault = -1;
    }

    int count() {
      return count;
    }

    void append(int b) {
      if (count >= bytes.length) return;
      bytes[count] = b;
      count++;
    }

    void clear() {
      count = 0;
    }

    /** Reads the text into the rows here: its fault, or -1. */
    int scan() {
      lines.cut(0);
      steps.cut(0);
      fault = -1;
      next = 0;
      advance();
      for (int n = 0; n <= LINES && kind != END; n++) {
        if (!takesLine()) return fault;
      }
      return fault;
    }

    /** Writes what was read as the book's next version. */
    int store(Book book) {
      int version = book.versions.append();
      book.versions.set(version, VERSION_DAY, book.today);
      book.versions.set(version, VERSION_FIRST, book.lines.count());
      book.versions.set(version, VERSION_LINES, lines.count());
      int firstStep = book.steps.count();
      for (int i = 0; i < lines.count(); i++) {
        int line = book.lines.append();
        for (int c = LINE_SORT; c <= LINE_STEPS; c++) book.lines.set(line, c, lines.at(i, c));
        book.lines.set(line, LINE_FIRST, lines.at(i, LINE_FIRST) + firstStep);
      }
      for (int k = 0; k < steps.count(); k++) book.steps.set(book.steps.append(), 0, steps.at(k, 0));
      return version;
    }

    private int byteAt(int i) {
      return i >= 0 && i < count && i < bytes.length ? bytes[i] : END;
    }

    private void advance() {
      start = next;
      while (start < count && byteAt(start) == ' ') start++;
      next = start;
      if (isLetter(byteAt(start))) {
        kind = NAME;
        while (next < count && isLetter(byteAt(next))) next++;
      } else if (isDigit(byteAt(start))) {
        kind = NUMBER;
        while (next < count && isDigit(byteAt(next))) next++;
      } else {
        kind = byteAt(start);
        if (kind != END) next++;
      }
    }

    private static boolean isLetter(int b) {
      return within(b, 'a', 'z');
    }

    private static boolean isDigit(int b) {
      return within(b, '0', '9');
    }

    private boolean refuse() {
      fault = start;
      return false;
    }

    private boolean isName(String name) {
      if (kind != NAME || next - start != name.length()) return false;
      for (int i = 0; i < name.length(); i++) {
        if (byteAt(start + i) != name.charAt(i)) return false;
      }
      return true;
    }

    private boolean takesName(String name) {
      if (!isName(name)) return refuse();
      advance();
      return true;
    }

    private boolean takesByte(int b) {
      if (kind != b) return refuse();
      advance();
      return true;
    }

    /** -1: no number is there. */
    private int numberHere() {
      if (kind != NUMBER || next - start > MOST_DIGITS) return -1;
      int n = 0;
      for (int i = start; i < next; i++) n = n * 10 + byteAt(i) - '0';
      return n;
    }

    private boolean takesNumber(int line, int column, int most) {
      int n = numberHere();
      if (!within(n, 0, most)) return refuse();
      lines.set(line, column, n);
      advance();
      return true;
    }

    private boolean takesLine() {
      int line = lines.append();
      if (line < 0) return refuse();
      for (int c = LINE_N1; c <= LINE_N3; c++) lines.set(line, c, NO_ROW);
      lines.set(line, LINE_COND, 0);
      lines.set(line, LINE_FIRST, steps.count());
      lines.set(line, LINE_STEPS, 0);
      int sort = sortHere();
      if (sort < 0) return refuse();
      lines.set(line, LINE_SORT, sort);
      advance();
      if (!takesHead(line, sort)) return false;
      if (sort != SORT_HEARD && isName("if")) {
        advance();
        lines.set(line, LINE_COND, 1);
        if (!takesCond(0)) return false;
        lines.set(line, LINE_STEPS, steps.count() - lines.at(line, LINE_FIRST));
      }
      return takesByte(';');
    }

    private int sortHere() {
      if (isName("taken")) return SORT_TAKEN;
      if (isName("warn")) return SORT_WARN;
      if (isName("ask")) return SORT_ASK;
      return isName("heard") ? SORT_HEARD : -1;
    }

    private boolean takesHead(int line, int sort) {
      switch (sort) {
        case SORT_TAKEN:
          return takesNumber(line, LINE_N1, 99) && takesName("of") && takesNumber(line, LINE_N2, THINGS - 1)
              && takesName("from") && takesNumber(line, LINE_N3, THINGS - 1);
        case SORT_WARN:
          return takesNumber(line, LINE_N1, 99);
        case SORT_ASK:
          return takesNumber(line, LINE_N1, THINGS - 1) && takesName("by") && takesNumber(line, LINE_N2, 999);
        default:
          return takesNumber(line, LINE_N1, 9);
      }
    }

    private void addStep(int step) {
      steps.set(steps.append(), 0, step);
    }

    private boolean takesCond(int open) {
      if (!takesAll(open)) return false;
      for (int n = 0; n < TAPE_ROOM && isName("or"); n++) {
        advance();
        if (!takesAll(open)) return false;
        addStep(STEP_OR);
      }
      return true;
    }

    private boolean takesAll(int open) {
      if (!takesOne(open)) return false;
      for (int n = 0; n < TAPE_ROOM && isName("and"); n++) {
        advance();
        if (!takesOne(open)) return false;
        addStep(STEP_AND);
      }
      return true;
    }

    private boolean takesOne(int open) {
      boolean turned = false;
      for (int n = 0; n < TAPE_ROOM && isName("not"); n++) {
        advance();
        turned = !turned;
      }
      if (kind != '(') {
        if (!takesComparison()) return false;
      } else {
        if (open >= MOST_OPEN) return refuse();
        advance();
        if (!takesCond(open + 1) || !takesByte(')')) return false;
      }
      if (turned) addStep(STEP_NOT);
      return true;
    }

    private boolean takesComparison() {
      int fact = factHere();
      if (fact < 0) return refuse();
      advance();
      int sign = signHere();
      if (sign < 0) return refuse();
      advance();
      int n = numberHere();
      if (n < 0) return refuse();
      advance();
      addStep((fact * SIGNS + sign) * MORE + n);
      return true;
    }

    private int factHere() {
      if (isName("person")) return 0;
      if (isName("post")) return 1;
      if (isName("had")) return 2;
      if (isName("made")) return 3;
      return isName("slow") ? 4 : -1;
    }

    private int signHere() {
      if (kind == '<') return SIGN_LESS;
      if (kind == '=') return SIGN_SAME;
      return kind == '>' ? SIGN_MORE : -1;
    }
  }

  /** The best round, its rows, and the reader of the rows. */
  private static final class Round {
    private static final int ROW_QUESTION = 0, ROW_DAY = 1;

    private final Book book;
    private final Table rows = new Table(QUESTIONS, 2);
    /** The least cost that is still to come, once the questions of these bits are over. */
    private final int[] toCome = new int[1 << QUESTIONS];
    private int asked, start;
    private boolean told;

    Round(Book book) {
      this.book = book;
      asked = 0;
      start = 0;
      told = false;
    }

    boolean isTold() {
      return told;
    }

    private int lengthOf(int question) {
      return book.questions.at(question, QUESTION_DAYS);
    }

    /** What comes yet depends on which questions are over, not on their order. */
    int order(int questions) {
      asked = questions & toCome.length - 1;
      start = book.today;
      told = true;
      for (int over = asked; over >= 0; over--) {
        if ((over & ~asked) == 0) toCome[over] = over == asked ? 0 : costBehind(over, nextBehind(over));
      }
      tellRows();
      return toCome[0];
    }

    private int costBehind(int over, int question) {
      int length = lengthOf(question), closed = 0, behind = over | 1 << question;
      for (int q = 0; q < QUESTIONS; q++) {
        if (!hasBit(over, q)) continue;
        length += lengthOf(q);
        closed |= book.questions.at(q, QUESTION_THINGS);
      }
      int closes = Integer.bitCount(book.questions.at(question, QUESTION_THINGS) & ~closed);
      return length * closes + (within(behind, 0, toCome.length - 1) ? toCome[behind] : 0);
    }

    /** The first question with which the least cost comes. */
    private int nextBehind(int over) {
      int next = 0, least = NEVER;
      for (int q = 0; q < QUESTIONS; q++) {
        if (!hasBit(asked & ~over, q)) continue;
        int cost = costBehind(over, q);
        if (cost >= least) continue;
        least = cost;
        next = q;
      }
      return next;
    }

    private void tellRows() {
      rows.cut(0);
      int over = 0, day = start;
      for (int n = 0; n < QUESTIONS && over != asked; n++) {
        int question = nextBehind(over);
        over |= 1 << question;
        day += lengthOf(question);
        int row = rows.append();
        rows.set(row, ROW_QUESTION, question);
        rows.set(row, ROW_DAY, day);
      }
    }

    /** The first wrong row, or how many there are, if these are too few; -1: all are right. */
    int firstWrong() {
      int left = 0, day = start;
      for (int q = 0; q < book.questions.count(); q++) {
        if (hasBit(asked, q)) left |= 1 << q;
      }
      for (int i = 0; i < rows.count(); i++) {
        int question = rows.at(i, ROW_QUESTION);
        if (!hasBit(left, question)) return i;
        left &= ~(1 << question);
        day += lengthOf(question);
        if (rows.at(i, ROW_DAY) != day) return i;
      }
      return left == 0 ? -1 : rows.count();
    }
  }

  /** The sheets and the shelves. */
  private static final class Host {
    private static final int SHEETS = 4, SHELVES = 4, ITEMS = 40;
    private static final int MISSING = -1, BYTES = 0, SHORTS = 1, BOOLEANS = 4;

    private final int[] sorts = new int[SHEETS], sizes = new int[SHEETS];
    private final int[] items = new int[SHEETS * ITEMS];
    /** What a shelf holds; its number (of a row: its size), and a row's sort. */
    private final int[] what = new int[SHELVES], number = new int[SHELVES], sort = new int[SHELVES];

    Host() {
      for (int i = 0; i < SHEETS; i++) sorts[i] = MISSING;
      for (int i = 0; i < SHELVES; i++) what[i] = ON_NOTHING;
    }

    int sort(int sheet) {
      return isSheet(sheet) ? sorts[sheet] : MISSING;
    }

    int size(int sheet) {
      return isSheet(sheet) ? sizes[sheet] : 0;
    }

    void clear(int sheet) {
      if (!isSheet(sheet)) return;
      sorts[sheet] = MISSING;
      sizes[sheet] = 0;
    }

    void lay(int sheet, int sort, int n) {
      if (!isSheet(sheet) || !within(n, 0, ITEMS)) return;
      sorts[sheet] = sort;
      sizes[sheet] = n;
      for (int i = 0; i < ITEMS; i++) items[sheet * ITEMS + i] = 0;
    }

    /** Why a sheet can't be taken for a row of a sort; 0: it can. */
    int refusal(int sheet, int as) {
      int is = sort(sheet);
      if (is == MISSING) return NOTHING;
      return is == as ? 0 : OTHER_KIND;
    }

    int at(int sheet, int i) {
      return isSheet(sheet) && within(i, 0, ITEMS - 1) ? items[sheet * ITEMS + i] : 0;
    }

    /** A long is only asked for its lowest 32 bits, so an int holds it. */
    void write(int sheet, int i, int v) {
      if (!isSheet(sheet) || !within(i, 0, ITEMS - 1)) return;
      int narrowed = v;
      if (sorts[sheet] == BYTES) narrowed = (byte) v;
      if (sorts[sheet] == SHORTS) narrowed = (short) v;
      if (sorts[sheet] == BOOLEANS) narrowed = v != 0 ? 1 : 0;
      items[sheet * ITEMS + i] = narrowed;
    }

    void hold(int shelf, int what, int n) {
      if (!isShelf(shelf)) return;
      this.what[shelf] = what;
      number[shelf] = n;
    }

    /** The shelf holds the row itself: what the sheet becomes later is another row. */
    void holdRow(int shelf, int sheet) {
      if (!isShelf(shelf)) return;
      what[shelf] = sort(sheet) == MISSING ? ON_NOTHING : ON_ROW;
      number[shelf] = size(sheet);
      sort[shelf] = sort(sheet);
    }

    /** What a shelf holds, as long as there is such a thing in the book. */
    int held(int shelf, Book book) {
      if (!isShelf(shelf)) return ON_NOTHING;
      boolean isThere = true;
      if (what[shelf] == ON_PAPER) isThere = book.papers.has(number[shelf]);
      if (what[shelf] == ON_SAYING) isThere = book.sayings.has(number[shelf]);
      if (what[shelf] == ON_FINDING) isThere = book.findings.has(number[shelf]);
      return isThere ? what[shelf] : ON_NOTHING;
    }

    int heldNumber(int shelf) {
      return isShelf(shelf) ? number[shelf] : 0;
    }

    int heldSort(int shelf) {
      return isShelf(shelf) ? sort[shelf] : MISSING;
    }
  }

  /** The deals with one thing, by the bodies of its kind. */
  private static final class Dealer {
    private static final int KINDS = 7, DEALS = 4;
    private static final int PAPER = 0, LETTER = 1, DRAFT = 2, SHUT = 3, NOTE = 4, SAID = 5, FINDING = 6;
    private static final int BOUNDS = 0, REACHES = 1, WEIGHS = 2, ENDS = 3;
    private static final int[] ABOVE = {-1, PAPER, PAPER, LETTER, PAPER, NOTE, PAPER};
    /** [kind * DEALS + deal]: the kind's own body, 0 without. */
    private static final int[] BODIES = {
      10, 11, 12, 13,
      0, 20, 0, 0,
      0, 0, 30, 0,
      0, 40, 0, 41,
      50, 0, 51, 0,
      61, 0, 60, 0,
      0, 0, 0, 70,
    };
    private static final int TRACE_ROOM = 30;
    /** No deal goes as deep. */
    private static final int DEEPEST = 20;

    private final Book book;
    private final int[] trace = new int[TRACE_ROOM];
    private int ran;
    private int kind, n, p, a;
    private boolean parted;

    Dealer(Book book) {
      this.book = book;
      ran = 0;
      kind = PAPER;
      n = 0;
      p = 0;
      a = 0;
      parted = false;
    }

    int ran() {
      return ran;
    }

    int traced(int i) {
      return i >= 0 && i < ran && i < TRACE_ROOM ? trace[i] : NONE;
    }

    void clearTrace() {
      ran = 0;
    }

    /** The thing that all deals are with from here on. */
    void grasp(int what, int number) {
      n = number;
      if (what == ON_PAPER) {
        kind = kindOfPaper(number);
        p = book.papers.at(number, PAPER_BY);
        a = book.papers.at(number, PAPER_THINGS);
      } else if (what == ON_SAYING) {
        kind = book.sayings.at(number, SAYING_TALK) < 0 ? SAID : NOTE;
        p = book.sayings.at(number, SAYING_BY);
        a = book.sayings.at(number, SAYING_WEIGHT);
      } else {
        kind = FINDING;
        p = book.findings.at(number, FINDING_PERSON);
        a = book.findings.at(number, FINDING_HOUR);
      }
    }

    private int kindOfPaper(int paper) {
      int others = book.papers.at(paper, PAPER_TO) & ~(1 << book.papers.at(paper, PAPER_BY));
      if (others == 0) return DRAFT;
      return book.papers.at(paper, PAPER_LEVEL) > 0 ? SHUT : LETTER;
    }

    boolean isUnder(int as) {
      int k = kind;
      for (int n = 0; n < KINDS && k != as && within(k, 0, KINDS - 1); n++) k = ABOVE[k];
      return k == as && within(k, 0, KINDS - 1);
    }

    int answer(int deal, int x) {
      parted = false;
      int y = dealAs(kind, deal, x, 0);
      return parted ? PARTED_BY_0 : y;
    }

    private int dealAs(int as, int deal, int x, int depth) {
      if (deal < 0 || deal >= DEALS) return 0;
      int k = as;
      for (int up = 0; up < KINDS && within(k, 0, KINDS - 1); up++) {
        int body = BODIES[k * DEALS + deal];
        if (body != 0) return run(body, k, x, depth + 1);
        k = ABOVE[k];
      }
      return 0;
    }

    private int upper(int of, int deal, int x, int depth) {
      return within(of, 0, KINDS - 1) ? dealAs(ABOVE[of], deal, x, depth) : 0;
    }

    private int run(int body, int of, int x, int depth) {
      if (depth > DEEPEST) return 0;
      if (ran < TRACE_ROOM) {
        trace[ran] = body;
        ran++;
      }
      switch (body) {
        case 10: return x + a;
        case 11: return dealAs(kind, BOUNDS, x, depth) * 2;
        case 12: return dealAs(kind, REACHES, x, depth) - p;
        case 13: return quotient(x);
        case 20: return upper(of, REACHES, x, depth) ^ n;
        case 30: return upper(of, WEIGHS, x, depth) * 3;
        case 40: return 0 - upper(of, REACHES, x, depth);
        case 41: return upper(of, ENDS, x + 2, depth);
        case 50: return upper(of, BOUNDS, x, depth) - n;
        case 51:
          int weight = upper(of, WEIGHS, x, depth);
          return weight + dealAs(kind, REACHES, 1, depth);
        case 60: return upper(of, WEIGHS, x, depth) * 2;
        case 61: return upper(of, BOUNDS, x + p, depth);
        case 70:
          int end = upper(of, ENDS, x, depth);
          return parted ? 0 : end - dealAs(kind, BOUNDS, n, depth);
        default: return 0;
      }
    }

    private int quotient(int x) {
      int by = p - n;
      if (by == 0) {
        parted = true;
        return 0;
      }
      return x / by;
    }
  }
}
