import java.util.List;
import java.util.function.Function;
import java.util.function.Supplier;

/**
 * Each sentence of the document that names a boundary: too small, too large, empty, full, a wrap-around, a refused call.
 * sentence(..) tells its words; what stands behind it, till the next one, would fail if they were broken.
 */
public final class BoundaryTest {
  private static final int BAD = -1, FULL = -2, NONE = -3, STATE = -4, NO_ROW = -9;
  private static final int NOTHING = -11, OUTSIDE = -12, OTHER_KIND = -13, BELOW_0 = -14, PARTED = -15;
  private static final int LOW = Integer.MIN_VALUE, HIGH = Integer.MAX_VALUE;
  private static int wrong = 0, answers = 0, sentences = 0;
  private static String where = "", words = "";

  private interface Call extends Function<InquiryBench, Integer> {}
  private interface Sized { int answer(InquiryBench x, int v); }

  private static void part(String of) { where = of; }

  private static void sentence(String of) {
    words = of;
    sentences++;
  }

  private static void promise(int n, String of) {
    part("Promise " + n);
    sentence(of);
  }

  private static void due(String call, int got, int want) {
    answers++;
    if (got == want) return;
    wrong++;
    System.out.println(where + ", '" + words + "': " + call + " answered " + got + ", due is " + want);
  }

  /** A call that is refused, and leaves all as it was: as on a bench on which it was not called. */
  private static void refused(String call, Supplier<InquiryBench> bench, Call f, int want) {
    InquiryBench x = bench.get();
    due(call, f.apply(x), want);
    List<String> is = State.of(x), was = State.of(bench.get());
    for (int i = 0; i < was.size(); i++) {
      answers++;
      if (was.get(i).equals(is.get(i))) continue;
      wrong++;
      System.out.println(where + ", '" + words + "': " + call + " changed " + was.get(i) + " to " + is.get(i));
    }
  }

  /** A number from least to most: both are taken, and the next below and above, and the farthest, are refused. */
  private static void edges(String call, Supplier<InquiryBench> bench, int least, int most, int refusal, Sized f) {
    for (int v : new int[] {least, most}) {
      int got = f.answer(bench.get(), v);
      due(call + " with " + v + " is taken", got == refusal ? got : 0, 0);
    }
    for (int v : new int[] {least - 1, most + 1, LOW, HIGH}) refused(call + " with " + v, bench, x -> f.answer(x, v), refusal);
  }

  // ---- benches

  private static void feed(InquiryBench x, String text) {
    for (int i = 0; i < text.length(); i += 8) {
      int n = Math.min(8, text.length() - i);
      long eight = 0;
      for (int j = 0; j < n; j++) eight |= (long) text.charAt(i + j) << (8 * j);
      x.feed(eight, n);
    }
  }

  private static int read(InquiryBench x, String text) {
    feed(x, text);
    return x.read();
  }

  private static void put(InquiryBench x, int sheet, int sort, int size, int... items) {
    x.sheet(sheet, sort, size);
    for (int i = 0; i < items.length; i++) x.put(sheet, i, items[i]);
  }

  private static InquiryBench persons(int n) {
    InquiryBench x = new InquiryBench();
    for (int i = 0; i < n; i++) x.person(i, 0);
    return x;
  }

  /** Two persons, the second one 10 slow, and a paper by the first to the second that tells thing 0. */
  private static InquiryBench one(int... stamps) {
    InquiryBench x = new InquiryBench();
    x.person(0, 0);
    x.person(1, 10);
    paper(x, stamps);
    return x;
  }

  private static int paper(InquiryBench x, int... stamps) {
    int paper = x.paper(0, 2, 1, 0);
    for (int i = 0; i < stamps.length; i += 2) x.stamp(paper, stamps[i], stamps[i + 1]);
    return paper;
  }

  /** Some of each, an hour for all that has one, other things kept than are there. */
  private static InquiryBench some() {
    InquiryBench x = someButTape();
    feed(x, "warn 7;");
    return x;
  }

  private static InquiryBench someButTape() {
    InquiryBench x = new InquiryBench();
    x.person(1, 10);
    x.person(2, 0);
    x.person(3, 48);
    x.paper(0, 6, 3, 0);
    x.stamp(0, 0, 100);
    x.stamp(0, 1, 130);
    x.paper(1, 5, 5, 1);
    x.stamp(1, 1, 140);
    x.stamp(1, 2, 100);
    x.gap(30);
    x.finding(1, 0, 300, 0);
    x.keep();
    x.days(2);
    x.paper(2, 1, 8, 0);
    x.paper(0, 4, 1, 0);
    x.lose(3);
    read(x, "taken 5 of 2 from 0 if post=2;warn 1;ask 3 by 50;");
    x.saying(0, 1, 0, 1235, true, -1);
    x.saying(2, 1, 0, 1303, false, -1);
    x.saying(2, 1, 0, 1303, false, 1);
    x.finding(1, 2, 129, 2);
    x.finding(2, 1, 5, 1);
    x.warn(1, 0);
    x.question(3, 1);
    x.question(2, 6);
    x.question(1, 1);
    x.round(3);
    x.alterRow(1, 1, 9);
    put(x, 0, 0, 3, 7, -7, 77);
    put(x, 1, 1, 5, 1, 129, 2, 100, 6);
    x.sheet(3, 4, 0);
    x.shelf(0, 0, 1);
    x.shelf(1, 1, 0);
    x.shelf(2, 3, 1);
    x.deal(1, 2, 5);
    return x;
  }

  /** As many of each as there may be. */
  private static InquiryBench full() {
    InquiryBench x = fullButTape();
    for (int i = 0; i < 30; i++) x.feed(0x2020202020202020L, 8);
    return x;
  }

  private static InquiryBench fullButTape() {
    InquiryBench x = new InquiryBench();
    for (int i = 0; i < 10; i++) x.person(9 - i, i);
    for (int i = 0; i < 12; i++) x.paper(i % 10, 1023, 1 << i % 8, 0);
    for (int i = 0; i < 24; i++) x.stamp(i % 12, i % 6, 500);
    for (int i = 0; i < 8; i++) read(x, "warn " + i + ";");
    for (int i = 0; i < 16; i++) x.saying(i % 10, 0, i % 12, 5001 + 10 * i, i % 2 == 0, -1);
    for (int i = 0; i < 12; i++) x.finding(i % 10, i % 8, 500 + i, i % 3);
    for (int i = 0; i < 16; i++) x.warn(i % 10, i % 12);
    for (int i = 0; i < 7; i++) x.question(7 - i, 1 << i);
    x.round(127);
    put(x, 0, 1, 40, 0, 500);
    return x;
  }

  private static InquiryBench lastDay() {
    InquiryBench x = new InquiryBench();
    for (int i = 0; i < 5; i++) x.days(99);
    x.days(4);
    return x;
  }

  /** Papers whose stamps can't all be. */
  private static InquiryBench clashing() {
    InquiryBench x = one(0, 100, 0, 99);
    paper(x, 0, 500);
    return x;
  }

  // ---- ahead of section 1

  /** Of several refusals that which the call's own line names first, and none of them changes anything. */
  private static void refusals() {
    promise(2, "BAD; STATE: it would be above 499.");
    refused("days", BoundaryTest::lastDay, x -> x.days(100), BAD);
    refused("days", BoundaryTest::lastDay, x -> x.days(0), BAD);
    refused("days", BoundaryTest::lastDay, x -> x.days(1), STATE);
    promise(4, "A PERSON: their number. BAD; FULL.");
    badAheadOfFull("person", x -> x.person(10, 0), x -> x.person(0, 49));
    refused("person", BoundaryTest::full, x -> x.person(0, 0), FULL);
    promise(6, "BAD: there is no such PERSON, to has a bit of none, a number isn't as told; FULL.");
    badAheadOfFull("paper", x -> x.paper(10, 0, 0, 0), x -> x.paper(0, 1024, 0, 0), x -> x.paper(0, 0, 256, 0), x -> x.paper(0, 0, 0, 4));
    refused("paper", BoundaryTest::full, x -> x.paper(0, 0, 0, 0), FULL);
    promise(9, "A STAMP on a PAPER, behind those that it has: its number. BAD; FULL.");
    badAheadOfFull("stamp", x -> x.stamp(12, 0, 0), x -> x.stamp(0, 6, 0), x -> x.stamp(0, 0, 1000));
    refused("stamp", BoundaryTest::full, x -> x.stamp(0, 0, 500), FULL);
    promise(18, "how many it has. BAD; FULL: more than 240.");
    badAheadOfFull("feed", x -> x.feed(0L, 9), x -> x.feed(0L, 0));
    refused("feed", BoundaryTest::full, x -> x.feed(0L, 1), FULL);
    promise(22, "how: 10 times the HOUR, and WEIGHT; talk: another SAYING, or -1. BAD; FULL.");
    badAheadOfFull("saying", x -> x.saying(10, 0, 0, 11, true, -1), x -> x.saying(0, 10, 0, 11, true, -1), x -> x.saying(0, 0, 12, 11, true, -1),
        x -> x.saying(0, 0, 0, 10, true, -1), x -> x.saying(0, 0, 0, 11, true, 16));
    refused("saying", BoundaryTest::full, x -> x.saying(0, 0, 0, 11, true, -1), FULL);
    promise(25, "A FINDING: its number. BAD; FULL.");
    badAheadOfFull("finding", x -> x.finding(10, 0, 0, 0), x -> x.finding(0, 8, 0, 0), x -> x.finding(0, 0, 1000, 0), x -> x.finding(0, 0, 0, 3));
    refused("finding", BoundaryTest::full, x -> x.finding(0, 0, 0, 0), FULL);
    promise(27, "A WARNING: its number. BAD; FULL.");
    badAheadOfFull("warn", x -> x.warn(10, 0), x -> x.warn(0, 12));
    refused("warn", BoundaryTest::full, x -> x.warn(0, 0), FULL);
    promise(28, "A QUESTION: its number. BAD; FULL.");
    badAheadOfFull("question", x -> x.question(10, 0), x -> x.question(1, 256));
    refused("question", BoundaryTest::full, x -> x.question(1, 0), FULL);
    promise(13, "BAD; STATE: they CLASH.");
    refused("span", BoundaryTest::clashing, x -> x.span(6, true), BAD);
    refused("span", BoundaryTest::clashing, x -> x.span(0, true), STATE);
    promise(14, "BAD; NONE: it has none, or isn't in THE VIEW.");
    refused("sent", BoundaryTest::clashing, x -> x.sent(2, true), BAD);
    refused("sent", BoundaryTest::clashing, x -> x.sent(0, true), NONE);
    promise(15, "BAD; NONE: it isn't TO them nor by them, has no SENT, or isn't in THE VIEW.");
    refused("hand", BoundaryTest::clashing, x -> x.hand(0, 2, true), BAD);
    refused("hand", BoundaryTest::clashing, x -> x.hand(0, 1, true), NONE);
    promise(16, "BAD: also of one alone; NONE: one has no SENT, or isn't in THE VIEW.");
    refused("before", BoundaryTest::clashing, x -> x.before(0, 0), BAD);
    refused("before", BoundaryTest::clashing, x -> x.before(0, 1), NONE);
    promise(17, "in a WAY (0 SURE, 1 MAY, 2 SHOULD). BAD; NONE.");
    refused("knew", BoundaryTest::clashing, x -> x.knew(0, 8, 0), BAD);
    refused("knew", BoundaryTest::clashing, x -> x.knew(0, 0, 3), BAD);
    refused("knew", BoundaryTest::clashing, x -> x.knew(0, 0, 0), NONE);
    promise(21, "BAD; NONE: there is no such HOUR, or it is that of SURE.");
    refused("why", BoundaryTest::clashing, x -> x.why(0, 8), BAD);
    refused("why", BoundaryTest::clashing, x -> x.why(0, 0), NONE);
    promise(23, "BAD; NONE: the PAPER isn't in THE VIEW.");
    refused("quarrel", BoundaryTest::gone, x -> x.quarrel(2, 0, 0), BAD);
    refused("quarrel", BoundaryTest::gone, x -> x.quarrel(0, 0, 2), BAD);
    refused("quarrel", BoundaryTest::gone, x -> x.quarrel(0, 0, 1), NONE);
    ordersOfTheHost();
    part("Terms");
    sentence("such a call changes nothing (but that THE TAPE is used up)");
    readUsesUp("warn 1", -106, BoundaryTest::someButTape);
    readUsesUp("warn 1;;", -107, InquiryBench::new);
    readUsesUp("warn 1;", FULL, BoundaryTest::fullButTape);
    readUsesUp("", FULL, BoundaryTest::fullButTape);
    readUsesUp("warn 100;", -105, BoundaryTest::fullButTape);
  }

  /** A paper that is lost. */
  private static InquiryBench gone() {
    InquiryBench x = one(0, 100);
    x.lose(0);
    return x;
  }

  private static void badAheadOfFull(String call, Call... calls) {
    for (Call f : calls) refused(call, BoundaryTest::full, f, BAD);
  }

  private static void readUsesUp(String text, int want, Supplier<InquiryBench> bench) {
    refused("read() of '" + text + "'", bench, x -> read(x, text), want);
    InquiryBench x = bench.get();
    due("read() of '" + text + "'", read(x, text), want);
    due("many(13)", x.many(13), 0);
  }

  private static void ordersOfTheHost() {
    promise(10, "how many STAMPS there are in all. BAD: there is no such PAPER, SHEET, n; -13; -11; -12; STATE: one isn't as told; FULL");
    refused("of bytes, and outside: stamps", BoundaryTest::some, x -> x.stamps(0, 0, 4, 1), OTHER_KIND);
    refused("missing, and outside: stamps", BoundaryTest::some, x -> x.stamps(0, 2, 4, 1), NOTHING);
    refused("no such n, and missing: stamps", BoundaryTest::some, x -> x.stamps(0, 2, 4, 10), BAD);
    refused("no such n, and of bytes: stamps", BoundaryTest::some, x -> x.stamps(0, 0, 4, 10), BAD);
    refused("no such paper, and outside: stamps", BoundaryTest::some, x -> x.stamps(4, 1, 4, 1), BAD);
    refused("no such paper, and not as told: stamps", BoundaryTest::some, x -> x.stamps(4, 1, 1, 2), BAD);
    refused("no such paper, and full: stamps", () -> fullSheet(0, 500), x -> x.stamps(12, 0, 0, 1), BAD);
    refused("missing, and full: stamps", () -> fullSheet(0, 500), x -> x.stamps(0, 1, 0, 1), NOTHING);
    refused("of ints, and full: stamps", BoundaryTest::fullOfInts, x -> x.stamps(0, 0, 0, 1), OTHER_KIND);
    refused("outside, and not as told: stamps", BoundaryTest::some, x -> x.stamps(0, 1, 4, 1), OUTSIDE);
    refused("not as told: stamps", BoundaryTest::some, x -> x.stamps(0, 1, 1, 2), STATE);
    refused("full, and not as told: stamps", () -> fullSheet(6, 500), x -> x.stamps(0, 0, 0, 1), STATE);
    refused("full, and outside: stamps", () -> fullSheet(0, 500), x -> x.stamps(0, 0, 39, 1), OUTSIDE);
    refused("full: stamps", () -> fullSheet(0, 500), x -> x.stamps(0, 0, 0, 1), FULL);
    promise(34, "BAD: no such SHEET, sort, n above 40; -14.");
    refused("no such sort, and below 0: sheet", BoundaryTest::some, x -> x.sheet(0, 5, -1), BAD);
    refused("no such sheet, and below 0: sheet", BoundaryTest::some, x -> x.sheet(4, 0, -1), BAD);
    refused("below 0: sheet", BoundaryTest::some, x -> x.sheet(0, 0, -1), BELOW_0);
    promise(35, "BAD: no such SHEET; -11; -12.");
    refused("no such sheet, and outside: put", BoundaryTest::some, x -> x.put(4, 99, 1), BAD);
    refused("missing, and outside: put", BoundaryTest::some, x -> x.put(2, 99, 1), NOTHING);
    promise(36, "BAD: no such SHEET, sort; -13; -11; -12.");
    refused("of bytes, and outside: item", BoundaryTest::some, x -> x.item(0, 1, 99), OTHER_KIND);
    refused("missing, and outside: item", BoundaryTest::some, x -> x.item(2, 1, 99), NOTHING);
    refused("no such sort, and missing: item", BoundaryTest::some, x -> x.item(2, 5, 99), BAD);
    refused("no such sort, and outside: item", BoundaryTest::some, x -> x.item(0, 5, 99), BAD);
    promise(38, "BAD: no such SHELF, as; -13; -11.");
    refused("no such kind, and nothing: taken", BoundaryTest::some, x -> x.taken(3, 7), BAD);
    refused("no such kind, of a paper: taken", BoundaryTest::some, x -> x.taken(0, 7), BAD);
    refused("no such kind, of a row: taken", BoundaryTest::some, x -> x.taken(2, 15), BAD);
  }

  private static InquiryBench fullOfInts() {
    InquiryBench x = full();
    x.sheet(0, 2, 40);
    return x;
  }

  private static InquiryBench fullSheet(int clock, int h) {
    InquiryBench x = full();
    x.put(0, 0, clock);
    x.put(0, 1, h);
    return x;
  }

  // ---- section 1

  private static void daysAndPersons() {
    part("1");
    sentence("HOURS are 0 to 999.");
    edges("stamp(0, 0, h)", BoundaryTest::one, 0, 999, BAD, (x, h) -> x.stamp(0, 0, h));
    edges("finding(0, 0, h, 0)", BoundaryTest::one, 0, 999, BAD, (x, h) -> x.finding(0, 0, h, 0));
    edges("saying of 1 more than ten times h", BoundaryTest::one, 1, 9999, BAD, (x, how) -> x.saying(0, 0, 0, how, true, -1));
    sentence("DAYS of the bench are 0 to 499; TODAY is one (0 at first).");
    due("many(0)", new InquiryBench().many(0), 0);
    due("many(0)", lastDay().many(0), 499);
    refused("days(1)", BoundaryTest::lastDay, x -> x.days(1), STATE);
    refused("days(99)", BoundaryTest::lastDay, x -> x.days(99), STATE);
    edges("view(d, 0)", BoundaryTest::some, -1, 499, BAD, (x, d) -> x.view(d, 0));
    sentence("PERSONS, 10 at most, numbered as they come: each with a POST (0 to 9), and SLOW (0 to 48).");
    InquiryBench x = new InquiryBench();
    for (int i = 0; i < 10; i++) due("person " + i, x.person(i, 48 - i), i);
    for (int i = 0; i < 10; i++) {
      due("personOf(" + i + ", 0)", x.personOf(i, 0), i);
      due("personOf(" + i + ", 1)", x.personOf(i, 1), 48 - i);
    }
    refused("the eleventh", () -> persons(10), y -> y.person(0, 0), FULL);
    edges("person(p, 0)", BoundaryTest::some, 0, 9, BAD, (y, p) -> y.person(p, 0));
    edges("person(0, s)", BoundaryTest::some, 0, 48, BAD, (y, s) -> y.person(0, s));
    sentence("THINGS that one may know are 0 to 7.");
    edges("finding(0, t, 0, 0)", BoundaryTest::some, 0, 7, BAD, (y, t) -> y.finding(0, t, 0, 0));
    edges("knew(0, t, 0)", BoundaryTest::some, 0, 7, BAD, (y, t) -> y.knew(0, t, 0));
    edges("why(0, t)", BoundaryTest::some, 0, 7, BAD, (y, t) -> y.why(0, t));
  }

  private static void papers() {
    sentence("PAPERS, 12 at most, numbered as they come: by a PERSON, TO some PERSONS (bits), telling THINGS (bits of 8), FOUND TODAY, of a LEVEL (0 to 3)");
    InquiryBench x = persons(3);
    for (int i = 0; i < 12; i++) {
      due("paper " + i, x.paper(i % 3, i % 8, 255 - i, i % 4), i);
      x.days(1);
    }
    for (int i = 0; i < 12; i++) {
      int[] want = {i % 3, i % 8, 255 - i, i % 4, i, 0, 1};
      for (int w = 0; w < 7; w++) due("paperOf(" + i + ", " + w + ")", x.paperOf(i, w), want[w]);
    }
    refused("the thirteenth", BoundaryTest::full, y -> y.paper(0, 0, 0, 0), FULL);
    edges("paper(p, ..)", BoundaryTest::some, 0, 2, BAD, (y, p) -> y.paper(p, 0, 0, 0));
    edges("paper(0, to, ..)", BoundaryTest::some, 0, 7, BAD, (y, to) -> y.paper(0, to, 0, 0));
    edges("paper(0, 0, things, 0)", BoundaryTest::some, 0, 255, BAD, (y, t) -> y.paper(0, 0, t, 0));
    edges("paper(0, 0, 0, level)", BoundaryTest::some, 0, 3, BAD, (y, l) -> y.paper(0, 0, 0, l));
    edges("of ten persons: paper(0, to, ..)", () -> persons(10), 0, 1023, BAD, (y, to) -> y.paper(0, to, 0, 0));
    refused("of no person", InquiryBench::new, y -> y.paper(0, 0, 0, 0), BAD);
  }

  private static void theView() {
    sentence("THE VIEW is a DAY and a LEVEL (TODAY, as it goes on, and 3 at first).");
    InquiryBench x = persons(1);
    x.paper(0, 0, 0, 3);
    due("of level 3: many(3)", x.many(3), 1);
    x.days(1);
    x.paper(0, 0, 0, 3);
    due("today, as it goes on: many(3)", x.many(3), 2);
    x.view(1, 3);
    x.days(1);
    x.paper(0, 0, 0, 3);
    due("day 1 stays day 1: many(3)", x.many(3), 2);
    due("today, as it goes on: view(-1, 3)", x.view(-1, 3), 3);
    x.days(1);
    x.paper(0, 0, 0, 3);
    due("many(3)", x.many(3), 4);
    sentence("those that were FOUND on its DAY or ahead");
    InquiryBench found = persons(1);
    found.days(5);
    found.paper(0, 0, 0, 0);
    due("on the day ahead: view(4, 3)", found.view(4, 3), 0);
    due("on the day: view(5, 3)", found.view(5, 3), 1);
    due("behind: view(6, 3)", found.view(6, 3), 1);
    due("on the last day: view(499, 3)", found.view(499, 3), 1);
    sentence("with a LEVEL not above its LEVEL");
    for (int of = 0; of < 4; of++) {
      InquiryBench y = persons(1);
      y.paper(0, 0, 0, of);
      for (int l = 0; l < 4; l++) due("of level " + of + ": view(-1, " + l + ")", y.view(-1, l), of <= l ? 1 : 0);
    }
    sentence("(a PAPER is LOST from the DAY on on which that is told)");
    found.days(3);
    due("lose(0)", found.lose(0), 1);
    due("the day ahead: view(7, 3)", found.view(7, 3), 1);
    due("the day: view(8, 3)", found.view(8, 3), 0);
    due("behind: view(9, 3)", found.view(9, 3), 0);
    due("today: view(-1, 3)", found.view(-1, 3), 0);
    InquiryBench first = persons(1);
    first.paper(0, 0, 0, 0);
    due("on day 0: lose(0)", first.lose(0), 1);
    due("on day 0: lose(0)", first.lose(0), STATE);
    due("on day 0: many(3)", first.many(3), 0);
    sentence("All that follows asks these alone");
    asksTheseAlone(2, 3, "lost");
    asksTheseAlone(-1, 0, "shut");
    asksTheseAlone(0, 3, "not yet found");
    ofItsDayOrAhead();
  }

  /** Paper 1 is shut to level 0, found on day 1 and lost on day 2; without it all is as if it were not there. */
  private static void asksTheseAlone(int day, int level, String why) {
    InquiryBench x = one(0, 300);
    x.days(1);
    x.paper(0, 2, 3, 1);
    x.stamp(1, 1, 100);
    x.stamp(1, 0, 50);
    x.saying(0, 1, 1, 11, true, -1);
    x.finding(1, 1, 999, 0);
    due("clock 1 is 50 to 60 ahead: span(1, false)", x.span(1, false), 1050);
    due("findingOf(0, 4)", x.findingOf(0, 4), 1);
    x.days(1);
    if (day == 2) x.lose(1);
    due(why + ": view", x.view(day, level), 1);
    due(why + ": span(1, false)", x.span(1, false), 940);
    due(why + ": paperOf(1, 6)", x.paperOf(1, 6), 0);
    due(why + ": personOf(1, 2)", x.personOf(1, 2), 1);
    due(why + ": personOf(0, 3)", x.personOf(0, 3), 1);
    due(why + ": personOf(0, 4)", x.personOf(0, 4), 0);
    due(why + ": sent(1, true)", x.sent(1, true), NONE);
    due(why + ": hand(1, 1, true)", x.hand(1, 1, true), NONE);
    due(why + ": before(0, 1)", x.before(0, 1), NONE);
    due(why + ": before(1, 0)", x.before(1, 0), NONE);
    due(why + ": knew(1, 1, 0)", x.knew(1, 1, 0), NONE);
    due(why + ": quarrel(1, 1, 0)", x.quarrel(1, 1, 0), NONE);
    due(why + ": findingOf(0, 4)", x.findingOf(0, 4), 0);
    due(why + ": many(3)", x.many(3), 1);
    due(why + ": many(7)", x.many(7), 0);
    due(why + ": many(9)", x.many(9), 0);
    due(why + ": knew(1, 0, 0)", x.knew(1, 0, 0), 1310);
  }

  private static void ofItsDayOrAhead() {
    sentence("and SAYINGS, WARNINGS, RULES of its DAY or ahead; others are as if there were none");
    InquiryBench x = one(0, 300);
    x.finding(1, 0, 310, 0);
    x.days(7);
    read(x, "ask 5 by 5;");
    x.saying(1, 1, 0, 3001, false, -1);
    x.warn(1, 0);
    int[] days = {6, 7, 8};
    int[] rules = {NONE, 1005, 1005}, sayings = {0, 1, 1}, believed = {1300, 1301, 1301}, barred = {1, 0, 0};
    for (int i = 0; i < 3; i++) {
      x.view(days[i], 3);
      due("on day " + days[i] + ": knew(0, 5, 2)", x.knew(0, 5, 2), rules[i]);
      due("on day " + days[i] + ": many(7)", x.many(7), sayings[i]);
      due("on day " + days[i] + ": personOf(1, 4)", x.personOf(1, 4), sayings[i]);
      due("on day " + days[i] + ": quarrel(1, 0, 1)", x.quarrel(1, 0, 1), believed[i]);
      due("on day " + days[i] + ": findingOf(0, 6)", x.findingOf(0, 6), barred[i]);
    }
  }

  // ---- section 2

  private static void clocks() {
    part("2");
    sentence("CLOCKS 0 to 5 go ahead by an unknown number of HOURS, -60 to 60 (CLOCK 0 by 0), the same one always.");
    edges("stamp(0, c, 0)", BoundaryTest::one, 0, 5, BAD, (x, c) -> x.stamp(0, c, 0));
    edges("span(c, true)", BoundaryTest::one, 0, 5, BAD, (x, c) -> x.span(c, true));
    for (int c = 0; c < 6; c++) {
      due("span(" + c + ", false)", new InquiryBench().span(c, false), c == 0 ? 1000 : 940);
      due("span(" + c + ", true)", new InquiryBench().span(c, true), c == 0 ? 1000 : 1060);
    }
    due("60 below, at once: clash(0)", one(0, 100, 1, 40).clash(0), 0);
    due("61 below: clash(0)", one(0, 100, 1, 39).clash(0), 1);
    due("60 above, 24 behind: clash(0)", one(0, 100, 1, 184).clash(0), 0);
    due("61 above: clash(0)", one(0, 100, 1, 185).clash(0), 1);
    due("from one end to the other: clash(0)", one(1, 100, 2, 244).clash(0), 0);
    due("and one more: clash(0)", one(1, 100, 2, 245).clash(0), 1);
    due("back again: clash(0)", one(1, 200, 2, 80).clash(0), 0);
    due("and one more: clash(0)", one(1, 200, 2, 79).clash(0), 1);
    InquiryBench always = one(0, 100, 1, 160);
    paper(always, 0, 100, 1, 124);
    due("36 to 60, and 0 to 24: clash(0)", always.clash(0), 1);
    sentence("STAMPS, 24 at most, numbered as they come: on a PAPER, by a CLOCK, it read h (0 to 999)");
    InquiryBench x = one();
    for (int i = 0; i < 24; i++) due("stamp " + i, x.stamp(0, 0, 999), i);
    due("paperOf(0, 5)", x.paperOf(0, 5), 24);
    refused("the 25th", BoundaryTest::full, y -> y.stamp(0, 0, 500), FULL);
    edges("stamp(p, 0, 0)", BoundaryTest::some, 0, 3, BAD, (y, p) -> y.stamp(p, 0, 0));
    edges("stamp(0, 0, h)", BoundaryTest::some, 0, 999, BAD, (y, h) -> y.stamp(0, 0, h));
    sentence("the true HOUR is h less what the CLOCK goes ahead");
    due("sent(0, false)", one(1, 500).sent(0, false), 1440);
    due("sent(0, true)", one(1, 500).sent(0, true), 1560);
    due("sent(0, false)", one(0, 0).sent(0, false), 1000);
    due("sent(0, true)", one(0, 999).sent(0, true), 1999);
    sentence("each 0 to GAP HOURS behind the one ahead (GAP: 24 at first)");
    for (int gap = 0; gap < 100; gap += 33) gaps(gap);
    due("24 behind: clash(0)", one(0, 100, 0, 124).clash(0), 0);
    due("25 behind: clash(0)", one(0, 100, 0, 125).clash(0), 1);
    due("gap(24)", new InquiryBench().gap(24), 24);
    edges("gap(n)", BoundaryTest::some, 0, 99, BAD, (y, n) -> y.gap(n));
  }

  private static void gaps(int gap) {
    int[] behind = {-1, 0, gap, gap + 1};
    for (int i = 0; i < 4; i++) {
      InquiryBench x = one(0, 500, 0, 500 + behind[i]);
      x.gap(gap);
      due("gap " + gap + ", " + behind[i] + " behind: clash(0)", x.clash(0), i == 0 || i == 3 ? 1 : 0);
    }
  }

  private static void choices() {
    sentence("They CLASH, if there is none.");
    due("no papers: clash(0)", new InquiryBench().clash(0), 0);
    due("no stamps: clash(0)", one().clash(0), 0);
    due("one stamp: clash(0)", one(5, 999).clash(0), 0);
    due("clash(0)", clashing().clash(0), 1);
    edges("clash(what)", BoundaryTest::some, 0, 1, BAD, (x, w) -> x.clash(w));
    sentence("SPAN of a CLOCK: the least and the greatest number in any of these.");
    InquiryBench x = one(0, 100, 1, 110);
    due("span(1, false)", x.span(1, false), 986);
    due("span(1, true)", x.span(1, true), 1010);
    InquiryBench end = one(0, 100, 1, 40);
    due("at its end: span(1, false)", end.span(1, false), 940);
    due("span(1, true)", end.span(1, true), 940);
    InquiryBench top = one(0, 100, 1, 184);
    due("span(1, false)", top.span(1, false), 1060);
    due("span(1, true)", top.span(1, true), 1060);
    sentence("DOUBT: the set with the fewest PAPERS (that have STAMPS) without which they don't CLASH; of several the least bits.");
    due("none: clash(1)", x.clash(1), 0);
    due("the first: clash(1)", clashing().clash(1), 1);
    InquiryBench two = one(0, 100, 1, 160);
    paper(two, 0, 100, 1, 124);
    due("either: clash(1)", two.clash(1), 1);
    paper(two);
    paper(two, 0, 100, 1, 160);
    due("the fewest, though of more bits: clash(1)", two.clash(1), 2);
    InquiryBench all = one(0, 100, 0, 99);
    for (int i = 0; i < 11; i++) paper(all, 0, 100, 0, 99);
    due("all twelve: clash(1)", all.clash(1), 4095);
    InquiryBench right = one(1, 100, 2, 100);
    for (int i = 0; i < 10; i++) paper(right, 3, 100, 4, 100);
    paper(right, 2, 101, 2, 100);
    due("the twelfth alone: clash(1)", right.clash(1), 2048);
    due("and none: view(-1, 3)", right.view(-1, 3), 12);
    right.lose(11);
    due("without it: clash(1)", right.clash(1), 0);
    due("without it: clash(0)", right.clash(0), 0);
    InquiryBench halves = one(0, 100, 1, 160);
    for (int i = 0; i < 5; i++) paper(halves, 0, 100, 1, 160);
    for (int i = 0; i < 6; i++) paper(halves, 0, 100, 1, 124);
    due("six of either: clash(1)", halves.clash(1), 63);
    InquiryBench without = one();
    without.keep();
    paper(without, 0, 99, 0, 98);
    due("a paper without stamps is in no such set: clash(1)", without.clash(1), 2);
    without.again();
    paper(without, 0, 99);
    due("nor is there one: clash(1)", without.clash(1), 0);
    sentence("It has none without STAMPS, or if they CLASH.");
    refused("without stamps: sent(2, false)", BoundaryTest::some, y -> y.sent(2, false), NONE);
    refused("not in the view: sent(3, false)", BoundaryTest::some, y -> y.sent(3, false), NONE);
    refused("they clash: sent(1, false)", BoundaryTest::clashing, y -> y.sent(1, false), NONE);
    edges("sent(p, true)", BoundaryTest::some, 0, 3, BAD, (y, p) -> y.sent(p, true));
  }

  private static void inHand() {
    sentence("came to them 0 to SLOW HOURS behind SENT: from the least SENT to the greatest one and SLOW");
    InquiryBench x = persons(1);
    x.person(0, 0);
    x.person(0, 48);
    x.paper(0, 7, 1, 0);
    x.stamp(0, 1, 500);
    x.stamp(0, 1, 520);
    due("0 slow: hand(0, 1, false)", x.hand(0, 1, false), 1460);
    due("hand(0, 1, true)", x.hand(0, 1, true), 1580);
    due("48 slow: hand(0, 2, false)", x.hand(0, 2, false), 1460);
    due("hand(0, 2, true)", x.hand(0, 2, true), 1628);
    sentence("In the hand of the PERSON who made it (also if it is TO them) it was from the least to the greatest true HOUR of its first STAMP on.");
    due("hand(0, 0, false)", x.hand(0, 0, false), 1440);
    due("hand(0, 0, true)", x.hand(0, 0, true), 1560);
    due("no stamp behind the first is theirs: hand(1, 0, true)", one(0, 100, 0, 110).hand(0, 0, true), 1100);
    sentence("Others don't have it; nobody has one without SENT.");
    refused("another: hand(0, 2, true)", BoundaryTest::other, y -> y.hand(0, 2, true), NONE);
    refused("without stamps, the maker: hand(0, 0, true)", BoundaryTest::one, y -> y.hand(0, 0, true), NONE);
    refused("without stamps: hand(0, 1, true)", BoundaryTest::one, y -> y.hand(0, 1, true), NONE);
    refused("they clash: hand(1, 1, true)", BoundaryTest::clashing, y -> y.hand(1, 1, true), NONE);
    refused("not in the view: hand(3, 2, true)", BoundaryTest::some, y -> y.hand(3, 2, true), NONE);
    edges("hand(p, 0, true)", BoundaryTest::some, 0, 3, BAD, (y, p) -> y.hand(p, 0, true));
    edges("hand(0, p, true)", BoundaryTest::some, 0, 2, BAD, (y, p) -> y.hand(0, p, true));
    sentence("BEFORE: a PAPER is SENT ahead of another one in each choice (2), in some (1), in none (0).");
    int[] h = {239, 240, 241, 300, 359, 360, 361}, ahead = {0, 0, 1, 1, 1, 1, 2}, behind = {2, 1, 1, 1, 1, 0, 0};
    for (int i = 0; i < h.length; i++) {
      InquiryBench y = one(0, 300);
      paper(y, 1, h[i]);
      due("300, and " + h[i] + " on clock 1: before(0, 1)", y.before(0, 1), ahead[i]);
      due("before(1, 0)", y.before(1, 0), behind[i]);
    }
    InquiryBench same = one(1, 300);
    paper(same, 1, 300);
    due("at the same hour: before(0, 1)", same.before(0, 1), 0);
    edges("before(p, 2)", BoundaryTest::some, 0, 3, BAD, (y, p) -> y.before(p, p == 2 ? 1 : 2));
    edges("before(2, p)", BoundaryTest::some, 0, 3, BAD, (y, p) -> y.before(2, p));
    for (int p = 0; p < 4; p++) {
      int q = p;
      refused("one alone: before(" + p + ", " + p + ")", BoundaryTest::some, y -> y.before(q, q), BAD);
    }
    refused("without stamps: before(0, 2)", BoundaryTest::some, y -> y.before(0, 2), NONE);
    refused("without stamps: before(2, 0)", BoundaryTest::some, y -> y.before(2, 0), NONE);
    refused("not in the view: before(0, 3)", BoundaryTest::some, y -> y.before(0, 3), NONE);
    refused("not in the view: before(3, 0)", BoundaryTest::some, y -> y.before(3, 0), NONE);
  }

  private static InquiryBench other() {
    InquiryBench x = one(0, 100);
    x.person(0, 0);
    return x;
  }

  // ---- section 3

  private static void knowing() {
    part("3");
    sentence("SURE from the least HOUR of those from which a PAPER that tells it was in their hand at the latest; MAY from the least of those from which one was at the earliest");
    InquiryBench x = one(1, 200);
    paper(x, 0, 220);
    due("knew(1, 0, 0)", x.knew(1, 0, 0), 1230);
    due("knew(1, 0, 1)", x.knew(1, 0, 1), 1140);
    refused("no paper tells it: knew(1, 1, 0)", () -> one(0, 100), y -> y.knew(1, 1, 0), NONE);
    refused("no paper tells it: knew(1, 1, 1)", () -> one(0, 100), y -> y.knew(1, 1, 1), NONE);
    refused("no rules: knew(1, 1, 2)", () -> one(0, 100), y -> y.knew(1, 1, 2), NONE);
    refused("they clash: knew(1, 0, 0)", BoundaryTest::clashing, y -> y.knew(1, 0, 0), NONE);
    edges("knew(p, 0, 0)", BoundaryTest::some, 0, 2, BAD, (y, p) -> y.knew(p, 0, 0));
    edges("knew(0, 0, way)", BoundaryTest::some, 0, 2, BAD, (y, w) -> y.knew(0, 0, w));
  }

  private static void theTape() {
    sentence("THE TAPE takes bytes, 240 at most; read() uses it up.");
    InquiryBench x = new InquiryBench();
    for (int i = 1; i <= 30; i++) due("feed of 8", x.feed(0x2020202020202020L, 8), 8 * i);
    due("many(13)", x.many(13), 240);
    for (int n = 1; n < 9; n++) {
      int m = n;
      refused("feed of " + n, BoundaryTest::full, y -> y.feed(-1L, m), FULL);
    }
    InquiryBench room = new InquiryBench();
    for (int i = 0; i < 29; i++) room.feed(0x2020202020202020L, 8);
    due("feed of 5", room.feed(0x2020202020L, 5), 237);
    due("one too many: feed of 4", room.feed(0L, 4), FULL);
    due("many(13)", room.many(13), 237);
    due("feed of 3", room.feed(0x202020L, 3), 240);
    due("feed of 1", room.feed(0x20L, 1), FULL);
    due("240 blanks: read()", room.read(), 0);
    due("many(13)", room.many(13), 0);
    due("read() of nothing", room.read(), 1);
    edges("feed(0L, n)", InquiryBench::new, 1, 8, BAD, (y, n) -> y.feed(0L, n));
    sentence("n bytes (1 to 8) come to THE TAPE, the lowest of eight first");
    InquiryBench low = new InquiryBench();
    low.feed(0x7261777261777220L, 1);
    due("the lowest alone: many(13)", low.many(13), 1);
    due("a blank: read()", low.read(), 0);
    low.feed((long) ';' << 56 | (long) '7' << 48 | (long) ' ' << 40 | (long) 'n' << 32 | 'r' << 24 | 'a' << 16 | 'w' << 8 | ' ', 8);
    due("' warn 7;': read()", low.read(), 1);
    due("line(1, 0, 1)", low.line(1, 0, 1), 7);
    low.feed(-1L, 8);
    due("bytes of 255: read()", low.read(), -100);
    low.feed(0x80L << 8 | ' ', 2);
    due("a byte of 128: read()", low.read(), -101);
  }

  private static void reads(String text, int want) {
    InquiryBench x = new InquiryBench();
    due("read() of '" + text + "'", read(x, text), want);
    due("many(5)", x.many(5), want < 0 ? 0 : 1);
    due("many(13)", x.many(13), 0);
  }

  private static void takes(String text) { reads(text, 0); }

  /** A text that is at fault at its sign #, which stands ahead of what can't stand there. */
  private static void faulty(String text) {
    int place = text.indexOf('#');
    reads(text.substring(0, place) + text.substring(place + 1), -100 - place);
  }

  private static void texts() {
    sentence("TEXT: { LINE ; }, 9 LINES at most.");
    takes("");
    takes("heard 1;".repeat(9));
    faulty("heard 1;".repeat(9) + "#heard 1;");
    InquiryBench nine = new InquiryBench();
    read(nine, "heard 1;".repeat(8) + "heard 9;");
    due("line(0, 8, 1)", nine.line(0, 8, 1), 9);
    due("line(0, 9, 1)", nine.line(0, 9, 1), NO_ROW);
    sentence("N are NUMBERS 0 to 999 (of taken the first 0 to 99, the others THINGS, 0 to 7; of ask a THING, and 0 to 999; of warn 0 to 99; of heard 0 to 9).");
    takes("taken 0 of 0 from 0;");
    takes("taken 99 of 7 from 7;");
    faulty("taken #100 of 1 from 1;");
    faulty("taken 1 of #8 from 1;");
    faulty("taken 1 of 1 from #8;");
    takes("ask 0 by 0;");
    takes("ask 7 by 999;");
    faulty("ask #8 by 1;");
    faulty("ask 1 by #1000;");
    takes("warn 0;");
    takes("warn 99;");
    faulty("warn #100;");
    takes("heard 0;");
    takes("heard 9;");
    faulty("heard #10;");
    takes("warn 1 if slow<0;");
    takes("warn 1 if slow>999;");
    faulty("warn 1 if slow=#1000;");
    sentence("NAMES are rows of letters a to z, NUMBERS rows of digits (1 to 3), both as long as they go");
    takes("warn 007;");
    takes("warn 000;");
    faulty("warn #0007;");
    faulty("warn #00000000007;");
    faulty("#warns 1;");
    faulty("#war 1;");
    faulty("#Warn 1;");
    faulty("warn 1 #iff post=1;");
    faulty("warn 1 if #posts=1;");
    faulty("#{warn 1;");
    faulty("#`warn 1;");
    faulty("warn #/1;");
    faulty("warn #:1;");
    sentence("blanks (32) part them, and stand elsewhere as one likes");
    takes("  warn   1  if  (  post  <  1  )  ;  ");
    takes("warn 1if(post<1)and had>0;");
    faulty("#warnif post=1;");
    faulty("warn 1 #1;");
    faulty("warn 1 if #postpost=1;");
    faulty("warn#\t1;");
    faulty("warn 1;#\n");
    faulty("warn#" + (char) 31 + "1;");
    faulty("warn #" + (char) 33 + "1;");
    faulty("warn #" + (char) 0 + "1;");
    faulty("warn #" + (char) 160 + "1;");
    openOnes();
    faults();
  }

  private static void openOnes() {
    sentence("At most 4 \"(\" are open within one another.");
    takes("warn 1 if ((((post<1))));");
    faulty("warn 1 if ((((#(post<1)))));");
    takes("warn 1 if ((((post<1)))) and ((((post<1)))) or ((((post<1))));");
    takes("warn 1 if (post<1) or (post<1) or (post<1) or (post<1) or (post<1);");
    takes("warn 1 if (((post<1) or (post<1)) or ((post<1) or (post<1)));");
    faulty("warn 1 if (((post<1 and (post<1 or not #(post<1)))));");
    takes("warn 1 if ((((post<1))));warn 1 if ((((post<1))));");
  }

  private static void faults() {
    sentence("FAULT: the place (from 0) of the first byte of the first NAME, NUMBER or other byte that can't stand there");
    faulty("#5");
    faulty("#;");
    faulty("warn 1;#;");
    faulty("warn 1;  #x");
    faulty("taken 1 of 1 #5 0;");
    faulty("warn 1 if post #5;");
    faulty("warn 1 if post<1 #);");
    faulty("warn 1 if (post<1#;");
    faulty("warn 1 if (#);");
    faulty("heard 1 #if post=1;");
    faulty("heard 1 #x; #x");
    faulty("taken #1000 of 9 from 9;");
    sentence("(a NUMBER that is not as told, the fifth \"(\", the first NAME of the tenth LINE, too)");
    faulty("ask 1 by #1234;");
    faulty("warn 1 if ((((#(((");
    faulty("warn 1;".repeat(9) + "  #warn");
    faulty("warn 1;".repeat(9) + "#nonsense");
    faulty("warn 1;".repeat(9) + " #;");
    sentence("or the end (how many bytes there are), if more must come");
    for (String text : new String[] {"t", "warn", "warn 1", "warn 1 ", "warn 1 if", "warn 1 if not", "warn 1 if (", "warn 1 if (post<1", "warn 1 if post",
        "warn 1 if post<", "warn 1 if post<1", "warn 1 if post<1 and", "warn 1 if post<1 or  ", "ask 1 by", "taken 1 of 1 from", "heard", "warn 1;heard 1"}) {
      if (text.equals("t")) faulty("#t");
      else reads(text, -100 - text.length());
    }
    InquiryBench x = new InquiryBench();
    due("240 bytes, and no end: read()", read(x, "warn 1" + " ".repeat(234)), -340);
    due("the 240th byte: read()", read(x, "warn 1" + " ".repeat(233) + "5"), -339);
    due("the 240th byte is the end: read()", read(x, "warn 1" + " ".repeat(233) + ";"), 0);
  }

  private static void versions() {
    sentence("VERSIONS, 8 at most, numbered as they come: a TEXT that is read is RULES from TODAY on");
    InquiryBench x = new InquiryBench();
    for (int i = 0; i < 8; i++) due("read()", read(x, "heard " + i + ";"), i);
    for (int i = 0; i < 8; i++) due("line(" + i + ", 0, 1)", x.line(i, 0, 1), i);
    due("the ninth: read()", read(x, "heard 9;"), FULL);
    due("behind a fault: read()", read(x, "heard 10;"), -106);
    due("an empty one: read()", x.read(), FULL);
    due("many(5)", x.many(5), 8);
    due("line(8, 0, 1)", x.line(8, 0, 1), NO_ROW);
    due("line(7, 0, 1)", x.line(7, 0, 1), 7);
    sentence("in THE VIEW RULES are the latest that were read on its DAY or ahead (none: an empty TEXT)");
    InquiryBench y = persons(1);
    y.days(1);
    read(y, "ask 0 by 1;");
    read(y, "ask 0 by 2;");
    y.days(2);
    read(y, "ask 0 by 3;");
    int[] want = {NONE, 1002, 1002, 1003, 1003};
    for (int d = 0; d < 5; d++) {
      y.view(d, 3);
      due("on day " + d + ": knew(0, 0, 2)", y.knew(0, 0, 2), want[d]);
    }
    sentence("4 1 if it has a COND, else 0");
    InquiryBench cond = new InquiryBench();
    read(cond, "warn 1 if post=1;warn 1;ask 1 by 1;ask 1 by 1 if post=1;taken 1 of 1 from 1 if not(post=1);heard 1;");
    int[] has = {1, 0, 0, 1, 1, 0};
    for (int i = 0; i < 6; i++) due("line(0, " + i + ", 4)", cond.line(0, i, 4), has[i]);
    sentence("-9: there is none such, another what");
    edges("line(v, 0, 0)", BoundaryTest::some, 0, 0, NO_ROW, (z, v) -> z.line(v, 0, 0));
    edges("line(0, i, 0)", BoundaryTest::some, 0, 2, NO_ROW, (z, i) -> z.line(0, i, 0));
    edges("line(0, 0, what)", BoundaryTest::some, 0, 4, NO_ROW, (z, w) -> z.line(0, 0, w));
    sentence("its N (-9: it has not so many)");
    InquiryBench n = new InquiryBench();
    read(n, "taken 1 of 2 from 3;warn 4;ask 5 by 6;heard 7;");
    int[][] ns = {{1, 2, 3}, {4, NO_ROW, NO_ROW}, {5, 6, NO_ROW}, {7, NO_ROW, NO_ROW}};
    for (int i = 0; i < 4; i++) for (int w = 1; w < 4; w++) due("line(0, " + i + ", " + w + ")", n.line(0, i, w), ns[i][w - 1]);
  }

  private static void signs() {
    sentence("person, post, slow: as told; had: how many PAPERS are TO them; made: how many are by them");
    InquiryBench none = persons(1);
    read(none, "ask 0 by 1 if person=0 and post=0 and had=0 and made=0 and slow=0;");
    due("all 0: knew(0, 0, 2)", none.knew(0, 0, 2), 1001);
    InquiryBench most = new InquiryBench();
    for (int i = 0; i < 10; i++) most.person(9, 48);
    for (int i = 0; i < 12; i++) most.paper(9, 512, 0, 0);
    read(most, "ask 0 by 1 if person=9 and post=9 and had=12 and made=12 and slow=48;");
    due("as many as may be: knew(9, 0, 2)", most.knew(9, 0, 2), 1001);
    due("of another: knew(8, 0, 2)", most.knew(8, 0, 2), NONE);
    InquiryBench x = new InquiryBench();
    x.person(4, 0);
    read(x, "ask 0 by 1 if post<4;ask 1 by 1 if post<5;ask 2 by 1 if post=4;ask 3 by 1 if post=5;ask 4 by 1 if post>4;ask 5 by 1 if post>3;");
    int[] want = {NONE, 1001, 1001, NONE, NONE, 1001};
    for (int t = 0; t < 6; t++) due("knew(0, " + t + ", 2)", x.knew(0, t, 2), want[t]);
    sentence("taken n of it from a THING (it may be the same)");
    InquiryBench same = one(0, 300);
    read(same, "taken 0 of 0 from 0;taken 99 of 1 from 0;taken 0 of 2 from 0;");
    due("the same: knew(1, 0, 2)", same.knew(1, 0, 2), 1310);
    due("99 hours behind: knew(1, 1, 2)", same.knew(1, 1, 2), 1409);
    due("0 hours behind: knew(1, 2, 2)", same.knew(1, 2, 2), 1310);
    sentence("by a LINE ask of it by h likewise, from h on");
    InquiryBench ask = one(0, 300);
    read(ask, "ask 1 by 0;ask 2 by 999;ask 0 by 310;");
    due("from 0: knew(0, 1, 2)", ask.knew(0, 1, 2), 1000);
    due("from 999: knew(0, 2, 2)", ask.knew(0, 2, 2), 1999);
    sentence("(in no other way; LINES as often as they tell an earlier HOUR)");
    InquiryBench loop = persons(1);
    read(loop, "taken 1 of 0 from 1;taken 1 of 1 from 0;");
    due("from one another: knew(0, 0, 2)", loop.knew(0, 0, 2), NONE);
    InquiryBench chain = persons(1);
    read(chain, "taken 99 of 7 from 6;taken 99 of 6 from 5;taken 99 of 5 from 4;taken 99 of 4 from 3;taken 99 of 3 from 2;taken 99 of 2 from 1;"
        + "taken 99 of 1 from 0;ask 0 by 999;");
    due("over all things: knew(0, 7, 2)", chain.knew(0, 7, 2), 1999 + 7 * 99);
    sentence("BAD; NONE: there is no such HOUR, or it is that of SURE.");
    refused("no such hour: why(0, 1)", () -> one(0, 300), y -> y.why(0, 1), NONE);
    due("that of sure, by a line too: why(0, 0)", same.why(0, 0), NONE);
    read(ask, "ask 0 by 310;ask 1 by 0;");
    due("that of sure: why(1, 0)", ask.why(1, 0), NONE);
    read(ask, "ask 0 by 309;");
    due("an hour ahead: why(1, 0)", ask.why(1, 0), 0);
    InquiryBench two = one(0, 300);
    read(two, "warn 1;ask 2 by 1;ask 1 by 6 if post=9;ask 1 by 5 if post=9;ask 1 by 7;ask 1 by 6;taken 5 of 1 from 2;");
    due("the first of two: why(0, 1)", two.why(0, 1), 5);
    edges("why(p, 2)", BoundaryTest::some, 0, 2, BAD, (y, p) -> y.why(p, 2));
  }

  // ---- section 4

  private static void sayings() {
    part("4");
    sentence("SAYINGS, 16 at most, numbered as they come: by a PERSON, that another one (or themselves) had a PAPER by an HOUR (yes), or hadn't (no), with a WEIGHT (1 to 9), told TODAY");
    InquiryBench x = one();
    for (int i = 0; i < 16; i++) due("saying " + i, x.saying(0, i % 2, 0, 10 * i + 1 + i % 9, true, -1), i);
    due("many(7)", x.many(7), 16);
    refused("the 17th", BoundaryTest::full, y -> y.saying(0, 0, 0, 11, true, -1), FULL);
    edges("saying(p, ..)", BoundaryTest::some, 0, 2, BAD, (y, p) -> y.saying(p, 0, 0, 11, true, -1));
    edges("saying(0, p, ..)", BoundaryTest::some, 0, 2, BAD, (y, p) -> y.saying(0, p, 0, 11, true, -1));
    edges("saying(0, 0, paper, ..)", BoundaryTest::some, 0, 3, BAD, (y, p) -> y.saying(0, 0, p, 11, true, -1));
    for (int how : new int[] {0, 10, 9990, 10000, 10001, -1, -9, -10, -11}) {
      refused("how " + how, BoundaryTest::some, y -> y.saying(0, 0, 0, how, true, -1), BAD);
    }
    sentence("of one talk with another SAYING (or of its own, -1)");
    edges("talk", BoundaryTest::some, -1, 2, BAD, (y, t) -> y.saying(0, 0, 0, 11, true, t));
    refused("none is told yet: talk 0", BoundaryTest::one, y -> y.saying(0, 0, 0, 11, true, 0), BAD);
    sentence("A SAYING that is of one talk with one that is told ahead of it counts for nothing.");
    InquiryBench talk = one(0, 300);
    talk.saying(0, 0, 0, 2909, true, -1);
    talk.saying(0, 0, 0, 2909, true, 0);
    talk.saying(0, 0, 0, 2909, true, 1);
    due("many(7)", talk.many(7), 1);
    due("personOf(0, 4)", talk.personOf(0, 4), 1);
    due("quarrel(0, 0, 0)", talk.quarrel(0, 0, 0), 9);
    due("impossible()", talk.impossible(), 1);
    hours();
  }

  private static void hours() {
    sentence("each HOUR h (0 to 1000: 1000 as if never) from which it might have been in hand goes against yes by an HOUR below h, and no by an HOUR that isn't");
    for (int by = 299; by < 302; by++) {
      InquiryBench yes = one(0, 300);
      yes.saying(1, 0, 0, 10 * by + 4, true, -1);
      due("in hand from 300, yes by " + by + ": quarrel(0, 0, 0)", yes.quarrel(0, 0, 0), by < 300 ? 4 : 0);
      InquiryBench no = one(0, 300);
      no.saying(1, 0, 0, 10 * by + 4, false, -1);
      due("no by " + by + ": quarrel(0, 0, 0)", no.quarrel(0, 0, 0), by < 300 ? 0 : 4);
    }
    InquiryBench never = one();
    never.saying(1, 1, 0, 9999, false, -1);
    due("not by the last hour: quarrel(1, 0, 0)", never.quarrel(1, 0, 0), 0);
    due("as if never: quarrel(1, 0, 1)", never.quarrel(1, 0, 1), 2000);
    InquiryBench ever = one();
    ever.saying(1, 1, 0, 9, true, -1);
    due("by the first hour: quarrel(1, 0, 1)", ever.quarrel(1, 0, 1), 1000);
    ever.saying(1, 1, 0, 8, false, -1);
    due("and not by it: quarrel(1, 0, 0)", ever.quarrel(1, 0, 0), 8);
    sentence("some HOUR within IN HAND (all 0 to 1000, if it has none, or isn't TO them nor by them)");
    InquiryBench some = one(0, 300);
    some.person(0, 0);
    due("not to them: quarrel(2, 0, 1)", some.quarrel(2, 0, 1), 1000);
    some.saying(0, 2, 0, 5, false, -1);
    due("quarrel(2, 0, 1)", some.quarrel(2, 0, 1), 1001);
    due("no stamps: quarrel(0, 0, 1)", one().quarrel(0, 0, 1), 1000);
    due("they clash: quarrel(1, 1, 1)", clashing().quarrel(1, 1, 1), 1000);
    due("in hand: quarrel(1, 0, 1)", some.quarrel(1, 0, 1), 1300);
    some.saying(0, 1, 0, 3095, false, -1);
    due("the last hour in hand: quarrel(1, 0, 1)", some.quarrel(1, 0, 1), 1310);
    due("quarrel(1, 0, 0)", some.quarrel(1, 0, 0), 0);
    some.saying(0, 1, 0, 3101, false, -1);
    due("beyond it: quarrel(1, 0, 0)", some.quarrel(1, 0, 0), 1);
    due("quarrel(1, 0, 1)", some.quarrel(1, 0, 1), 1310);
    sentence("BELIEVED: the least such HOUR.");
    InquiryBench least = one();
    due("none is told: quarrel(1, 0, 0)", least.quarrel(1, 0, 0), 0);
    due("quarrel(1, 0, 1)", least.quarrel(1, 0, 1), 1000);
    least.saying(0, 1, 0, 4003, false, -1);
    least.saying(0, 1, 0, 5002, true, -1);
    due("401 to 500: quarrel(1, 0, 1)", least.quarrel(1, 0, 1), 1401);
    sentence("A SAYING is IMPOSSIBLE, if each HOUR within IN HAND goes against it.");
    int[] by = {299, 300, 309, 310}, yes = {1, 0, 0, 0}, no = {0, 0, 0, 1};
    for (int i = 0; i < 4; i++) {
      InquiryBench y = one(0, 300);
      y.saying(0, 1, 0, 10 * by[i] + 1, true, -1);
      due("300 to 310, yes by " + by[i] + ": impossible()", y.impossible(), yes[i]);
      InquiryBench n = one(0, 300);
      n.saying(0, 1, 0, 10 * by[i] + 1, false, -1);
      due("no by " + by[i] + ": impossible()", n.impossible(), no[i]);
    }
    due("none is told: impossible()", one(0, 300).impossible(), 0);
    InquiryBench last = one(0, 300);
    for (int i = 0; i < 16; i++) last.saying(0, 1, 0, 11, true, -1);
    due("all sixteen: impossible()", last.impossible(), 65535);
    refused("not in the view: quarrel(0, 3, 0)", BoundaryTest::some, y -> y.quarrel(0, 3, 0), NONE);
    edges("quarrel(p, 0, 0)", BoundaryTest::some, 0, 2, BAD, (y, p) -> y.quarrel(p, 0, 0));
    edges("quarrel(0, p, 0)", BoundaryTest::some, 0, 3, BAD, (y, p) -> y.quarrel(0, p, 0));
    edges("quarrel(0, 0, what)", BoundaryTest::some, 0, 1, BAD, (y, w) -> y.quarrel(0, 0, w));
    refused("not in the view, and no such what: quarrel(0, 3, 2)", BoundaryTest::some, y -> y.quarrel(0, 3, 2), BAD);
  }

  // ---- section 5

  private static void findings() {
    part("5");
    sentence("FINDINGS, 12 at most, numbered as they come: of a PERSON and a THING that they knew it by an HOUR, in a WAY: 0 SURE, 1 MAY, 2 SHOULD.");
    InquiryBench x = one();
    for (int i = 0; i < 12; i++) due("finding " + i, x.finding(i % 2, i % 8, 90 * i, i % 3), i);
    for (int i = 0; i < 12; i++) {
      int[] want = {i % 2, i % 8, 90 * i, i % 3};
      for (int w = 0; w < 4; w++) due("findingOf(" + i + ", " + w + ")", x.findingOf(i, w), want[w]);
    }
    refused("the 13th", BoundaryTest::full, y -> y.finding(0, 0, 0, 0), FULL);
    edges("finding(p, ..)", BoundaryTest::some, 0, 2, BAD, (y, p) -> y.finding(p, 0, 0, 0));
    edges("finding(0, 0, 0, way)", BoundaryTest::some, 0, 2, BAD, (y, w) -> y.finding(0, 0, 0, w));
    edges("findingOf(f, 4)", BoundaryTest::some, 0, 2, BAD, (y, f) -> y.findingOf(f, 4));
    edges("findingOf(0, what)", BoundaryTest::some, 0, 6, BAD, (y, w) -> y.findingOf(0, w));
    sentence("It STANDS in THE VIEW, if that HOUR is not below that from which they did.");
    int[][] ways = {{310, 0}, {300, 1}, {305, 2}};
    for (int[] way : ways) {
      for (int h = way[0] - 1; h < way[0] + 2; h++) {
        InquiryBench y = one(0, 300);
        read(y, "ask 0 by 305;");
        y.finding(1, 0, h, way[1]);
        due("way " + way[1] + ", by " + h + ": findingOf(0, 4)", y.findingOf(0, 4), h < way[0] ? 0 : 1);
        due("many(9)", y.many(9), h < way[0] ? 0 : 1);
      }
    }
    InquiryBench never = one(0, 300);
    for (int way = 0; way < 3; way++) {
      never.finding(1, 1, 999, way);
      due("they never did: findingOf(" + way + ", 4)", never.findingOf(way, 4), 0);
    }
    InquiryBench first = one(0, 0);
    first.finding(0, 0, 0, 0);
    due("by hour 0, from hour 0: findingOf(0, 4)", first.findingOf(0, 4), 1);
    sentence("it LEANS on PAPERS (in THE VIEW) without which, each alone, it wouldn't; if it doesn't, on none");
    InquiryBench leans = one(0, 300);
    leans.finding(1, 0, 310, 0);
    leans.finding(1, 0, 309, 0);
    due("on one: findingOf(0, 5)", leans.findingOf(0, 5), 1);
    due("it doesn't stand: findingOf(1, 5)", leans.findingOf(1, 5), 0);
    paper(leans, 0, 301);
    due("the other is an hour late: findingOf(0, 5)", leans.findingOf(0, 5), 1);
    paper(leans, 0, 300);
    due("either would do: findingOf(0, 5)", leans.findingOf(0, 5), 0);
    InquiryBench twelve = one(0, 500);
    for (int i = 0; i < 11; i++) paper(twelve);
    read(twelve, "ask 1 by 1 if had > 11;");
    twelve.finding(1, 1, 1, 2);
    due("on all twelve: findingOf(0, 5)", twelve.findingOf(0, 5), 4095);
    barred();
  }

  private static void barred() {
    sentence("WARNINGS, 16 at most, numbered as they come: a PERSON is told of a PAPER, TODAY.");
    InquiryBench x = one();
    for (int i = 0; i < 16; i++) due("warning " + i, x.warn(i % 2, 0), i);
    due("many(10)", x.many(10), 16);
    refused("the 17th", BoundaryTest::full, y -> y.warn(0, 0), FULL);
    edges("warn(p, 0)", BoundaryTest::some, 0, 2, BAD, (y, p) -> y.warn(p, 0));
    edges("warn(0, p)", BoundaryTest::some, 0, 3, BAD, (y, p) -> y.warn(0, p));
    sentence("as many DAYS ahead of the DAY of THE VIEW as N of the first warn LINE whose COND holds of them (0 without) or more");
    int[] ns = {0, 1, 99};
    for (int n : ns) {
      InquiryBench y = one(0, 300);
      y.finding(1, 0, 999, 0);
      read(y, "warn 5 if person=0;warn " + n + ";warn 50;");
      due("not warned: findingOf(0, 6)", y.findingOf(0, 6), 1);
      y.days(7);
      y.warn(1, 0);
      if (n > 0) y.view(6 + n, 3);
      if (n > 0) due(n - 1 + " days ahead, of " + n + ": findingOf(0, 6)", y.findingOf(0, 6), 1);
      y.view(7 + n, 3);
      due(n + " days ahead: findingOf(0, 6)", y.findingOf(0, 6), 0);
      y.view(8 + n, 3);
      due("or more: findingOf(0, 6)", y.findingOf(0, 6), 0);
      y.view(6, 3);
      due("the day ahead of the warning: findingOf(0, 6)", y.findingOf(0, 6), 1);
    }
    InquiryBench without = one(0, 300);
    without.finding(1, 0, 999, 0);
    without.warn(0, 0);
    due("another was warned: findingOf(0, 6)", without.findingOf(0, 6), 1);
    without.warn(1, 0);
    due("without a line, today: findingOf(0, 6)", without.findingOf(0, 6), 0);
    sentence("or, by the latest heard LINE, if fewer than N SAYINGS that count are by the PERSON (0 without)");
    InquiryBench heard = one();
    heard.finding(1, 0, 0, 0);
    due("without a line: findingOf(0, 6)", heard.findingOf(0, 6), 0);
    read(heard, "heard 0;");
    due("of 0: findingOf(0, 6)", heard.findingOf(0, 6), 0);
    read(heard, "heard 0;heard 9;");
    for (int i = 0; i < 11; i++) {
      due(i + " of 9: findingOf(0, 6)", heard.findingOf(0, 6), i < 9 ? 1 : 0);
      heard.saying(1, 0, 0, 11, true, -1);
    }
    read(heard, "heard 9;heard 0;");
    due("the latest: findingOf(0, 6)", heard.findingOf(0, 6), 0);
  }

  // ---- section 6

  private static void questions() {
    part("6");
    sentence("QUESTIONS, 7 at most, numbered as they come: each takes DAYS (1 to 9), and may close THINGS (bits).");
    InquiryBench x = new InquiryBench();
    for (int i = 0; i < 7; i++) due("question " + i, x.question(1 + i, 1 << i), i);
    due("all seven: round(127)", x.round(127), 1 + 3 + 6 + 10 + 15 + 21 + 28);
    due("many(12)", x.many(12), 7);
    refused("the eighth", BoundaryTest::full, y -> y.question(1, 0), FULL);
    edges("question(d, 0)", BoundaryTest::some, 1, 9, BAD, (y, d) -> y.question(d, 0));
    edges("question(1, things)", BoundaryTest::some, 0, 255, BAD, (y, t) -> y.question(1, t));
    sentence("BAD: a bit of none; NONE: no QUESTIONS.");
    edges("round(bits)", BoundaryTest::some, 1, 7, BAD, (y, b) -> y.round(b == 0 ? 8 : b));
    refused("none is asked: round(0)", BoundaryTest::some, y -> y.round(0), NONE);
    refused("there is none: round(0)", InquiryBench::new, y -> y.round(0), NONE);
    refused("there is none: round(1)", InquiryBench::new, y -> y.round(1), BAD);
    refused("round(128)", BoundaryTest::full, y -> y.round(128), BAD);
    sentence("one behind the other from TODAY on; a THING is closed on the DAY on which the first one that closes it is over");
    InquiryBench twice = new InquiryBench();
    twice.question(2, 3);
    twice.question(3, 3);
    due("closed once: round(3)", twice.round(3), 4);
    due("row(1, 1)", twice.row(1, 1), 5);
    InquiryBench end = lastDay();
    end.question(9, 255);
    end.question(9, 255);
    due("beyond the last day: round(3)", end.round(3), 72);
    due("row(0, 1)", end.row(0, 1), 508);
    due("row(1, 1)", end.row(1, 1), 517);
    InquiryBench nothing = new InquiryBench();
    nothing.question(9, 0);
    due("nothing is closed: round(1)", nothing.round(1), 0);
    due("its rows alone: many(12)", nothing.many(12), 1);
    due("again: round(1)", nothing.round(1), 0);
    due("its rows alone: many(12)", nothing.many(12), 1);
    sentence("BEST ROUND: the order with the least COST; of several the first by numbers.");
    InquiryBench same = new InquiryBench();
    for (int i = 0; i < 7; i++) same.question(4, 0);
    same.round(127);
    for (int i = 0; i < 7; i++) due("row(" + i + ", 0)", same.row(i, 0), i);
    InquiryBench least = new InquiryBench();
    least.question(3, 1);
    least.question(3, 2);
    least.question(2, 4);
    due("round(7)", least.round(7), 2 + 5 + 8);
    int[] order = {2, 0, 1};
    for (int i = 0; i < 3; i++) due("row(" + i + ", 0)", least.row(i, 0), order[i]);
    rowsOfIt();
  }

  private static void rowsOfIt() {
    sentence("Of ROW i: what = 0 the QUESTION, 1 the DAY. -9: there is none such, another what.");
    edges("row(i, 0)", BoundaryTest::some, 0, 1, NO_ROW, (y, i) -> y.row(i, 0));
    edges("row(0, what)", BoundaryTest::some, 0, 1, NO_ROW, (y, w) -> y.row(0, w));
    refused("no rows: row(0, 0)", InquiryBench::new, y -> y.row(0, 0), NO_ROW);
    sentence("It becomes v: what it was. -9 likewise.");
    edges("alterRow(i, 0, 5)", BoundaryTest::some, 0, 1, NO_ROW, (y, i) -> y.alterRow(i, 0, 5));
    edges("alterRow(0, what, 5)", BoundaryTest::some, 0, 1, NO_ROW, (y, w) -> y.alterRow(0, w, 5));
    refused("no rows: alterRow(0, 0, 5)", InquiryBench::new, y -> y.alterRow(0, 0, 5), NO_ROW);
    InquiryBench x = some();
    for (int v : new int[] {LOW, HIGH, -9, 0}) {
      int was = x.row(1, 0);
      due("alterRow(1, 0, " + v + ")", x.alterRow(1, 0, v), was);
      due("row(1, 0)", x.row(1, 0), v);
    }
    sentence("The latest ROW goes: how many there are. NONE: there are none.");
    due("of two: dropRow()", x.dropRow(), 1);
    due("of one: dropRow()", x.dropRow(), 0);
    due("of none: dropRow()", x.dropRow(), NONE);
    due("many(12)", x.many(12), 0);
    refused("dropRow()", InquiryBench::new, y -> y.dropRow(), NONE);
    sentence("the first row whose QUESTION is none of them, or stood in a row ahead, or whose DAY is another than what the rows tell");
    for (int v : new int[] {2, 3, 7, 31, 32, 33, -1, -31, -32, LOW, HIGH}) judged(1, 0, v, 2);
    judged(1, 0, 0, 2);
    judged(0, 0, 1, 1);
    judged(0, 1, 2, 1);
    judged(0, 1, 4, 1);
    judged(1, 1, 6, 2);
    judged(1, 1, 4, 2);
    judged(1, 1, LOW, 2);
    judged(1, 1, HIGH, 2);
    judged(1, 1, 5, 0);
    InquiryBench other = asked();
    other.alterRow(1, 0, 2);
    other.alterRow(1, 1, 4);
    due("not asked, on the day on which it would be over: judge()", other.judge(), 2);
    other.alterRow(1, 0, 0);
    other.alterRow(1, 1, 6);
    due("in a row ahead, on the day on which it would be over: judge()", other.judge(), 2);
    other.alterRow(0, 0, 1);
    other.alterRow(0, 1, 2);
    other.alterRow(1, 1, 5);
    due("the other order: judge()", other.judge(), 0);
    sentence("how many rows there are, if these are right, but too few; -1: all are right");
    InquiryBench few = asked();
    due("all: judge()", few.judge(), 0);
    few.dropRow();
    due("one of two: judge()", few.judge(), 2);
    few.dropRow();
    due("none of two: judge()", few.judge(), 1);
    sentence("by the QUESTIONS (by their numbers, with their DAYS as they are now) and the DAY of the latest round() that was not refused");
    InquiryBench day = asked();
    day.days(9);
    day.round(0);
    day.round(8);
    day.round(-1);
    due("judge()", day.judge(), 0);
    InquiryBench now = new InquiryBench();
    now.keep();
    now.question(3, 1);
    now.round(1);
    now.again();
    now.question(4, 1);
    due("it takes 4 days now: judge()", now.judge(), 1);
    now.alterRow(0, 1, 4);
    due("over on day 4: judge()", now.judge(), 0);
    sentence("NONE: there was none yet.");
    refused("judge()", InquiryBench::new, y -> y.judge(), NONE);
    InquiryBench none = new InquiryBench();
    none.question(1, 1);
    none.round(0);
    none.round(2);
    due("two were refused: judge()", none.judge(), NONE);
    sentence("a QUESTION that isn't there any more is none of them");
    InquiryBench gone = new InquiryBench();
    gone.keep();
    gone.question(1, 1);
    gone.round(1);
    gone.again();
    due("judge()", gone.judge(), 1);
  }

  /** Questions 0 and 1 of three were asked: over on days 3 and 5. */
  private static InquiryBench asked() {
    InquiryBench x = new InquiryBench();
    x.question(3, 3);
    x.question(2, 4);
    x.question(1, 8);
    x.round(3);
    return x;
  }

  private static void judged(int i, int what, int v, int want) {
    InquiryBench x = asked();
    x.alterRow(i, what, v);
    due("row " + i + ", " + what + " is " + v + ": judge()", x.judge(), want);
  }

  // ---- section 7

  private static void deals() {
    part("7");
    sentence("with a number x (ints that wrap)");
    // A draft by person 2, paper 1, things 3; a letter by 0, paper 0, things 1; a shut one by 1, paper 2.
    InquiryBench x = persons(4);
    x.paper(0, 2, 1, 0);
    x.paper(2, 4, 3, 0);
    x.paper(1, 1, 255, 3);
    x.saying(3, 0, 0, 9, true, -1);
    x.saying(3, 0, 0, 7, true, 0);
    x.finding(3, 0, 999, 0);
    wraps(x, 0, 0, 0, HIGH, LOW);
    wraps(x, 0, 1, 0, HIGH - 2, LOW);
    wraps(x, 0, 1, 1, HIGH, (HIGH + 3) * 2);
    wraps(x, 0, 1, 2, 1 << 30, (((1 << 30) + 3) * 2 - 2) * 3);
    wraps(x, 0, 2, 1, LOW / 2 - 255, -(LOW + 2));
    wraps(x, 0, 2, 3, HIGH, (HIGH + 2) / -1);
    wraps(x, 1, 1, 0, LOW - 7, HIGH);
    wraps(x, 1, 0, 0, HIGH, HIGH + 3 + 9);
    wraps(x, 1, 0, 2, HIGH, 2 * ((HIGH + 3 + 9) * 2 - 3 + 26));
    wraps(x, 2, 0, 3, LOW, LOW / 3 - 999);
    wraps(x, 2, 0, 0, HIGH, HIGH + 999);
    InquiryBench shut = persons(2);
    shut.paper(1, 1, 0, 1);
    wraps(shut, 0, 0, 1, 1 << 30, LOW);
    wraps(shut, 0, 0, 2, 1 << 30, HIGH);
    wraps(shut, 0, 0, 3, HIGH, HIGH + 2);
    sentence("13 ends: x by (p - n), the rest away (-15 if p is n; that is all that deal() answers then)");
    InquiryBench by = persons(10);
    by.paper(0, 2, 0, 0);
    by.paper(0, 2, 0, 0);
    by.paper(9, 2, 0, 0);
    ends(by, 1, LOW, LOW);
    ends(by, 1, HIGH, -HIGH);
    ends(by, 2, 6, 0);
    ends(by, 2, -6, 0);
    ends(by, 2, 7, 1);
    ends(by, 2, -7, -1);
    ends(by, 2, -13, -1);
    ends(by, 0, 0, PARTED);
    ends(by, 0, 7, PARTED);
    due("many(14)", by.many(14), 1);
    by.finding(0, 0, 3, 0);
    by.shelf(0, 2, 0);
    due("of a finding: deal(0, 3, 7)", by.deal(0, 3, 7), PARTED);
    due("of several bodies: many(14)", by.many(14), 2);
    kinds();
  }

  private static void wraps(InquiryBench x, int what, int n, int deal, int at, int want) {
    x.shelf(0, what, n);
    due("deal of " + what + "/" + n + ": deal(0, " + deal + ", " + at + ")", x.deal(0, deal, at), want);
  }

  private static void ends(InquiryBench x, int paper, int at, int want) {
    x.shelf(0, 0, paper);
    due("of paper " + paper + ": deal(0, 3, " + at + ")", x.deal(0, 3, at), want);
  }

  private static void kinds() {
    sentence("1 letter (under paper: a PAPER that is TO somebody else than its maker), 2 draft (under paper: any other PAPER), 3 shut (under letter: a letter with a LEVEL above 0)");
    // to, level, kind
    int[][] papers = {{0, 0, 2}, {1, 0, 2}, {1, 3, 2}, {2, 0, 1}, {3, 0, 1}, {2, 1, 3}, {3, 3, 3}, {512, 0, 1}};
    for (int[] p : papers) {
      InquiryBench x = persons(10);
      x.paper(0, p[0], 0, p[1]);
      x.shelf(0, 0, 0);
      for (int as = 0; as < 7; as++) {
        boolean is = as == 0 || as == p[2] || as == 1 && p[2] == 3;
        due("to " + p[0] + " of level " + p[1] + ": taken(0, " + as + ")", x.taken(0, as), is ? 0 : OTHER_KIND);
      }
    }
    sentence("0, and no TRACE then: no such SHELF, deal, nothing, a row of a SHEET.");
    noTrace("no such shelf", -1, 0);
    noTrace("no such shelf", 4, 0);
    noTrace("no such shelf", LOW, 0);
    noTrace("no such shelf", HIGH, 0);
    noTrace("no such deal", 1, -1);
    noTrace("no such deal", 1, 4);
    noTrace("no such deal", 1, LOW);
    noTrace("no such deal", 1, HIGH);
    noTrace("nothing", 3, 0);
    noTrace("a row", 2, 0);
    InquiryBench gone = persons(1);
    gone.keep();
    gone.paper(0, 0, 5, 0);
    gone.shelf(0, 0, 0);
    due("deal(0, 0, 1)", gone.deal(0, 0, 1), 6);
    gone.again();
    due("no such one any more: deal(0, 0, 1)", gone.deal(0, 0, 1), 0);
    due("many(14)", gone.many(14), 0);
    sentence("THE TRACE: numbers of the bodies that ran in the latest deal(), as they began (left first); the first 30 are kept.");
    InquiryBench x = some();
    x.deal(1, 2, 5);
    int[] want = {60, 51, 12, 11, 61, 50, 10, 11, 61, 50, 10};
    due("the longest one: many(14)", x.many(14), want.length);
    for (int i = 0; i < want.length; i++) due("trace(" + i + ")", x.trace(i), want[i]);
    edges("trace(i)", BoundaryTest::some, 0, 10, NONE, (y, i) -> y.trace(i));
    refused("none yet: trace(0)", InquiryBench::new, y -> y.trace(0), NONE);
    x.deal(1, 3, 5);
    due("the latest: many(14)", x.many(14), 1);
    due("trace(1)", x.trace(1), NONE);
  }

  private static void noTrace(String why, int shelf, int deal) {
    InquiryBench x = some();
    due("many(14)", x.many(14), 11);
    due(why + ": deal(" + shelf + ", " + deal + ", 5)", x.deal(shelf, deal, 5), 0);
    due("many(14)", x.many(14), 0);
    due("trace(0)", x.trace(0), NONE);
  }

  private static void sheets() {
    sentence("SHEETS 0 to 3 are rows of bytes (sort 0), shorts (1), ints (2), longs (3) or booleans (4), 40 at most, or missing (at first).");
    for (int s = 0; s < 4; s++) for (int as = 0; as < 5; as++) due("missing: item(" + s + ", " + as + ", 0)", new InquiryBench().item(s, as, 0), NOTHING);
    edges("sheet(s, 0, 1)", BoundaryTest::some, 0, 3, BAD, (x, s) -> x.sheet(s, 0, 1));
    edges("sheet(0, sort, 1)", BoundaryTest::some, -1, 4, BAD, (x, sort) -> x.sheet(0, sort, 1));
    for (int n : new int[] {41, HIGH}) refused("sheet(0, 2, " + n + ")", BoundaryTest::some, x -> x.sheet(0, 2, n), BAD);
    for (int n : new int[] {-1, LOW}) refused("sheet(0, 2, " + n + ")", BoundaryTest::some, x -> x.sheet(0, 2, n), BELOW_0);
    for (int sort = 0; sort < 5; sort++) {
      InquiryBench x = new InquiryBench();
      due("sheet(3, " + sort + ", 40)", x.sheet(3, sort, 40), 1);
      due("put(3, 39, 1)", x.put(3, 39, 1), 1);
      due("put(3, 40, 1)", x.put(3, 40, 1), OUTSIDE);
      for (int i = 0; i < 40; i++) due("item(3, " + sort + ", " + i + ")", x.item(3, sort, i), i == 39 ? 1 : 0);
      due("item(3, " + sort + ", 40)", x.item(3, sort, 40), OUTSIDE);
      due("sheet(3, " + sort + ", 40)", x.sheet(3, sort, 40), 1);
      due("all 0: item(3, " + sort + ", 39)", x.item(3, sort, 39), 0);
      x.put(3, 0, 1);
      due("sheet(3, " + sort + ", 1)", x.sheet(3, sort, 1), 1);
      due("all 0: item(3, " + sort + ", 0)", x.item(3, sort, 0), 0);
      due("sheet(3, " + sort + ", 0)", x.sheet(3, sort, 0), 1);
      due("empty: item(3, " + sort + ", 0)", x.item(3, sort, 0), OUTSIDE);
      due("empty: put(3, 0, 1)", x.put(3, 0, 1), OUTSIDE);
    }
    sentence("or missing (sort -1; n isn't looked at): 1");
    for (int n : new int[] {0, -1, 41, LOW, HIGH}) {
      InquiryBench x = some();
      due("sheet(0, -1, " + n + ")", x.sheet(0, -1, n), 1);
      due("item(0, 0, 0)", x.item(0, 0, 0), NOTHING);
      due("put(0, 0, 0)", x.put(0, 0, 0), NOTHING);
    }
    sentence("Item i becomes v, narrowed to its sort (booleans: whether it isn't 0): 1.");
    int[] v = {127, 128, -128, -129, 255, 256, 32767, 32768, -32768, -32769, 65535, 65536, HIGH, LOW, -1, 0};
    int[] bytes = {127, -128, -128, 127, -1, 0, -1, 0, 0, -1, -1, 0, -1, 0, -1, 0};
    int[] shorts = {127, 128, -128, -129, 255, 256, 32767, -32768, -32768, 32767, -1, 0, -1, 0, -1, 0};
    for (int i = 0; i < v.length; i++) {
      int[] want = {bytes[i], shorts[i], v[i], v[i], v[i] == 0 ? 0 : 1};
      for (int sort = 0; sort < 5; sort++) {
        InquiryBench x = new InquiryBench();
        x.sheet(0, sort, 2);
        due("put(0, 1, " + v[i] + ")", x.put(0, 1, v[i]), 1);
        due("item(0, " + sort + ", 1)", x.item(0, sort, 1), want[sort]);
      }
    }
    edges("put(s, 0, 1)", BoundaryTest::noneMissing, 0, 3, BAD, (x, s) -> x.put(s, 0, 1));
    edges("put(0, i, 1)", BoundaryTest::some, 0, 2, OUTSIDE, (x, i) -> x.put(0, i, 1));
    refused("missing: put(2, 0, 1)", BoundaryTest::some, x -> x.put(2, 0, 1), NOTHING);
    itemsAndShelves();
  }

  private static InquiryBench noneMissing() {
    InquiryBench x = new InquiryBench();
    for (int s = 0; s < 4; s++) put(x, s, 2, s + 1, 100 + s);
    return x;
  }

  private static void itemsAndShelves() {
    sentence("BAD: no such SHEET, sort; -13; -11; -12. (An item may be as low as these, too.)");
    edges("item(s, 2, 0)", BoundaryTest::noneMissing, 0, 3, BAD, (x, s) -> x.item(s, 2, 0));
    edges("item(3, 2, i)", BoundaryTest::noneMissing, 0, 3, OUTSIDE, (x, i) -> x.item(3, 2, i));
    for (int sort : new int[] {-1, 5, LOW, HIGH}) refused("item(0, " + sort + ", 0)", BoundaryTest::some, x -> x.item(0, sort, 0), BAD);
    for (int sort = 1; sort < 5; sort++) {
      int as = sort;
      refused("of bytes, taken for " + sort, BoundaryTest::some, x -> x.item(0, as, 0), OTHER_KIND);
    }
    for (int low : new int[] {BAD, NOTHING, OUTSIDE, OTHER_KIND}) {
      InquiryBench x = noneMissing();
      x.put(0, 0, low);
      due("item(0, 2, 0)", x.item(0, 2, 0), low);
    }
    sentence("SHELVES 0 to 3 hold a PAPER, a SAYING, a FINDING (whatever THE VIEW; nothing, if there is no such one any more), a SHEET's row, or nothing (at first).");
    for (int s = 0; s < 4; s++) for (int as = 0; as < 15; as++) if (as < 7 || as > 9) due("nothing: taken", new InquiryBench().taken(s, as), NOTHING);
    edges("shelf(s, 0, 0)", BoundaryTest::some, 0, 3, BAD, (x, s) -> x.shelf(s, 0, 0));
    edges("shelf(0, what, 0)", BoundaryTest::some, 0, 4, BAD, (x, w) -> x.shelf(0, w, 0));
    edges("shelf(0, 0, paper)", BoundaryTest::some, 0, 3, BAD, (x, n) -> x.shelf(0, 0, n));
    edges("shelf(0, 1, saying)", BoundaryTest::some, 0, 2, BAD, (x, n) -> x.shelf(0, 1, n));
    edges("shelf(0, 2, finding)", BoundaryTest::some, 0, 2, BAD, (x, n) -> x.shelf(0, 2, n));
    edges("shelf(0, 3, sheet)", BoundaryTest::some, 0, 3, BAD, (x, n) -> x.shelf(0, 3, n));
    for (int n : new int[] {LOW, -1, 0, 99, HIGH}) {
      InquiryBench x = some();
      due("nothing: shelf(0, 4, " + n + ")", x.shelf(0, 4, n), 1);
      due("taken(0, 0)", x.taken(0, 0), NOTHING);
    }
    for (int what = 0; what < 3; what++) {
      refused("there is none: shelf(0, " + what + ", 0)", InquiryBench::new, what == 0 ? x -> x.shelf(0, 0, 0) : what == 1 ? x -> x.shelf(0, 1, 0) : x -> x.shelf(0, 2, 0), BAD);
    }
    InquiryBench view = some();
    view.view(0, 0);
    due("whatever the view: taken(0, 3)", view.taken(0, 3), 1);
    due("shelf(3, 0, 3)", view.shelf(3, 0, 3), 1);
    due("taken(3, 1)", view.taken(3, 1), 3);
    view.again();
    due("paper 1 was kept: taken(0, 3)", view.taken(0, 3), 1);
    due("paper 3 was not: taken(3, 1)", view.taken(3, 1), NOTHING);
    due("saying 0 was not: taken(1, 5)", view.taken(1, 5), NOTHING);
    InquiryBench row = some();
    due("of a row: taken(2, 11)", row.taken(2, 11), 5);
    row.sheet(1, 0, 2);
    due("the sheet became another: taken(2, 11)", row.taken(2, 11), 5);
    due("missing: shelf(2, 3, 2)", row.shelf(2, 3, 2), 1);
    due("nothing: taken(2, 11)", row.taken(2, 11), NOTHING);
    due("empty: shelf(2, 3, 3)", row.shelf(2, 3, 3), 1);
    due("none of booleans: taken(2, 14)", row.taken(2, 14), 0);
    sentence("its number; for a row of sort as - 10 (as 10 to 14): how many items. BAD: no such SHELF, as; -13; -11.");
    edges("taken(s, 0)", BoundaryTest::some, 0, 3, BAD, (x, s) -> x.taken(s, 0));
    edges("taken(0, as)", BoundaryTest::some, 0, 6, BAD, (x, as) -> x.taken(0, as));
    edges("taken(0, as)", BoundaryTest::some, 10, 14, BAD, (x, as) -> x.taken(0, as));
    for (int as = 7; as < 10; as++) {
      int of = as;
      refused("taken(2, " + as + ")", BoundaryTest::some, x -> x.taken(2, of), BAD);
    }
    for (int as : new int[] {2, 4, 5, 6, 10, 11}) refused("a shut one taken as " + as, BoundaryTest::some, x -> x.taken(0, as), OTHER_KIND);
    for (int as : new int[] {0, 6, 10, 12, 13, 14}) refused("a row of shorts taken as " + as, BoundaryTest::some, x -> x.taken(2, as), OTHER_KIND);
  }

  // ---- the promises

  private static void promises() {
    promise(1, "DAY 0; nothing is there; nothing is kept.");
    InquiryBench x = new InquiryBench();
    for (int w = 0; w < 15; w++) due("many(" + w + ")", x.many(w), 0);
    due("again()", x.again(), NONE);
    promise(2, "TODAY goes n (1 to 99) DAYS on: it. BAD; STATE: it would be above 499.");
    edges("days(n)", BoundaryTest::some, 1, 99, BAD, (y, n) -> y.days(n));
    for (int left = 1; left < 100; left += 49) {
      int n = left;
      due("to the last day: days(" + n + ")", near(n).days(n), 499);
      if (n < 99) refused("one too many: days(" + (n + 1) + ")", () -> near(n), y -> y.days(n + 1), STATE);
    }
    promise(3, "THE VIEW is a DAY (-1: TODAY, as it goes on) and a LEVEL: how many PAPERS are in it. BAD.");
    edges("view(0, level)", BoundaryTest::some, 0, 3, BAD, (y, l) -> y.view(0, l));
    due("no papers: view(0, 0)", new InquiryBench().view(0, 0), 0);
    due("all twelve: view(0, 0)", full().view(0, 0), 12);
    promise(5, "Of a PERSON: what = 0 POST, 1 SLOW, 2 how many PAPERS in THE VIEW are TO them, 3 by them, 4 how many SAYINGS that count are by them. BAD.");
    edges("personOf(p, 0)", BoundaryTest::some, 0, 2, BAD, (y, p) -> y.personOf(p, 0));
    edges("personOf(0, what)", BoundaryTest::some, 0, 4, BAD, (y, w) -> y.personOf(0, w));
    refused("there is none: personOf(0, 0)", InquiryBench::new, y -> y.personOf(0, 0), BAD);
    promise(7, "A PAPER is LOST from TODAY on: 1. BAD; STATE: it is.");
    edges("lose(p)", BoundaryTest::full, 0, 11, BAD, (y, p) -> y.lose(p));
    refused("it is: lose(3)", BoundaryTest::some, y -> y.lose(3), STATE);
    refused("it is, since another day: lose(3)", BoundaryTest::later, y -> y.lose(3), STATE);
    promise(8, "5 how many STAMPS it has, 6 1 if it is in THE VIEW, else 0. BAD.");
    edges("paperOf(p, 0)", BoundaryTest::some, 0, 3, BAD, (y, p) -> y.paperOf(p, 0));
    edges("paperOf(0, what)", BoundaryTest::some, 0, 6, BAD, (y, w) -> y.paperOf(0, w));
    stampsFromASheet();
    manyAndKept();
  }

  private static InquiryBench near(int left) {
    InquiryBench x = new InquiryBench();
    for (int i = 0; i < 4; i++) x.days(99);
    for (int i = 396; i < 499 - left; i++) x.days(1);
    return x;
  }

  private static InquiryBench later() {
    InquiryBench x = some();
    x.days(1);
    x.view(0, 3);
    return x;
  }

  private static void stampsFromASheet() {
    promise(10, "n (0 to 9) STAMPS on a PAPER from a SHEET taken for shorts, from item i on");
    edges("stamps(p, 1, 0, 1)", BoundaryTest::some, 0, 3, BAD, (x, p) -> x.stamps(p, 1, 0, 1));
    edges("stamps(0, s, 0, 0)", BoundaryTest::some, 0, 3, BAD, (x, s) -> x.stamps(0, s, 0, 0));
    edges("stamps(0, 1, 0, n)", BoundaryTest::long0, 0, 9, BAD, (x, n) -> x.stamps(0, 1, 0, n));
    InquiryBench three = one();
    put(three, 0, 1, 8, 9, 0, 100, 1, 110, 2, 120, 9);
    due("three from item 1 on: stamps(0, 0, 1, 3)", three.stamps(0, 0, 1, 3), 3);
    due("sent(0, false): 100, and 48 behind at most", three.sent(0, false), 1100);
    due("sent(0, true)", three.sent(0, true), 1148);
    due("span(1, false)", three.span(1, false), 986);
    due("span(2, true)", three.span(2, true), 1020);
    due("hand(0, 0, true)", three.hand(0, 0, true), 1100);
    due("of other stamps, too: how many there are in all", some().stamps(0, 1, 0, 2), 6);
    due("none: stamps(0, 1, 0, 0)", some().stamps(0, 1, 0, 0), 4);
    for (int s : new int[] {0, 3}) refused("of another sort: stamps(0, " + s + ", 0, 0)", BoundaryTest::some, x -> x.stamps(0, s, 0, 0), OTHER_KIND);
    refused("missing: stamps(0, 2, 0, 0)", BoundaryTest::some, x -> x.stamps(0, 2, 0, 0), NOTHING);
    sentence("(also with n 0, i is 0 to the SHEET's size)");
    edges("stamps(0, 1, i, 0)", BoundaryTest::some, 0, 5, OUTSIDE, (x, i) -> x.stamps(0, 1, i, 0));
    edges("stamps(0, 1, i, 9)", BoundaryTest::long0, 0, 22, OUTSIDE, (x, i) -> x.stamps(0, 1, i, 9));
    refused("two items are left: stamps(0, 1, 3, 2)", BoundaryTest::some, x -> x.stamps(0, 1, 3, 2), OUTSIDE);
    due("just two: stamps(0, 1, 3, 1)", long0().stamps(0, 1, 38, 1), 1);
    refused("one item is left: stamps(0, 1, 39, 1)", BoundaryTest::long0, x -> x.stamps(0, 1, 39, 1), OUTSIDE);
    sentence("STATE: one isn't as told");
    int[][] not = {{6, 0}, {-1, 0}, {0, 1000}, {0, -1}, {32767, 0}, {-32768, 0}, {0, 32767}, {0, -32768}};
    for (int[] s : not) refused("the last is " + s[0] + ", " + s[1], () -> lastOf(s), x -> x.stamps(0, 1, 0, 3), STATE);
    int[][] as = {{5, 0}, {0, 999}};
    for (int[] s : as) due("the last is " + s[0] + ", " + s[1], lastOf(s).stamps(0, 1, 0, 3), 7);
    sentence("FULL: they don't go in (none comes then)");
    InquiryBench x = long0();
    due("stamps(0, 1, 0, 9)", x.stamps(0, 1, 0, 9), 9);
    due("stamps(0, 1, 0, 9)", x.stamps(0, 1, 0, 9), 18);
    due("seven, of six: stamps(0, 1, 0, 7)", x.stamps(0, 1, 0, 7), FULL);
    due("many(4)", x.many(4), 18);
    due("paperOf(0, 5)", x.paperOf(0, 5), 18);
    due("six, of six: stamps(0, 1, 0, 6)", x.stamps(0, 1, 0, 6), 24);
    due("none, of none: stamps(0, 1, 0, 0)", x.stamps(0, 1, 0, 0), 24);
    refused("one, of none", () -> fullSheet(0, 500), y -> y.stamps(0, 0, 0, 1), FULL);
  }

  /** A paper without stamps, and sheet 1 of 40 shorts, all 0. */
  private static InquiryBench long0() {
    InquiryBench x = one();
    x.sheet(1, 1, 40);
    return x;
  }

  private static InquiryBench lastOf(int[] stamp) {
    InquiryBench x = some();
    put(x, 1, 1, 6, 1, 129, 2, 100, stamp[0], stamp[1]);
    return x;
  }

  private static void manyAndKept() {
    promise(41, "BAD: another what.");
    edges("many(what)", BoundaryTest::some, 0, 14, BAD, (x, w) -> x.many(w));
    int[] most = {0, 10, 12, 12, 24, 8, 16, 16, 12, 12, 16, 7, 7, 240, 0};
    InquiryBench full = full();
    for (int w = 0; w < 15; w++) if (w != 9) due("full: many(" + w + ")", full.many(w), most[w]);
    promise(42, "All (THE VIEW, too) but THE TAPE, ROWS, SHEETS, SHELVES, THE TRACE is kept: 1.");
    InquiryBench kept = full();
    due("keep()", kept.keep(), 1);
    due("again()", kept.again(), 1);
    List<String> is = State.of(kept), was = State.of(keptOnce());
    due("as if just kept", is.equals(was) ? 1 : 0, 1);
    InquiryBench altered = full();
    altered.keep();
    altered.days(5);
    altered.view(1, 1);
    altered.gap(7);
    for (int p = 0; p < 12; p++) altered.lose(p);
    altered.again();
    due("full, and all of it again", State.of(altered).equals(State.of(keptOnce())) ? 1 : 0, 1);
    for (int[] view : new int[][] {{-1, 3}, {1, 2}, {2, 0}}) allAgain(view[0], view[1]);
    InquiryBench over = new InquiryBench();
    over.person(1, 1);
    over.keep();
    over.person(1, 1);
    over.keep();
    over.person(1, 1);
    over.again();
    due("the latest: many(1)", over.many(1), 2);
    over.person(1, 1);
    due("again()", over.again(), 1);
    due("which stays: many(1)", over.many(1), 2);
    promise(43, "It becomes what was kept latest (which stays): 1. NONE: nothing is kept.");
    refused("nothing is kept: again()", BoundaryTest::full, x -> x.again(), NONE);
    refused("nothing is kept: again()", InquiryBench::new, x -> x.again(), NONE);
    part("What it is");
    sentence("An object is used for at most 512 calls after it has been made");
    InquiryBench last = one(0, 100);
    for (int i = 4; i < 511; i++) due("call " + i, last.hand(0, 1, true), 1110);
    due("the 512th call", last.paper(1, 1, 1, 1), 1);
  }

  /** Some of each is kept with a view, all is changed, and comes again: it is as it was kept. */
  private static void allAgain(int day, int level) {
    InquiryBench here = some(), there = some();
    for (InquiryBench x : new InquiryBench[] {here, there}) {
      x.view(day, level);
      x.keep();
    }
    changeBook(here, day == -1 ? 0 : -1, 3 - level);
    due("all was changed: again()", here.again(), 1);
    List<String> then = State.of(there), now = State.of(here);
    for (int i = 0; i < then.size(); i++) due("as it was kept: " + then.get(i), now.get(i).equals(then.get(i)) ? 1 : 0, 1);
  }

  private static void changeBook(InquiryBench x, int day, int level) {
    x.read();
    x.days(9);
    x.person(9, 9);
    x.paper(3, 15, 255, 0);
    x.stamp(0, 0, 900);
    x.stamp(2, 5, 3);
    x.gap(3);
    x.lose(0);
    x.saying(0, 1, 0, 4445, false, -1);
    x.saying(1, 1, 1, 4445, true, -1);
    x.finding(3, 0, 0, 2);
    x.warn(2, 1);
    x.warn(0, 0);
    x.question(9, 9);
    read(x, "ask 0 by 0;ask 1 by 1;ask 2 by 2;ask 3 by 3;heard 5;");
    x.view(day, level);
    feed(x, "warn 7;");
  }

  private static InquiryBench keptOnce() {
    InquiryBench x = full();
    x.keep();
    return x;
  }

  public static void main(String[] args) {
    refusals();
    daysAndPersons(); papers(); theView();
    clocks(); choices(); inHand();
    knowing(); theTape(); texts(); versions(); signs();
    sayings(); findings(); questions(); deals(); sheets();
    promises();
    String many = sentences + " sentences, " + answers + " answers";
    System.out.println(wrong == 0 ? many + " are as promised" : wrong + " of " + many + " are not as promised");
    if (wrong != 0) System.exit(1);
  }
}
