import java.util.function.ToIntFunction;

/** Each promise by its number: ordinary inputs, the edges that the document names, and wrong inputs. */
public final class PromiseTest {
  private static final int BAD = -1, FULL = -2, NONE = -3, STATE = -4, NO_ROW = -9;
  private static final int LOW = Integer.MIN_VALUE, HIGH = Integer.MAX_VALUE;
  private static int wrong = 0, calls = 0, promise = 0;

  private static void due(String call, int got, int want) {
    calls++;
    if (got == want) return;
    wrong++;
    System.out.println("promise " + promise + ": " + call + " answered " + got + ", due is " + want);
  }

  private static void feed(InquiryBench x, String text) {
    int had = x.many(13);
    for (int i = 0; i < text.length(); i += 8) {
      int n = Math.min(8, text.length() - i);
      long eight = 0;
      for (int j = 0; j < n; j++) eight |= (long) text.charAt(i + j) << (8 * j);
      due("feed of '" + text + "'", x.feed(eight, n), had + i + n);
    }
  }

  private static int read(InquiryBench x, String text) {
    feed(x, text);
    return x.read();
  }

  private static void reads(InquiryBench x, String text, int want) {
    due("read() of '" + text + "'", read(x, text), want);
    due("many(13)", x.many(13), 0);
  }

  /** A bench with n persons: of post i, and 10 times i slow (48 at most). */
  private static InquiryBench persons(int n) {
    InquiryBench x = new InquiryBench();
    for (int i = 0; i < n; i++) due("person(" + i + ")", x.person(i, Math.min(48, 10 * i)), i);
    return x;
  }

  /** A paper by person 0 to person 1, that tells thing 0, with stamps (clock, hour, clock, hour ..). */
  private static int stamped(InquiryBench x, int... stamps) {
    int paper = x.paper(0, 2, 1, 0);
    for (int i = 0; i < stamps.length; i += 2) x.stamp(paper, stamps[i], stamps[i + 1]);
    return paper;
  }

  private static InquiryBench withStamps(int... stamps) {
    InquiryBench x = persons(2);
    stamped(x, stamps);
    return x;
  }

  private static void everyMany(InquiryBench x, int... want) {
    for (int i = 0; i < want.length; i++) due("many(" + i + ")", x.many(i), want[i]);
  }

  /** What the call answers to each number that is too low or too high. */
  private static void outside(String call, ToIntFunction<Integer> f, int below, int above, int want) {
    for (int v : new int[] {below, above, LOW, HIGH}) due(call + " with " + v, f.applyAsInt(v), want);
  }

  private static void newObject() {
    promise = 1;
    InquiryBench x = new InquiryBench();
    everyMany(x, 0, 0, 0, 0, 0, 0, 0, 0, 0, 0, 0, 0, 0, 0, 0);
    due("again()", x.again(), NONE);
    due("judge()", x.judge(), NONE);
    due("dropRow()", x.dropRow(), NONE);
    due("trace(0)", x.trace(0), NONE);
    due("row(0, 0)", x.row(0, 0), NO_ROW);
    due("clash(0)", x.clash(0), 0);
    due("impossible()", x.impossible(), 0);
    due("line(0, 0, 0)", x.line(0, 0, 0), NO_ROW);
    for (int i = 0; i < 4; i++) {
      due("item", x.item(i, 2, 0), -11);
      due("taken", x.taken(i, 0), -11);
    }
    due("gap(24)", x.gap(24), 24);
    for (int c = 1; c < 6; c++) {
      due("span", x.span(c, false), 940);
      due("span", x.span(c, true), 1060);
    }
    x.person(0, 0);
    x.keep();
    x.paper(0, 0, 0, 0);
    for (int i = 0; i < 4; i++) due("the shelves hold nothing: taken", x.taken(i, 0), -11);
    x.again();
    due("the view goes up to level 3: paper", x.paper(0, 0, 0, 3), 0);
    due("many(3)", x.many(3), 1);
    x.days(1);
    x.paper(0, 0, 0, 0);
    due("the view goes on with today: many(3)", x.many(3), 2);
    everyMany(new InquiryBench(), 0, 0, 0, 0);
  }

  private static void days() {
    promise = 2;
    InquiryBench x = new InquiryBench();
    outside("days", x::days, 0, 100, BAD);
    due("days(-1)", x.days(-1), BAD);
    due("many(0)", x.many(0), 0);
    due("days(1)", x.days(1), 1);
    due("days(99)", x.days(99), 100);
    for (int i = 2; i < 5; i++) due("days(99)", x.days(99), 99 * i + 1);
    due("days(99)", x.days(99), 496);
    due("days(4)", x.days(4), STATE);
    due("days(99)", x.days(99), STATE);
    due("many(0)", x.many(0), 496);
    due("days(3)", x.days(3), 499);
    due("days(1)", x.days(1), STATE);
    due("days(0)", x.days(0), BAD);
    due("days(100)", x.days(100), BAD);
    due("many(0)", x.many(0), 499);
  }

  private static void view() {
    promise = 3;
    InquiryBench x = persons(1);
    for (int level = 0; level < 4; level++) x.paper(0, 0, 0, level);
    for (int level = 0; level < 4; level++) due("view(-1, " + level + ")", x.view(-1, level), level + 1);
    x.days(5);
    x.paper(0, 0, 0, 0);
    due("lose(0)", x.lose(0), 1);
    due("view(0, 3)", x.view(0, 3), 4);
    due("view(4, 3)", x.view(4, 3), 4);
    due("view(5, 3)", x.view(5, 3), 4);
    due("paperOf(0, 6)", x.paperOf(0, 6), 0);
    due("paperOf(4, 6)", x.paperOf(4, 6), 1);
    due("view(4, 0)", x.view(4, 0), 1);
    due("paperOf(0, 6)", x.paperOf(0, 6), 1);
    due("paperOf(4, 6)", x.paperOf(4, 6), 0);
    outside("day", d -> x.view(d, 3), -2, 500, BAD);
    outside("level", l -> x.view(5, l), -1, 4, BAD);
    due("what is refused changes nothing: many(3)", x.many(3), 1);
    due("view(499, 3)", x.view(499, 3), 4);
    due("view(5, 3)", x.view(5, 3), 4);
    x.days(1);
    x.paper(0, 0, 0, 0);
    due("a day stays: many(3)", x.many(3), 4);
    due("view(-1, 3)", x.view(-1, 3), 5);
    x.days(1);
    x.paper(0, 0, 0, 0);
    due("today goes on: many(3)", x.many(3), 6);
    due("view(0, 0)", x.view(0, 0), 1);
  }

  private static void person() {
    promise = 4;
    InquiryBench x = new InquiryBench();
    outside("post", p -> x.person(p, 0), -1, 10, BAD);
    outside("slow", s -> x.person(0, s), -1, 49, BAD);
    due("many(1)", x.many(1), 0);
    due("person(9, 48)", x.person(9, 48), 0);
    due("personOf(0, 0)", x.personOf(0, 0), 9);
    due("personOf(0, 1)", x.personOf(0, 1), 48);
    for (int i = 1; i < 10; i++) due("person(0, 0)", x.person(0, 0), i);
    due("person(0, 0)", x.person(0, 0), FULL);
    due("person(10, 0)", x.person(10, 0), BAD);
    due("person(0, 49)", x.person(0, 49), BAD);
    due("many(1)", x.many(1), 10);
  }

  private static void personOf() {
    promise = 5;
    InquiryBench x = persons(3);
    x.paper(0, 7, 0, 0);
    x.paper(0, 4, 0, 2);
    x.paper(2, 4, 0, 0);
    x.saying(2, 0, 0, 15, true, -1);
    x.saying(2, 1, 1, 15, true, -1);
    x.saying(2, 0, 0, 15, true, 0);
    x.saying(0, 2, 0, 15, true, -1);
    int[][] want = {{0, 0, 1, 2, 1}, {1, 10, 1, 0, 0}, {2, 20, 3, 1, 2}};
    for (int p = 0; p < 3; p++) for (int w = 0; w < 5; w++) due("personOf(" + p + ", " + w + ")", x.personOf(p, w), want[p][w]);
    x.view(-1, 1);
    due("personOf(2, 2)", x.personOf(2, 2), 2);
    due("personOf(0, 3)", x.personOf(0, 3), 1);
    due("personOf(2, 4)", x.personOf(2, 4), 1);
    outside("person", p -> x.personOf(p, 0), -1, 3, BAD);
    outside("what", w -> x.personOf(0, w), -1, 5, BAD);
  }

  private static void paper() {
    promise = 6;
    InquiryBench x = persons(3);
    outside("by", b -> x.paper(b, 0, 0, 0), -1, 3, BAD);
    outside("to", t -> x.paper(0, t, 0, 0), -1, 8, BAD);
    outside("things", t -> x.paper(0, 0, t, 0), -1, 256, BAD);
    outside("level", l -> x.paper(0, 0, 0, l), -1, 4, BAD);
    due("many(2)", x.many(2), 0);
    x.days(7);
    due("paper(2, 7, 255, 3)", x.paper(2, 7, 255, 3), 0);
    int[] want = {2, 7, 255, 3, 7, 0, 1};
    for (int w = 0; w < 7; w++) due("paperOf(0, " + w + ")", x.paperOf(0, w), want[w]);
    for (int i = 1; i < 12; i++) due("paper(0, 0, 0, 0)", x.paper(0, 0, 0, 0), i);
    due("paper(0, 0, 0, 0)", x.paper(0, 0, 0, 0), FULL);
    due("paper(3, 0, 0, 0)", x.paper(3, 0, 0, 0), BAD);
    due("many(2)", x.many(2), 12);
    InquiryBench all = persons(10);
    due("paper(9, 1023, 0, 0)", all.paper(9, 1023, 0, 0), 0);
    due("paper(9, 1024, 0, 0)", all.paper(9, 1024, 0, 0), BAD);
    due("without persons: paper(0, 0, 0, 0)", new InquiryBench().paper(0, 0, 0, 0), BAD);
  }

  private static void lose() {
    promise = 7;
    InquiryBench x = persons(1);
    x.paper(0, 0, 0, 0);
    x.paper(0, 0, 0, 0);
    outside("lose", x::lose, -1, 2, BAD);
    x.days(3);
    due("lose(1)", x.lose(1), 1);
    due("many(3)", x.many(3), 1);
    x.days(1);
    due("lose(1)", x.lose(1), STATE);
    due("it was lost on day 3: view(3, 3)", x.view(3, 3), 1);
    due("view(2, 3)", x.view(2, 3), 2);
    due("also if it is in the view: lose(1)", x.lose(1), STATE);
    due("many(2)", x.many(2), 2);
    InquiryBench first = persons(1);
    first.paper(0, 0, 0, 0);
    due("on day 0: lose(0)", first.lose(0), 1);
    due("lose(0)", first.lose(0), STATE);
    due("view(0, 3)", first.view(0, 3), 0);
  }

  private static void paperOf() {
    promise = 8;
    InquiryBench x = persons(3);
    x.days(2);
    x.paper(1, 5, 9, 1);
    x.paper(2, 0, 0, 0);
    x.stamp(0, 0, 5);
    x.stamp(1, 0, 5);
    x.stamp(0, 0, 5);
    int[][] want = {{1, 5, 9, 1, 2, 2, 1}, {2, 0, 0, 0, 2, 1, 1}};
    for (int p = 0; p < 2; p++) for (int w = 0; w < 7; w++) due("paperOf(" + p + ", " + w + ")", x.paperOf(p, w), want[p][w]);
    x.view(-1, 0);
    due("shut: paperOf(0, 6)", x.paperOf(0, 6), 0);
    for (int w = 0; w < 6; w++) due("whatever the view: paperOf(0, " + w + ")", x.paperOf(0, w), want[0][w]);
    x.view(1, 3);
    due("not yet found: paperOf(0, 6)", x.paperOf(0, 6), 0);
    outside("paper", p -> x.paperOf(p, 0), -1, 2, BAD);
    outside("what", w -> x.paperOf(0, w), -1, 7, BAD);
  }

  private static void stamp() {
    promise = 9;
    InquiryBench x = persons(2);
    x.paper(0, 2, 1, 0);
    outside("paper", p -> x.stamp(p, 0, 0), -1, 1, BAD);
    outside("clock", c -> x.stamp(0, c, 0), -1, 6, BAD);
    outside("hour", h -> x.stamp(0, 0, h), -1, 1000, BAD);
    due("many(4)", x.many(4), 0);
    due("stamp(0, 0, 999)", x.stamp(0, 0, 999), 0);
    due("sent(0, false)", x.sent(0, false), 1999);
    due("stamp(0, 5, 0)", x.stamp(0, 5, 0), 1);
    due("clash(0)", x.clash(0), 1);
    x.paper(0, 2, 1, 0);
    for (int i = 2; i < 24; i++) due("stamp(1, 1, 10)", x.stamp(1, 1, 10), i);
    due("stamp(1, 1, 10)", x.stamp(1, 1, 10), FULL);
    due("stamp(2, 1, 10)", x.stamp(2, 1, 10), BAD);
    due("many(4)", x.many(4), 24);
    due("paperOf(1, 5)", x.paperOf(1, 5), 22);
    InquiryBench y = withStamps(0, 100, 0, 110, 0, 120);
    due("behind those that it has: hand(0, 0, true)", y.hand(0, 0, true), 1100);
    due("sent(0, true)", y.sent(0, true), 1120);
  }

  private static void row(InquiryBench x, int sheet, int sort, int size, int... items) {
    x.sheet(sheet, sort, size);
    for (int i = 0; i < items.length; i++) x.put(sheet, i, items[i]);
  }

  private static void stamps() {
    promise = 10;
    InquiryBench x = persons(2);
    x.paper(0, 2, 1, 0);
    x.paper(0, 2, 1, 0);
    row(x, 1, 1, 18, 0, 100, 1, 110, 5, 999, 6, 3, 0, 1000, 0, 0, -1, 3, 0, -1);
    outside("paper", p -> x.stamps(p, 1, 0, 1), -1, 2, BAD);
    outside("sheet", s -> x.stamps(0, s, 0, 1), -1, 4, BAD);
    outside("n", n -> x.stamps(0, 1, 0, n), -1, 10, BAD);
    outside("i", i -> x.stamps(0, 1, i, 1), -1, 17, -12);
    outside("i", i -> x.stamps(0, 1, i, 0), -1, 19, -12);
    due("stamps(0, 1, 18, 0)", x.stamps(0, 1, 18, 0), 0);
    due("stamps(0, 1, 0, 0)", x.stamps(0, 1, 0, 0), 0);
    due("the last items: stamps(0, 1, 16, 1)", x.stamps(0, 1, 16, 1), 1);
    due("stamps(0, 1, 2, 9)", x.stamps(0, 1, 2, 9), -12);
    due("clock 6: stamps(0, 1, 0, 4)", x.stamps(0, 1, 0, 4), STATE);
    due("hour 1000: stamps(0, 1, 8, 1)", x.stamps(0, 1, 8, 1), STATE);
    due("clock -1: stamps(0, 1, 12, 1)", x.stamps(0, 1, 12, 1), STATE);
    due("hour -1: stamps(0, 1, 14, 1)", x.stamps(0, 1, 14, 1), STATE);
    due("hour 1000 of the second: stamps(0, 1, 6, 2)", x.stamps(0, 1, 6, 2), STATE);
    due("all before one wrong: many(4)", x.many(4), 1);
    row(x, 0, 1, 4, 0, 7, 0, 1000);
    due("hour 1000 of the second: stamps(0, 0, 0, 2)", x.stamps(0, 0, 0, 2), STATE);
    x.put(0, 3, 999);
    x.put(0, 2, 6);
    due("clock 6 of the second: stamps(0, 0, 0, 2)", x.stamps(0, 0, 0, 2), STATE);
    due("many(4)", x.many(4), 1);
    due("stamps(1, 1, 0, 2)", x.stamps(1, 1, 0, 2), 3);
    due("sent(1, false)", x.sent(1, false), 1100);
    due("sent(1, true)", x.sent(1, true), 1124);
    due("hand(1, 0, false)", x.hand(1, 0, false), 1100);
    due("stamps(1, 1, 4, 1)", x.stamps(1, 1, 4, 1), 4);
    due("clock 5 read 999: clash(1)", x.clash(1), 2);
    due("paperOf(1, 5)", x.paperOf(1, 5), 3);
    for (int sort : new int[] {0, 2, 3, 4}) {
      x.sheet(2, sort, 4);
      due("a sheet of sort " + sort, x.stamps(0, 2, 0, 1), -13);
      due("a sheet of sort " + sort + ", outside", x.stamps(0, 2, 9, 1), -13);
    }
    x.sheet(2, -1, 0);
    due("a missing sheet", x.stamps(0, 2, 0, 1), -11);
    due("a missing sheet, outside", x.stamps(0, 2, 9, 0), -11);
    row(x, 3, 1, 40, 0, 7);
    due("nine: stamps(0, 3, 0, 9)", x.stamps(0, 3, 0, 9), 13);
    due("nine: stamps(0, 3, 22, 9)", x.stamps(0, 3, 22, 9), 22);
    due("three don't go in", x.stamps(0, 3, 0, 3), FULL);
    due("none came: many(4)", x.many(4), 22);
    due("one isn't as told, ahead of full", x.stamps(0, 1, 6, 3), STATE);
    due("outside, ahead of full", x.stamps(0, 3, 36, 3), -12);
    due("two go in", x.stamps(0, 3, 0, 2), 24);
    due("none go in", x.stamps(0, 3, 0, 0), 24);
    due("one doesn't", x.stamps(0, 3, 0, 1), FULL);
  }

  private static void gap() {
    promise = 11;
    InquiryBench x = withStamps(0, 100, 0, 199);
    outside("gap", x::gap, -1, 100, BAD);
    due("gap(99)", x.gap(99), 24);
    due("clash(0)", x.clash(0), 0);
    due("gap(98)", x.gap(98), 99);
    due("clash(0)", x.clash(0), 1);
    due("gap(0)", x.gap(0), 98);
    due("gap(24)", x.gap(24), 0);
    due("gap(24)", x.gap(24), 24);
    InquiryBench y = withStamps(0, 100, 1, 130);
    y.gap(0);
    due("at once: span(1, false)", y.span(1, false), 1030);
    due("span(1, true)", y.span(1, true), 1030);
    y.gap(7);
    due("span(1, false)", y.span(1, false), 1023);
    due("span(1, true)", y.span(1, true), 1030);
  }

  private static void clashesOn(boolean due, int... stamps) {
    InquiryBench x = withStamps(stamps);
    due("clash(0) on " + java.util.Arrays.toString(stamps), x.clash(0), due ? 1 : 0);
    due("clash(1) on " + java.util.Arrays.toString(stamps), x.clash(1), due ? 1 : 0);
  }

  private static void clash() {
    promise = 12;
    clashesOn(false, 0, 100, 0, 124);
    clashesOn(true, 0, 100, 0, 125);
    clashesOn(false, 1, 100, 1, 100);
    clashesOn(true, 1, 100, 1, 99);
    clashesOn(false, 0, 100, 1, 40);
    clashesOn(true, 0, 100, 1, 39);
    clashesOn(false, 0, 100, 1, 184);
    clashesOn(true, 0, 100, 1, 185);
    clashesOn(false, 1, 500, 2, 644);
    clashesOn(true, 1, 500, 2, 645);
    clashesOn(false, 1, 500, 2, 380);
    clashesOn(true, 1, 500, 2, 379);
    clashesOn(true, 3, 100, 4, 150, 3, 149, 4, 160, 3, 160, 4, 250);
    InquiryBench x = persons(2);
    outside("clash", x::clash, -1, 2, BAD);
    stamped(x, 0, 100, 1, 130);
    due("clock 1 is 6 to 30 ahead: clash(1)", x.clash(1), 0);
    stamped(x, 0, 100, 1, 155);
    due("or 31 to 55: clash(0)", x.clash(0), 1);
    due("of two the least: clash(1)", x.clash(1), 1);
    stamped(x, 0, 300, 1, 340);
    due("that, and one that goes with both: clash(1)", x.clash(1), 1);
    stamped(x, 0, 300, 1, 330);
    due("the second is alone now: clash(1)", x.clash(1), 2);
    stamped(x, 2, 300, 2, 100);
    due("and one that can't be: clash(1)", x.clash(1), 18);
    stamped(x);
    stamped(x, 3, 1);
    due("others say nothing: clash(1)", x.clash(1), 18);
    x.days(1);
    x.lose(1);
    due("clash(1)", x.clash(1), 16);
    x.lose(4);
    due("clash(1)", x.clash(1), 0);
    due("clash(0)", x.clash(0), 0);
    x.view(0, 3);
    due("the day ahead: clash(1)", x.clash(1), 18);
    fewest();
  }

  private static void fewest() {
    InquiryBench x = persons(2);
    stamped(x, 0, 100, 1, 130);
    stamped(x, 0, 100, 2, 130);
    stamped(x, 1, 200, 2, 260);
    due("c1 and c2 are 6 to 30, c2 less c1 36 to 60: clash(1)", x.clash(1), 1);
    stamped(x, 1, 200, 3, 200);
    stamped(x, 0, 200, 3, 230);
    due("c3 holds c1: clash(1)", x.clash(1), 2);
    stamped(x, 0, 200, 2, 215);
    due("c2 too: clash(1)", x.clash(1), 4);
    InquiryBench one = persons(2);
    for (int i = 0; i < 3; i++) stamped(one, 0, 100, 1, i < 2 ? 130 : 155);
    due("one rather than two of less bits: clash(1)", one.clash(1), 4);
    InquiryBench fine = persons(2);
    for (int i = 0; i < 11; i++) stamped(fine, 0, 100, 1 + i % 5, 110 + i);
    stamped(fine, 1, 500, 1, 500);
    due("all twelve are right: clash(1)", fine.clash(1), 0);
    InquiryBench last = persons(2);
    for (int i = 0; i < 11; i++) stamped(last, 0, 100, 1 + i % 5, 110 + i);
    stamped(last, 1, 500, 1, 499);
    due("the twelfth is not: clash(1)", last.clash(1), 2048);
    InquiryBench full = persons(2);
    for (int i = 0; i < 12; i++) stamped(full, 1, 200, 1, 100);
    due("all twelve: clash(1)", full.clash(1), 4095);
    due("shut: view", full.view(-1, 0), 12);
    InquiryBench pairs = persons(2);
    for (int i = 0; i < 12; i++) stamped(pairs, 0, 100, 1 + i % 5, i < 5 ? 110 : 150);
    due("as many on either side: clash(1)", pairs.clash(1), 31);
    InquiryBench unseen = persons(2);
    unseen.paper(0, 2, 1, 1);
    unseen.stamp(0, 0, 100);
    unseen.stamp(0, 0, 99);
    due("paper 0 alone: clash(1)", unseen.clash(1), 1);
    stamped(unseen, 0, 100, 0, 99);
    unseen.view(-1, 0);
    due("paper 0 is not in the view: clash(1)", unseen.clash(1), 2);
  }

  private static void span() {
    promise = 13;
    InquiryBench x = withStamps(0, 100, 1, 130);
    outside("span", c -> x.span(c, true), -1, 6, BAD);
    int[][] want = {{1000, 1000}, {1006, 1030}, {940, 1060}, {940, 1060}, {940, 1060}, {940, 1060}};
    for (int c = 0; c < 6; c++) {
      due("span(" + c + ", false)", x.span(c, false), want[c][0]);
      due("span(" + c + ", true)", x.span(c, true), want[c][1]);
    }
    stamped(x, 1, 200, 2, 190);
    due("c2 is 34 to 10 below c1: span(2, false)", x.span(2, false), 972);
    due("span(2, true)", x.span(2, true), 1020);
    stamped(x, 0, 500, 2, 480);
    due("c2 is -44 to -20: span(2, false)", x.span(2, false), 972);
    due("span(2, true)", x.span(2, true), 980);
    due("span(1, false)", x.span(1, false), 1006);
    due("span(1, true)", x.span(1, true), 1014);
    stamped(x, 2, 200, 2, 100);
    due("they clash: span(0, true)", x.span(0, true), STATE);
    due("span(5, false)", x.span(5, false), STATE);
    due("span(6, false)", x.span(6, false), BAD);
    InquiryBench low = withStamps(0, 100, 5, 40);
    due("span(5, false)", low.span(5, false), 940);
    due("span(5, true)", low.span(5, true), 940);
    InquiryBench wide = withStamps(3, 500, 4, 620);
    due("c4 is 96 to 120 above c3: span(3, false)", wide.span(3, false), 940);
    due("span(3, true)", wide.span(3, true), 964);
    due("span(4, false)", wide.span(4, false), 1036);
    due("span(4, true)", wide.span(4, true), 1060);
    wide.days(1);
    wide.lose(0);
    due("none is in the view: span(3, true)", wide.span(3, true), 1060);
  }

  private static void sent() {
    promise = 14;
    InquiryBench x = withStamps(0, 100, 1, 130);
    stamped(x, 1, 205);
    stamped(x);
    x.paper(0, 2, 1, 2);
    x.stamp(3, 2, 10);
    outside("sent", p -> x.sent(p, true), -1, 4, BAD);
    due("sent(0, false)", x.sent(0, false), 1100);
    due("sent(0, true)", x.sent(0, true), 1124);
    due("c1 is 6 to 30: sent(1, false)", x.sent(1, false), 1175);
    due("sent(1, true)", x.sent(1, true), 1199);
    due("no stamps: sent(2, true)", x.sent(2, true), NONE);
    due("below 0: sent(3, false)", x.sent(3, false), 950);
    due("sent(3, true)", x.sent(3, true), 1070);
    x.view(-1, 1);
    due("not in the view: sent(3, true)", x.sent(3, true), NONE);
    due("sent(1, true)", x.sent(1, true), 1199);
    x.stamp(1, 1, 204);
    due("they clash: sent(1, true)", x.sent(1, true), NONE);
    due("sent(0, true)", x.sent(0, true), NONE);
    due("sent(4, true)", x.sent(4, true), BAD);
  }

  private static void hand() {
    promise = 15;
    InquiryBench x = persons(4);
    x.paper(1, 6, 1, 0);
    x.stamp(0, 0, 300);
    x.stamp(0, 1, 330);
    x.stamp(0, 1, 335);
    outside("paper", p -> x.hand(p, 1, true), -1, 1, BAD);
    outside("person", p -> x.hand(0, p, true), -1, 4, BAD);
    due("who made it, from the first stamp: hand(0, 1, false)", x.hand(0, 1, false), 1300);
    due("and not slowly: hand(0, 1, true)", x.hand(0, 1, true), 1300);
    due("to them, from the last stamp: hand(0, 2, false)", x.hand(0, 2, false), 1305);
    due("and 20 slow: hand(0, 2, true)", x.hand(0, 2, true), 1349);
    due("others: hand(0, 0, true)", x.hand(0, 0, true), NONE);
    due("hand(0, 3, false)", x.hand(0, 3, false), NONE);
    x.paper(2, 8, 0, 1);
    due("no stamps: hand(1, 3, true)", x.hand(1, 3, true), NONE);
    due("hand(1, 2, true)", x.hand(1, 2, true), NONE);
    x.stamp(1, 2, 500);
    due("hand(1, 3, true)", x.hand(1, 3, true), 1590);
    due("hand(1, 3, false)", x.hand(1, 3, false), 1440);
    due("hand(1, 2, false)", x.hand(1, 2, false), 1440);
    due("hand(1, 2, true)", x.hand(1, 2, true), 1560);
    x.view(-1, 0);
    due("shut: hand(1, 3, true)", x.hand(1, 3, true), NONE);
    x.stamp(0, 1, 200);
    due("they clash: hand(0, 1, true)", x.hand(0, 1, true), NONE);
  }

  private static void before() {
    promise = 16;
    InquiryBench x = persons(2);
    stamped(x, 0, 300);
    stamped(x, 1, 300);
    stamped(x, 1, 360);
    stamped(x, 1, 361);
    stamped(x, 1, 240);
    stamped(x, 1, 241);
    stamped(x);
    stamped(x, 1, 300);
    outside("paper", p -> x.before(p, 0), -1, 8, BAD);
    outside("other", p -> x.before(0, p), -1, 8, BAD);
    due("before(0, 0)", x.before(0, 0), BAD);
    due("before(6, 6)", x.before(6, 6), BAD);
    due("before(0, 1)", x.before(0, 1), 1);
    due("before(1, 0)", x.before(1, 0), 1);
    due("never below 300: before(0, 2)", x.before(0, 2), 1);
    due("before(2, 0)", x.before(2, 0), 0);
    due("always above: before(0, 3)", x.before(0, 3), 2);
    due("before(3, 0)", x.before(3, 0), 0);
    due("never above: before(0, 4)", x.before(0, 4), 0);
    due("before(4, 0)", x.before(4, 0), 1);
    due("before(5, 0)", x.before(5, 0), 1);
    due("before(0, 5)", x.before(0, 5), 1);
    due("one clock: before(2, 3)", x.before(2, 3), 2);
    due("before(3, 2)", x.before(3, 2), 0);
    due("the same hour: before(1, 7)", x.before(1, 7), 0);
    due("before(7, 1)", x.before(7, 1), 0);
    due("no stamps: before(0, 6)", x.before(0, 6), NONE);
    due("before(6, 0)", x.before(6, 0), NONE);
    x.days(1);
    x.lose(4);
    due("lost: before(4, 0)", x.before(4, 0), NONE);
    due("before(0, 4)", x.before(0, 4), NONE);
    InquiryBench twelve = persons(2);
    for (int i = 0; i < 12; i++) stamped(twelve, i % 6, 300 + 30 * i);
    due("the last paper: before(10, 11)", twelve.before(10, 11), 1);
    due("before(5, 11)", twelve.before(5, 11), 2);
    due("before(11, 5)", twelve.before(11, 5), 0);
    due("sent(11, false)", twelve.sent(11, false), 1570);
    due("hand(11, 1, true)", twelve.hand(11, 1, true), 1700);
    due("90 hours by two clocks that may be 120 apart: before(8, 11)", twelve.before(8, 11), 1);
    due("before(11, 8)", twelve.before(11, 8), 1);
    InquiryBench two = persons(2);
    stamped(two, 1, 300, 2, 300);
    stamped(two, 1, 320);
    due("300 on clock 2 is 0 to 24 behind 300 on clock 1: before(0, 1)", two.before(0, 1), 1);
    stamped(two, 1, 325);
    due("before(0, 2)", two.before(0, 2), 2);
    stamped(two, 1, 300);
    due("before(0, 3)", two.before(0, 3), 0);
    due("before(3, 0)", two.before(3, 0), 1);
    stamped(two, 2, 100, 2, 90);
    due("they clash: before(0, 1)", two.before(0, 1), NONE);
  }

  private static void knew() {
    promise = 17;
    InquiryBench x = persons(3);
    x.paper(0, 6, 3, 0);
    x.stamp(0, 1, 200);
    x.paper(0, 6, 1, 1);
    x.stamp(1, 0, 220);
    x.paper(2, 0, 128, 0);
    outside("person", p -> x.knew(p, 0, 0), -1, 3, BAD);
    outside("thing", t -> x.knew(0, t, 0), -1, 8, BAD);
    outside("way", w -> x.knew(0, 0, w), -1, 3, BAD);
    due("paper 1 at the latest: knew(1, 0, 0)", x.knew(1, 0, 0), 1230);
    due("paper 0 at the earliest: knew(1, 0, 1)", x.knew(1, 0, 1), 1140);
    due("knew(1, 0, 2)", x.knew(1, 0, 2), 1230);
    due("knew(1, 1, 0)", x.knew(1, 1, 0), 1270);
    due("who made them: knew(0, 0, 0)", x.knew(0, 0, 0), 1220);
    due("slower: knew(2, 0, 0)", x.knew(2, 0, 0), 1240);
    due("no paper tells it: knew(1, 2, 0)", x.knew(1, 2, 0), NONE);
    due("knew(1, 2, 1)", x.knew(1, 2, 1), NONE);
    due("knew(1, 2, 2)", x.knew(1, 2, 2), NONE);
    due("without stamps: knew(2, 7, 0)", x.knew(2, 7, 0), NONE);
    x.view(-1, 0);
    due("without paper 1: knew(1, 0, 0)", x.knew(1, 0, 0), 1270);
    x.view(-1, 3);
    x.stamp(2, 3, 9);
    due("below 0: knew(2, 7, 1)", x.knew(2, 7, 1), 949);
    due("knew(1, 7, 1)", x.knew(1, 7, 1), NONE);
    should();
    conds();
    facts();
    longTexts();
    shouldLoops();
  }

  private static void should() {
    InquiryBench x = persons(3);
    stamped(x, 0, 200);
    x.paper(2, 2, 0, 0);
    reads(x, "taken 10 of 1 from 0; taken 5 of 2 from 1 if post = 1; ask 3 by 50 if made > 0; taken 0 of 4 from 3;", 0);
    due("sure, with slow: knew(1, 0, 2)", x.knew(1, 0, 2), 1210);
    due("knew(1, 1, 2)", x.knew(1, 1, 2), 1220);
    due("knew(1, 2, 2)", x.knew(1, 2, 2), 1225);
    due("sure is another way: knew(1, 1, 0)", x.knew(1, 1, 0), NONE);
    due("knew(1, 1, 1)", x.knew(1, 1, 1), NONE);
    due("another post: knew(0, 2, 2)", x.knew(0, 2, 2), NONE);
    due("knew(0, 1, 2)", x.knew(0, 1, 2), 1210);
    due("made one: knew(0, 3, 2)", x.knew(0, 3, 2), 1050);
    due("knew(0, 4, 2)", x.knew(0, 4, 2), 1050);
    due("made none: knew(1, 3, 2)", x.knew(1, 3, 2), NONE);
    due("knew(1, 4, 2)", x.knew(1, 4, 2), NONE);
    reads(x, "ask 0 by 211; ask 1 by 209;", 1);
    due("sure is less: knew(1, 0, 2)", x.knew(1, 0, 2), 1210);
    due("knew(2, 0, 2)", x.knew(2, 0, 2), 1211);
    due("knew(1, 1, 2)", x.knew(1, 1, 2), 1209);
    x.days(1);
    reads(x, "ask 5 by 999;", 2);
    due("the latest rules: knew(0, 5, 2)", x.knew(0, 5, 2), 1999);
    due("knew(0, 1, 2)", x.knew(0, 1, 2), NONE);
    x.view(0, 3);
    due("the latest ahead: knew(0, 1, 2)", x.knew(0, 1, 2), 1209);
    due("knew(0, 5, 2)", x.knew(0, 5, 2), NONE);
    x.view(-1, 3);
    reads(x, "", 3);
    due("an empty text: knew(0, 5, 2)", x.knew(0, 5, 2), NONE);
    reads(x, "ask 5 by 8", -110);
    due("a fault makes none: knew(0, 5, 2)", x.knew(0, 5, 2), NONE);
    String[] holds = {"person = 1", "post=1", "had = 2", "made=0", "slow = 10", "slow<11", "slow > 9", "not slow > 10", "not not had>1",
      "had<1 or had>1", "made<1 and post=1 or post=2", "post=2 or made<1 and post=1", "not (post=2 or had=1)", "not post=2 and had=2",
      "person < 2", "not person < 1", "not person < 0", "not slow > 999", "person > 0", "not person > 1", "not post = 0", "(had=2 or had=1) and post=1",
      "((post=0 or post=1) and (had=1 or had=2)) or slow=9", "not (not (not (not post=1)))", "post=1 or post=1 and post=2 and post=3",
      "not post=1 or not post=2"};
    InquiryBench y = null;
    for (int i = 0; i < holds.length; i++) {
      if (i % 4 == 0) y = persons(3);
      if (i % 4 == 0) stamped(y, 0, 200);
      if (i % 4 == 0) y.paper(2, 3, 0, 0);
      reads(y, "ask 7 by 7 if " + holds[i] + ";", 2 * (i % 4));
      due(holds[i], y.knew(1, 7, 2), 1007);
      reads(y, "ask 7 by 7 if not (" + holds[i] + ");", 2 * (i % 4) + 1);
      due("not " + holds[i], y.knew(1, 7, 2), NONE);
    }
  }

  /** All truths of three facts: not before and, and before or, each ahead of what stands in it. */
  private static void conds() {
    String[] conds = {"A and B", "A or B", "A and B and C", "A or B or C", "A and B or C", "A or B and C", "A and (B or C)", "(A or B) and C",
      "not A and B", "not (A and B)", "not A or B", "not (A or B)", "A and not B or C", "A or not B and not C", "not (A or B) and C"};
    for (int truth = 0; truth < 8; truth++) {
      InquiryBench x = persons(1);
      boolean a = (truth & 1) == 1, b = (truth & 2) == 2, c = (truth & 4) == 4;
      boolean[] want = {a && b, a || b, a && b && c, a || b || c, a && b || c, a || b && c, a && (b || c), (a || b) && c,
        !a && b, !(a && b), !a || b, !(a || b), a && !b || c, a || !b && !c, !(a || b) && c};
      x.keep();
      for (int i = 0; i < conds.length; i++) {
        String cond = conds[i].replace("A", a ? "post=0" : "post>0").replace("B", b ? "had<1" : "had=1").replace("C", c ? "slow<9" : "slow>9");
        reads(x, "ask 0 by 5 if " + cond + ";", 0);
        due(cond + ": knew(0, 0, 2)", x.knew(0, 0, 2), want[i] ? 1005 : NONE);
        x.again();
      }
    }
  }

  /** Each fact by itself, of a person in whom all are unlike. */
  private static void facts() {
    InquiryBench x = persons(1);
    x.person(4, 5);
    x.paper(0, 2, 0, 0);
    x.paper(0, 2, 0, 0);
    for (int i = 0; i < 3; i++) x.paper(1, 1, 0, 0);
    String[] facts = {"person", "post", "had", "made", "slow"};
    int[] are = {1, 4, 2, 3, 5};
    x.keep();
    for (int f = 0; f < 5; f++) {
      reads(x, "ask 1 by 1 if " + facts[f] + "=" + are[f] + "; ask 2 by 2 if " + facts[f] + "<" + are[f] + "; ask 3 by 3 if " + facts[f] + " < " + (are[f] + 1)
          + "; ask 4 by 4 if " + facts[f] + ">" + are[f] + "; ask 5 by 5 if " + facts[f] + " > " + (are[f] - 1) + ";", 0);
      int[] want = {NONE, 1001, NONE, 1003, NONE, 1005, NONE, NONE};
      for (int t = 0; t < 8; t++) due(facts[f] + ": knew(1, " + t + ", 2)", x.knew(1, t, 2), want[t]);
      x.again();
    }
  }

  /** As many comparisons as a tape can hold, again and again. */
  private static void longTexts() {
    InquiryBench x = persons(2);
    stamped(x, 0, 200);
    String cond = " if" + " had=9 or".repeat(24) + " had=1";
    for (int i = 0; i < 5; i++) reads(x, "ask 1 by 1" + cond, -335);
    for (int i = 0; i < 8; i++) {
      reads(x, "ask 1 by " + (i + 1) + cond + ";", i);
      due("the last comparison holds: knew(1, 1, 2)", x.knew(1, 1, 2), 1001 + i);
      due("none holds: knew(0, 1, 2)", x.knew(0, 1, 2), NONE);
      x.days(1);
    }
    for (int i = 0; i < 8; i++) {
      x.view(i, 3);
      due("rules of day " + i + ": knew(1, 1, 2)", x.knew(1, 1, 2), 1001 + i);
      due("line(" + i + ", 0, 2)", x.line(i, 0, 2), 1 + i);
    }
  }

  private static void shouldLoops() {
    InquiryBench x = persons(2);
    stamped(x, 0, 200);
    reads(x, "taken 1 of 7 from 6;taken 1 of 6 from 5;taken 1 of 5 from 4;taken 1 of 4 from 3;taken 1 of 3 from 2;"
        + "taken 1 of 2 from 1;taken 1 of 1 from 0;taken 99 of 0 from 7;ask 0 by 150;", 0);
    for (int t = 0; t < 8; t++) due("all lines on: knew(0, " + t + ", 2)", x.knew(0, t, 2), 1150 + t);
    reads(x, "taken 1 of 1 from 2;taken 1 of 2 from 1;taken 0 of 3 from 3;", 1);
    due("nothing to start from: knew(0, 1, 2)", x.knew(0, 1, 2), NONE);
    due("knew(0, 3, 2)", x.knew(0, 3, 2), NONE);
    reads(x, "ask 0 by 300 if had=2; ask 0 by 301 if had=1; ask 0 by 302 if made = 2;", 2);
    due("knew(1, 0, 2)", x.knew(1, 0, 2), 1210);
    x.paper(1, 0, 0, 3);
    x.paper(1, 2, 0, 3);
    x.lose(0);
    due("had one: knew(1, 0, 2)", x.knew(1, 0, 2), 1301);
    x.view(-1, 2);
    due("had and made none in the view: knew(1, 0, 2)", x.knew(1, 0, 2), NONE);
    x.view(-1, 3);
    x.paper(1, 2, 0, 0);
    due("had two: knew(1, 0, 2)", x.knew(1, 0, 2), 1300);
    x.view(-1, 0);
    due("had one in the view: knew(1, 0, 2)", x.knew(1, 0, 2), 1301);
  }

  private static void feed() {
    promise = 18;
    InquiryBench x = new InquiryBench();
    outside("feed", n -> x.feed(0L, n), 0, 9, BAD);
    due("many(13)", x.many(13), 0);
    due("feed(-1, 1)", x.feed(-1L, 1), 1);
    due("byte 255 can't stand there: read()", x.read(), -100);
    due("the lowest comes first: feed", x.feed(0x3b39L << 8 | 0x20, 2), 2);
    due("' 9': read()", x.read(), -101);
    long hear = 'h' | 'e' << 8 | 'a' << 16 | (long) 'r' << 24 | (long) 'd' << 32 | (long) ' ' << 40 | (long) '9' << 48 | (long) ';' << 56;
    due("'heard 9;'", x.feed(hear, 8), 8);
    due("read()", x.read(), 0);
    due("line(0, 0, 1)", x.line(0, 0, 1), 9);
    due("'heard 9' without the end", x.feed(hear, 7), 7);
    due("read()", x.read(), -107);
    for (int i = 1; i < 30; i++) due("feed(blanks, 8)", x.feed(0x2020202020202020L, 8), 8 * i);
    due("feed(blank, 1)", x.feed(0x20L, 1), 233);
    due("241: feed(blanks, 8)", x.feed(0x2020202020202020L, 8), FULL);
    due("feed(blanks, 9)", x.feed(0x2020202020202020L, 9), BAD);
    due("many(13)", x.many(13), 233);
    due("240: feed", x.feed(hear >> 16, 6), 239);
    due("feed", x.feed(';', 1), 240);
    due("feed(0, 1)", x.feed(0L, 1), FULL);
    due("'ard 9;;' behind 233 blanks: read()", x.read(), -333);
    due("many(13)", x.many(13), 0);
  }

  private static void read() {
    promise = 19;
    InquiryBench x = new InquiryBench();
    due("an empty text: read()", x.read(), 0);
    reads(x, "   ", 1);
    reads(x, "taken 99 of 7 from 7;warn 99;ask 7 by 999;heard 9;", 2);
    reads(x, " taken  0 of 00 from 000 if  not( not post<0 and(made>999)or slow=048 ) ; ", 3);
    String[] ends = {"taken", "taken 5", "taken 5 of", "taken 5 of 1", "taken 5 of 1 from", "taken 5 of 1 from 0", "warn", "warn 4", "ask", "ask 1",
      "ask 1 by", "ask 1 by 2", "heard", "heard 1", "warn 1 if", "warn 1 if not", "warn 1 if post", "warn 1 if post <", "warn 1 if post < 1",
      "warn 1 if (", "warn 1 if (post<1", "warn 1 if (post<1)", "warn 1 if post<1 and", "warn 1 if post<1 or", "warn 1 if post<1 or ((("};
    for (String end : ends) faulty(end, end.length());
    for (String end : ends) faulty(end + "  ", end.length() + 2);
    // At the sign ! stands what can't stand there, and is the last.
    String[] faults = {"!5", "!;", "!if", "!takenx 5", "!take 5", "!Taken", "!\t", "taken !of", "taken !;", "taken !100 of 1 from 1;",
      "taken !1000", "taken !0005", "taken 5 !from", "taken 5 !5", "taken 5 of !8 from 0;", "taken 5 of !x", "taken 5 of 1 !of", "taken 5 of 1 from !8;",
      "taken 5 of 1 from 0 !and", "taken 5 of 1 from 0 !taken", "warn !100;", "warn !-1;", "warn 5 !5", "warn 5 !or", "ask !8 by 1;", "ask 7 !of", "ask 7 by !1000;",
      "ask 1 by 1 !by", "heard !10;", "heard 1 !if post=1;", "heard 1 !heard", "warn 1 if !if", "warn 1 if !5", "warn 1 if !;", "warn 1 if !)", "warn 1 if !posts",
      "warn 1 if !and", "warn 1 if not !or", "warn 1 if post !post", "warn 1 if post !!", "warn 1 if post !(", "warn 1 if post <!=", "warn 1 if post <!post", "warn 1 if post <!1000;",
      "warn 1 if post<1 !not", "warn 1 if post<1 !)", "warn 1 if post<1!,", "warn 1 if post<1 !if", "warn 1 if post<1 !post", "warn 1 if (post<1!;", "warn 1 if (!)",
      "warn 1 if ((((!(post=1)))));", "warn 1 if (post=1) and (((post=2 or (!(post=1)))));", "warn 1 if not(not(not(not(not !;", "warn 1 if not(not(not(not(not !(post=1)))));", "warn 1;!;", "warn 1; !1",
      "taken 5 !warn 5; 5", "taken !heard 5 x", "ask 1 by !heard 5 x", "warn 1 if !heard 5; x", "warn 1 if not !ask 5", "warn 1 if post !warn 3 3",
      "warn 1 if (post<1 !heard 2 2", "warn 1 if (post<1 and !) x", "warn 1 if (post<1 or !) x", "warn 1 if ((!) x", "warn 1 if (post<1 and (!) x", "warn !;;;",
      "!xaken 5 of 1 from 0;", "!xarn 5;", "!xsk 1 by 1;", "!xeard 5;", "warn 1 !xf post=1;", "taken 5 !xf 1 from 0;", "taken 5 of 1 !xrom 0;",
      "ask 1 !xy 5;", "warn 1 if !xost=1;", "warn 1 if !poxt=1;", "warn 1 if post=1 !xr post=1;", "warn 1 if post=1 !xnd post=1;", "warn 1 if !xot post=1;",
      "taken !a of 1 from 0;", "taken 5 of !a from 0;", "ask !a by 1;", "ask 1 by !a;", "warn !a;", "warn 1 if post=!a;", "heard !a;", "!7 5;", "warn 1 if !7=1;",
      "warn 1;!" + (char) 200, "warn 1;!" + (char) 0};
    for (String fault : faults) {
      int place = fault.indexOf('!');
      String text = fault.substring(0, place) + fault.substring(place + 1);
      faulty(text, place);
    }
    reads(x, "warn", -104);
    due("no version came: many(5)", x.many(5), 4);
    reads(x, "warn 1;warn 1;warn 1;warn 1;warn 1;warn 1;warn 1;warn 1;warn 1;", 4);
    reads(x, "warn 1;warn 1;warn 1;warn 1;warn 1;warn 1;warn 1;warn 1;warn 1; warn 1;", -164);
    reads(x, "warn 1;warn 1;warn 1;warn 1;warn 1;warn 1;warn 1;warn 1;warn 1;  5", -165);
    reads(x, "warn1if((((post<1))))and(((not(post<1)or(slow>2))));", 5);
    reads(x, "taken5of1from0;ask3by50if had>0or post=1and not made=2;", 6);
    reads(x, "warn 1 if" + " post<1 or".repeat(22) + " post<1;", 7);
    reads(x, "warn 1;", FULL);
    reads(x, "warn 1", -106);
    reads(x, "", FULL);
    due("many(5)", x.many(5), 8);
    due("line(7, 0, 4)", x.line(7, 0, 4), 1);
  }

  private static void faulty(String text, int place) {
    InquiryBench x = new InquiryBench();
    reads(x, text, -100 - place);
    due("no version came: many(5)", x.many(5), 0);
  }

  private static void line() {
    promise = 20;
    InquiryBench x = new InquiryBench();
    reads(x, "", 0);
    reads(x, "taken 12 of 3 from 4 if post=1; warn 34; ask 5 by 678; heard 9; taken 1 of 1 from 1; warn 1 if slow>1; ask 2 by 3 if not had=3;", 1);
    reads(x, "heard 4;", 2);
    int[][] want = {{0, 12, 3, 4, 1}, {1, 34, -9, -9, 0}, {2, 5, 678, -9, 0}, {3, 9, -9, -9, 0}, {0, 1, 1, 1, 0}, {1, 1, -9, -9, 1}, {2, 2, 3, -9, 1}};
    for (int i = 0; i < want.length; i++) for (int w = 0; w < 5; w++) due("line(1, " + i + ", " + w + ")", x.line(1, i, w), want[i][w]);
    due("line(2, 0, 1)", x.line(2, 0, 1), 4);
    due("no cond: line(2, 0, 4)", x.line(2, 0, 4), 0);
    for (int w = 2; w < 4; w++) due("line(2, 0, " + w + ")", x.line(2, 0, w), NO_ROW);
    due("line(2, 1, 1)", x.line(2, 1, 1), NO_ROW);
    due("line(0, 0, 0)", x.line(0, 0, 0), NO_ROW);
    outside("version", v -> x.line(v, 0, 0), -1, 3, NO_ROW);
    outside("line", i -> x.line(1, i, 0), -1, 7, NO_ROW);
    outside("what", w -> x.line(1, 0, w), -1, 5, NO_ROW);
    x.view(0, 0);
    x.days(1);
    reads(x, "heard 5;", 3);
    due("whatever the view: line(3, 0, 1)", x.line(3, 0, 1), 5);
  }

  private static void why() {
    promise = 21;
    InquiryBench x = persons(3);
    stamped(x, 0, 200);
    reads(x, "warn 1; taken 10 of 1 from 0 if post=0; taken 0 of 1 from 0; ask 1 by 200 if post = 0; ask 2 by 300; taken 5 of 3 from 1; ask 2 by 299;"
        + " ask 0 by 200;", 0);
    outside("person", p -> x.why(p, 0), -1, 3, BAD);
    outside("thing", t -> x.why(0, t), -1, 8, BAD);
    due("the first that tells the hour: why(0, 1)", x.why(0, 1), 2);
    due("why(0, 2)", x.why(0, 2), 6);
    due("why(0, 3)", x.why(0, 3), 5);
    due("sure, though a line tells it: why(0, 0)", x.why(0, 0), NONE);
    due("earlier than sure: why(1, 0)", x.why(1, 0), 7);
    due("why(1, 1)", x.why(1, 1), 2);
    due("no such hour: why(0, 4)", x.why(0, 4), NONE);
    due("why(2, 0)", x.why(2, 0), 7);
    reads(x, "ask 1 by 500 if post=1; ask 1 by 500 if post=0; ask 1 by 500;", 1);
    due("why(0, 1)", x.why(0, 1), 1);
    due("why(1, 1)", x.why(1, 1), 0);
    due("why(2, 1)", x.why(2, 1), 2);
    reads(x, "", 2);
    due("why(0, 1)", x.why(0, 1), NONE);
  }

  private static void saying() {
    promise = 22;
    InquiryBench x = persons(2);
    x.paper(0, 2, 1, 0);
    outside("by", b -> x.saying(b, 0, 0, 11, true, -1), -1, 2, BAD);
    outside("of", o -> x.saying(0, o, 0, 11, true, -1), -1, 2, BAD);
    outside("paper", p -> x.saying(0, 0, p, 11, true, -1), -1, 1, BAD);
    outside("how", h -> x.saying(0, 0, 0, h, true, -1), 0, 10000, BAD);
    outside("how", h -> x.saying(0, 0, 0, h, true, -1), 10, 9990, BAD);
    outside("how", h -> x.saying(0, 0, 0, h, true, -1), -1, 10001, BAD);
    outside("how", h -> x.saying(0, 0, 0, h, true, -1), -9, 10009, BAD);
    outside("how", h -> x.saying(0, 0, 0, h, true, -1), -11, 9990, BAD);
    outside("talk", t -> x.saying(0, 0, 0, 11, true, t), -2, 0, BAD);
    due("many(6)", x.many(6), 0);
    due("saying(1, 0, 0, 9999, true, -1)", x.saying(1, 0, 0, 9999, true, -1), 0);
    due("saying(1, 1, 0, 1, false, 0)", x.saying(1, 1, 0, 1, false, 0), 1);
    outside("talk", t -> x.saying(0, 0, 0, 11, true, t), -2, 2, BAD);
    due("of a talk of a talk: saying", x.saying(0, 0, 0, 11, true, 1), 2);
    for (int i = 3; i < 16; i++) due("saying", x.saying(0, 0, 0, 11, true, -1), i);
    due("saying", x.saying(0, 0, 0, 11, true, -1), FULL);
    due("saying", x.saying(0, 0, 0, 10, true, -1), BAD);
    due("many(6)", x.many(6), 16);
    due("many(7)", x.many(7), 14);
  }

  private static void quarrel() {
    promise = 23;
    InquiryBench x = persons(3);
    stamped(x, 1, 500);
    outside("person", p -> x.quarrel(p, 0, 0), -1, 3, BAD);
    outside("paper", p -> x.quarrel(0, p, 0), -1, 1, BAD);
    outside("what", w -> x.quarrel(0, 0, w), -1, 2, BAD);
    due("nothing against: quarrel(1, 0, 0)", x.quarrel(1, 0, 0), 0);
    due("in hand from 440 to 570: quarrel(1, 0, 1)", x.quarrel(1, 0, 1), 1440);
    x.saying(0, 1, 0, 4505, false, -1);
    due("not by 450: quarrel(1, 0, 0)", x.quarrel(1, 0, 0), 0);
    due("quarrel(1, 0, 1)", x.quarrel(1, 0, 1), 1451);
    x.saying(2, 1, 0, 4503, true, -1);
    due("by 450: quarrel(1, 0, 0)", x.quarrel(1, 0, 0), 3);
    due("quarrel(1, 0, 1)", x.quarrel(1, 0, 1), 1451);
    x.saying(1, 1, 0, 5702, false, -1);
    due("not by 570: quarrel(1, 0, 0)", x.quarrel(1, 0, 0), 5);
    due("quarrel(1, 0, 1)", x.quarrel(1, 0, 1), 1451);
    x.saying(1, 1, 0, 5009, true, 0);
    x.saying(1, 0, 0, 4009, true, -1);
    due("of a talk, of another: quarrel(1, 0, 0)", x.quarrel(1, 0, 0), 5);
    due("the maker, not slow: quarrel(0, 0, 0)", x.quarrel(0, 0, 0), 9);
    due("quarrel(0, 0, 1)", x.quarrel(0, 0, 1), 1440);
    x.saying(1, 1, 0, 4604, false, -1);
    due("by 450 or not by 460: quarrel(1, 0, 0)", x.quarrel(1, 0, 0), 5);
    due("quarrel(1, 0, 1)", x.quarrel(1, 0, 1), 1461);
    others();
  }

  private static void others() {
    InquiryBench x = persons(3);
    stamped(x, 1, 500);
    x.paper(0, 2, 1, 2);
    due("not to them: quarrel(2, 0, 1)", x.quarrel(2, 0, 1), 1000);
    x.saying(0, 2, 0, 9991, false, -1);
    due("never: quarrel(2, 0, 0)", x.quarrel(2, 0, 0), 0);
    due("quarrel(2, 0, 1)", x.quarrel(2, 0, 1), 2000);
    x.saying(0, 2, 0, 1, true, -1);
    due("or at 0: quarrel(2, 0, 0)", x.quarrel(2, 0, 0), 1);
    due("quarrel(2, 0, 1)", x.quarrel(2, 0, 1), 1000);
    x.saying(0, 1, 1, 3002, false, -1);
    due("no stamps: quarrel(1, 1, 0)", x.quarrel(1, 1, 0), 0);
    due("quarrel(1, 1, 1)", x.quarrel(1, 1, 1), 1301);
    x.view(-1, 1);
    due("not in the view: quarrel(1, 1, 0)", x.quarrel(1, 1, 0), NONE);
    due("quarrel(1, 1, 2)", x.quarrel(1, 1, 2), BAD);
    x.view(-1, 3);
    x.days(1);
    x.saying(0, 1, 1, 3004, true, -1);
    due("quarrel(1, 1, 0)", x.quarrel(1, 1, 0), 2);
    x.view(0, 3);
    due("not told yet: quarrel(1, 1, 0)", x.quarrel(1, 1, 0), 0);
    InquiryBench low = withStamps(1, 10);
    due("in hand from -50: quarrel(1, 0, 1)", low.quarrel(1, 0, 1), 950);
    low.saying(0, 1, 0, 1, false, -1);
    due("quarrel(1, 0, 1)", low.quarrel(1, 0, 1), 1001);
    InquiryBench just = withStamps(0, 300);
    just.saying(0, 0, 0, 3001, true, -1);
    due("by the hour itself: quarrel(0, 0, 0)", just.quarrel(0, 0, 0), 0);
    just.saying(0, 0, 0, 2992, true, -1);
    due("by the hour ahead: quarrel(0, 0, 0)", just.quarrel(0, 0, 0), 2);
    just.saying(0, 0, 0, 2994, false, -1);
    due("not by the hour ahead: quarrel(0, 0, 0)", just.quarrel(0, 0, 0), 2);
    just.saying(0, 0, 0, 3008, false, -1);
    due("not by the hour itself: quarrel(0, 0, 0)", just.quarrel(0, 0, 0), 10);
  }

  private static void impossible() {
    promise = 24;
    InquiryBench x = persons(3);
    stamped(x, 1, 500);
    x.paper(0, 2, 1, 2);
    int[][] says = {{4391, 1, 1}, {4401, 0, 0}, {5691, 0, 0}, {5701, 0, 1}, {9991, 0, 1}, {1, 1, 1}, {5701, 1, 0}};
    int want = 0;
    for (int i = 0; i < says.length; i++) {
      x.saying(0, 1, 0, says[i][0], says[i][1] == 1, -1);
      want |= says[i][2] << i;
      due("impossible() with saying " + i, x.impossible(), want);
    }
    x.saying(0, 1, 0, 11, true, 0);
    due("of a talk: impossible()", x.impossible(), want);
    x.saying(0, 2, 0, 1, true, -1);
    x.saying(0, 2, 0, 9991, false, -1);
    due("not to them: impossible()", x.impossible(), want);
    x.stamp(1, 0, 10);
    x.saying(0, 0, 1, 91, true, -1);
    x.saying(0, 0, 1, 101, true, -1);
    due("impossible()", x.impossible(), want | 1 << 10);
    x.view(-1, 1);
    due("not in the view: impossible()", x.impossible(), want);
    x.view(-1, 3);
    x.days(1);
    x.saying(0, 0, 1, 91, true, -1);
    due("impossible()", x.impossible(), want | 5 << 10);
    x.view(0, 3);
    due("not told yet: impossible()", x.impossible(), want | 1 << 10);
    x.stamp(1, 0, 1);
    due("they clash: impossible()", x.impossible(), 0);
  }

  private static void finding() {
    promise = 25;
    InquiryBench x = persons(2);
    outside("person", p -> x.finding(p, 0, 0, 0), -1, 2, BAD);
    outside("thing", t -> x.finding(0, t, 0, 0), -1, 8, BAD);
    outside("hour", h -> x.finding(0, 0, h, 0), -1, 1000, BAD);
    outside("way", w -> x.finding(0, 0, 0, w), -1, 3, BAD);
    due("many(8)", x.many(8), 0);
    due("finding(1, 7, 999, 2)", x.finding(1, 7, 999, 2), 0);
    int[] want = {1, 7, 999, 2, 0, 0, 0};
    for (int w = 0; w < 7; w++) due("findingOf(0, " + w + ")", x.findingOf(0, w), want[w]);
    for (int i = 1; i < 12; i++) due("finding(0, 0, 0, 0)", x.finding(0, 0, 0, 0), i);
    due("finding(0, 0, 0, 0)", x.finding(0, 0, 0, 0), FULL);
    due("finding(0, 0, 0, 3)", x.finding(0, 0, 0, 3), BAD);
    due("many(8)", x.many(8), 12);
  }

  /** What is told of a finding: whether it stands, on what it leans, and whether it is barred. */
  private static void finds(InquiryBench x, int finding, int stands, int leans, int barred) {
    due("findingOf(" + finding + ", 4)", x.findingOf(finding, 4), stands);
    due("findingOf(" + finding + ", 5)", x.findingOf(finding, 5), leans);
    due("findingOf(" + finding + ", 6)", x.findingOf(finding, 6), barred);
  }

  private static void findingOf() {
    promise = 26;
    InquiryBench x = persons(2);
    stamped(x, 1, 300);
    x.finding(1, 0, 369, 0);
    x.finding(1, 0, 370, 0);
    x.finding(1, 0, 239, 1);
    x.finding(1, 0, 240, 1);
    x.finding(1, 0, 370, 2);
    x.finding(0, 0, 360, 0);
    x.finding(0, 1, 999, 1);
    outside("finding", f -> x.findingOf(f, 0), -1, 7, BAD);
    outside("what", w -> x.findingOf(0, w), -1, 7, BAD);
    int[] stands = {0, 1, 0, 1, 1, 1, 0};
    for (int f = 0; f < 7; f++) finds(x, f, stands[f], stands[f], stands[f]);
    x.paper(0, 2, 1, 1);
    x.stamp(1, 0, 360);
    for (int f = 0; f < 6; f++) due("findingOf(" + f + ", 4)", x.findingOf(f, 4), stands[f]);
    finds(x, 1, 1, 0, 0);
    finds(x, 3, 1, 1, 1);
    x.view(-1, 0);
    finds(x, 1, 1, 1, 1);
    x.view(-1, 3);
    x.paper(0, 2, 0, 0);
    x.stamp(2, 0, 100);
    x.stamp(2, 1, 124);
    x.stamp(2, 0, 100);
    finds(x, 0, 1, 5, 1);
    due("paper 2 tells nothing, but sets the clock: findingOf(2, 4)", x.findingOf(2, 4), 0);
    due("clock 1 is 24 ahead: sent(0, true)", x.sent(0, true), 1276);
    finds(x, 3, 0, 0, 0);
    x.stamp(2, 0, 200);
    for (int f = 0; f < 6; f++) finds(x, f, 0, 0, 0);
    due("they clash: many(9)", x.many(9), 0);
    leansByRules();
    warned();
    heard();
    heardLater();
    firstLines();
  }

  private static void firstLines() {
    InquiryBench x = persons(2);
    stamped(x, 0, 300);
    x.finding(1, 0, 310, 0);
    x.warn(1, 0);
    due("findingOf(0, 6)", x.findingOf(0, 6), 0);
    reads(x, "warn 1;", 0);
    due("today is too late: findingOf(0, 6)", x.findingOf(0, 6), 1);
    x.days(1);
    due("a day ahead: findingOf(0, 6)", x.findingOf(0, 6), 0);
    reads(x, "heard 1;", 1);
    due("none was heard: findingOf(0, 6)", x.findingOf(0, 6), 1);
    x.saying(1, 0, 0, 11, true, -1);
    due("one was: findingOf(0, 6)", x.findingOf(0, 6), 0);
    reads(x, "warn 99; heard 1;", 2);
    x.days(98);
    due("99 days ahead: findingOf(0, 6)", x.findingOf(0, 6), 0);
    x.view(98, 3);
    due("98 days ahead: findingOf(0, 6)", x.findingOf(0, 6), 1);
    x.view(-1, 3);
    x.lose(0);
    due("findingOf(0, 5)", x.findingOf(0, 5), 0);
    due("leans on none, but none was heard: findingOf(0, 6)", x.findingOf(0, 6), 1);
  }

  /** The version that comes next, and its first line, say nothing yet. */
  private static void heardLater() {
    InquiryBench x = persons(2);
    stamped(x, 0, 300);
    x.finding(1, 0, 310, 0);
    x.warn(1, 0);
    reads(x, "warn 0;", 0);
    x.days(1);
    reads(x, "heard 1;", 1);
    due("heard 1: findingOf(0, 6)", x.findingOf(0, 6), 1);
    x.view(0, 3);
    due("not yet: findingOf(0, 6)", x.findingOf(0, 6), 0);
    InquiryBench none = persons(1);
    none.paper(0, 0, 1, 0);
    none.stamp(0, 0, 5);
    none.finding(0, 0, 5, 0);
    none.warn(0, 0);
    due("without rules, warned today: findingOf(0, 6)", none.findingOf(0, 6), 0);
  }

  private static void leansByRules() {
    InquiryBench x = persons(2);
    stamped(x, 0, 300);
    x.paper(0, 2, 0, 0);
    reads(x, "ask 1 by 100 if had > 1; ask 2 by 100; taken 1 of 3 from 0; ask 4 by 100 if had = 1 or had = 2;", 0);
    x.finding(1, 1, 100, 2);
    x.finding(1, 2, 100, 2);
    x.finding(1, 3, 311, 2);
    x.finding(1, 4, 100, 2);
    x.finding(1, 1, 99, 2);
    x.finding(1, 1, 999, 1);
    finds(x, 0, 1, 3, 1);
    finds(x, 1, 1, 0, 0);
    finds(x, 2, 1, 1, 1);
    finds(x, 3, 1, 0, 0);
    finds(x, 4, 0, 0, 0);
    finds(x, 5, 0, 0, 0);
    x.warn(1, 0);
    finds(x, 2, 1, 1, 0);
    finds(x, 0, 1, 3, 1);
    x.warn(0, 1);
    finds(x, 0, 1, 3, 1);
    x.warn(1, 1);
    finds(x, 0, 1, 3, 0);
    x.lose(1);
    finds(x, 0, 0, 0, 0);
    finds(x, 2, 1, 1, 0);
  }

  private static void warned() {
    InquiryBench x = persons(2);
    stamped(x, 0, 300);
    x.finding(1, 0, 310, 0);
    finds(x, 0, 1, 1, 1);
    x.days(1);
    x.warn(1, 0);
    finds(x, 0, 1, 1, 0);
    x.view(0, 3);
    due("not yet warned: findingOf(0, 6)", x.findingOf(0, 6), 1);
    x.view(-1, 3);
    reads(x, "warn 9 if post = 0; warn 3; warn 5;", 0);
    due("warned on day 1: findingOf(0, 6)", x.findingOf(0, 6), 1);
    x.days(2);
    due("two days ahead: findingOf(0, 6)", x.findingOf(0, 6), 1);
    x.days(1);
    due("three: findingOf(0, 6)", x.findingOf(0, 6), 0);
    x.days(1);
    due("four: findingOf(0, 6)", x.findingOf(0, 6), 0);
    x.warn(1, 0);
    due("warned again: findingOf(0, 6)", x.findingOf(0, 6), 0);
    x.view(3, 3);
    due("on day 3: findingOf(0, 6)", x.findingOf(0, 6), 1);
    x.view(4, 3);
    due("on day 4: findingOf(0, 6)", x.findingOf(0, 6), 0);
    x.view(0, 3);
    due("no rules, nor warnings: findingOf(0, 6)", x.findingOf(0, 6), 1);
    x.view(-1, 3);
    reads(x, "warn 9 if post = 0;", 1);
    due("no warn line holds: findingOf(0, 6)", x.findingOf(0, 6), 0);
  }

  private static void heard() {
    InquiryBench x = persons(2);
    x.paper(0, 2, 0, 2);
    x.finding(1, 0, 310, 0);
    reads(x, "heard 9; heard 2;", 0);
    finds(x, 0, 0, 0, 1);
    x.saying(1, 0, 0, 11, true, -1);
    x.saying(1, 0, 0, 11, true, 0);
    x.saying(0, 1, 0, 11, true, -1);
    finds(x, 0, 0, 0, 1);
    x.saying(1, 1, 0, 11, true, -1);
    finds(x, 0, 0, 0, 0);
    x.keep();
    x.saying(1, 1, 0, 11, true, -1);
    due("more than two: findingOf(0, 6)", x.findingOf(0, 6), 0);
    x.again();
    x.view(-1, 1);
    due("none counts: findingOf(0, 6)", x.findingOf(0, 6), 1);
    reads(x, "heard 0;", 1);
    due("findingOf(0, 6)", x.findingOf(0, 6), 0);
    x.view(-1, 3);
    reads(x, "heard 1; heard 3;", 2);
    due("the latest line: findingOf(0, 6)", x.findingOf(0, 6), 1);
    x.days(1);
    x.saying(1, 1, 0, 11, true, -1);
    due("findingOf(0, 6)", x.findingOf(0, 6), 0);
    x.view(0, 3);
    due("findingOf(0, 6)", x.findingOf(0, 6), 1);
  }

  private static void warn() {
    promise = 27;
    InquiryBench x = persons(2);
    x.paper(0, 2, 1, 3);
    outside("person", p -> x.warn(p, 0), -1, 2, BAD);
    outside("paper", p -> x.warn(0, p), -1, 1, BAD);
    due("many(10)", x.many(10), 0);
    x.view(-1, 0);
    for (int i = 0; i < 16; i++) due("warn(1, 0)", x.warn(1, 0), i);
    due("warn(1, 0)", x.warn(1, 0), FULL);
    due("warn(2, 0)", x.warn(2, 0), BAD);
    due("many(10)", x.many(10), 16);
  }

  private static void question() {
    promise = 28;
    InquiryBench x = new InquiryBench();
    outside("days", d -> x.question(d, 0), 0, 10, BAD);
    outside("things", t -> x.question(1, t), -1, 256, BAD);
    due("many(11)", x.many(11), 0);
    due("question(9, 255)", x.question(9, 255), 0);
    due("question(1, 0)", x.question(1, 0), 1);
    for (int i = 2; i < 7; i++) due("question(1, 0)", x.question(1, 0), i);
    due("question(1, 0)", x.question(1, 0), FULL);
    due("question(0, 0)", x.question(0, 0), BAD);
    due("many(11)", x.many(11), 7);
    due("round(1)", x.round(1), 72);
  }

  /** Rows: question, day, question, day .. */
  private static void rows(InquiryBench x, int... want) {
    due("many(12)", x.many(12), want.length / 2);
    for (int i = 0; i < want.length; i++) due("row(" + i / 2 + ", " + i % 2 + ")", x.row(i / 2, i % 2), want[i]);
    due("judge()", x.judge(), 0);
  }

  private static void round() {
    promise = 29;
    InquiryBench x = new InquiryBench();
    due("round(0)", x.round(0), NONE);
    due("round(1)", x.round(1), BAD);
    x.question(5, 1);
    x.question(2, 6);
    x.question(2, 3);
    x.question(1, 0);
    outside("round", x::round, -1, 16, BAD);
    due("round(0)", x.round(0), NONE);
    due("judge()", x.judge(), NONE);
    due("round(1)", x.round(1), 5);
    rows(x, 0, 5);
    due("round(8)", x.round(8), 0);
    rows(x, 3, 1);
    due("2 then 1 as good as 1 then 2: round(6)", x.round(6), 8);
    rows(x, 1, 2, 2, 4);
    x.days(10);
    due("round(7)", x.round(7), 8);
    rows(x, 1, 12, 2, 14, 0, 19);
    due("a thing is closed once: round(15)", x.round(15), 8);
    rows(x, 1, 12, 2, 14, 0, 19, 3, 20);
    due("round(9)", x.round(9), 5);
    rows(x, 0, 15, 3, 16);
    due("what is refused leaves the rows: round(16)", x.round(16), BAD);
    due("round(0)", x.round(0), NONE);
    rows(x, 0, 15, 3, 16);
    InquiryBench y = new InquiryBench();
    y.question(9, 1);
    y.question(1, 1);
    y.question(3, 254);
    due("round(7)", y.round(7), 21 + 4);
    rows(y, 2, 3, 1, 4, 0, 13);
    due("round(5)", y.round(5), 21 + 12);
    rows(y, 2, 3, 0, 12);
    for (int i = 0; i < 4; i++) y.question(1 + i, 1 << i);
    due("all seven: round(127)", y.round(127), 21 + 4);
    rows(y, 2, 3, 1, 4, 0, 13, 3, 14, 4, 16, 5, 19, 6, 23);
    for (int i = 0; i < 5; i++) y.days(95);
    y.days(10);
    due("beyond the last day: round(1)", y.round(1), 9);
    rows(y, 0, 494);
    y.days(14);
    due("round(1)", y.round(1), 9);
    rows(y, 0, 508);
  }

  private static void row() {
    promise = 30;
    InquiryBench x = new InquiryBench();
    x.question(3, 1);
    x.question(2, 1);
    x.days(4);
    x.round(3);
    due("row(0, 0)", x.row(0, 0), 1);
    due("row(0, 1)", x.row(0, 1), 6);
    due("row(1, 0)", x.row(1, 0), 0);
    due("row(1, 1)", x.row(1, 1), 9);
    outside("row", i -> x.row(i, 0), -1, 2, NO_ROW);
    outside("what", w -> x.row(0, w), -1, 2, NO_ROW);
    x.round(1);
    due("one row now: row(1, 0)", x.row(1, 0), NO_ROW);
  }

  private static void alterRow() {
    promise = 31;
    InquiryBench x = new InquiryBench();
    due("alterRow(0, 0, 1)", x.alterRow(0, 0, 1), NO_ROW);
    x.question(3, 1);
    x.question(2, 1);
    x.round(3);
    outside("row", i -> x.alterRow(i, 0, 7), -1, 2, NO_ROW);
    outside("what", w -> x.alterRow(0, w, 7), -1, 2, NO_ROW);
    rows(x, 1, 2, 0, 5);
    due("alterRow(1, 0, LOW)", x.alterRow(1, 0, LOW), 0);
    due("alterRow(1, 1, HIGH)", x.alterRow(1, 1, HIGH), 5);
    due("alterRow(1, 1, -9)", x.alterRow(1, 1, -9), HIGH);
    due("row(1, 0)", x.row(1, 0), LOW);
    due("row(1, 1)", x.row(1, 1), -9);
    due("row(0, 0)", x.row(0, 0), 1);
    due("row(0, 1)", x.row(0, 1), 2);
  }

  private static void dropRow() {
    promise = 32;
    InquiryBench x = new InquiryBench();
    due("dropRow()", x.dropRow(), NONE);
    for (int i = 0; i < 3; i++) x.question(1, 1);
    x.round(7);
    due("dropRow()", x.dropRow(), 2);
    due("row(2, 0)", x.row(2, 0), NO_ROW);
    due("row(1, 0)", x.row(1, 0), 1);
    due("alterRow(2, 0, 1)", x.alterRow(2, 0, 1), NO_ROW);
    due("dropRow()", x.dropRow(), 1);
    due("dropRow()", x.dropRow(), 0);
    due("dropRow()", x.dropRow(), NONE);
    due("many(12)", x.many(12), 0);
    x.round(2);
    due("dropRow()", x.dropRow(), 0);
  }

  private static void judge() {
    promise = 33;
    InquiryBench x = new InquiryBench();
    due("judge()", x.judge(), NONE);
    x.question(3, 1);
    x.question(2, 2);
    x.question(1, 4);
    x.days(6);
    due("round(0)", x.round(0), NONE);
    due("judge()", x.judge(), NONE);
    x.round(7);
    rows(x, 2, 7, 1, 9, 0, 12);
    x.alterRow(0, 0, 0);
    due("day of row 0: judge()", x.judge(), 1);
    x.alterRow(0, 1, 9);
    due("another order, question 1 on day 9: judge()", x.judge(), 2);
    x.alterRow(1, 1, 11);
    due("question 0 again: judge()", x.judge(), 3);
    x.alterRow(2, 1, 14);
    due("on the day that it would be over: judge()", x.judge(), 3);
    x.alterRow(2, 1, 12);
    x.alterRow(2, 0, 2);
    due("any order is right: judge()", x.judge(), 0);
    for (int v : new int[] {3, -1, 31, 32, 33, 34, LOW, HIGH}) {
      x.alterRow(1, 0, v);
      due("question " + v + ": judge()", x.judge(), 2);
    }
    x.alterRow(1, 0, 1);
    x.alterRow(2, 1, 13);
    due("the last day: judge()", x.judge(), 3);
    x.dropRow();
    due("too few: judge()", x.judge(), 3);
    x.dropRow();
    due("judge()", x.judge(), 2);
    x.dropRow();
    due("judge()", x.judge(), 1);
    x.days(1);
    x.round(5);
    x.question(1, 4);
    rows(x, 2, 8, 0, 11);
    due("refused: round(64)", x.round(64), BAD);
    due("refused: round(0)", x.round(0), NONE);
    x.days(5);
    due("by the day of the round: judge()", x.judge(), 0);
    x.alterRow(1, 0, 1);
    due("question 1 wasn't asked: judge()", x.judge(), 2);
    x.alterRow(1, 1, 10);
    due("on the day that it would be over: judge()", x.judge(), 2);
    otherQuestions();
  }

  private static void otherQuestions() {
    InquiryBench x = new InquiryBench();
    x.question(3, 1);
    x.keep();
    x.question(2, 2);
    x.question(1, 4);
    x.round(6);
    rows(x, 2, 1, 1, 3);
    x.again();
    due("neither is there any more: judge()", x.judge(), 1);
    x.dropRow();
    x.dropRow();
    due("no row is right then: judge()", x.judge(), 0);
    x.question(5, 1);
    due("question 1 is there: judge()", x.judge(), 1);
    x.question(1, 1);
    x.round(6);
    rows(x, 2, 1, 1, 6);
    x.again();
    x.question(4, 8);
    x.question(1, 8);
    due("question 1 takes 4 days now: judge()", x.judge(), 2);
    x.alterRow(1, 1, 5);
    due("judge()", x.judge(), 0);
    x.again();
    x.question(4, 8);
    due("question 2 is gone: judge()", x.judge(), 1);
    x.alterRow(0, 0, 1);
    x.alterRow(0, 1, 4);
    x.dropRow();
    due("question 1 is all: judge()", x.judge(), 0);
  }

  private static void sheet() {
    promise = 34;
    InquiryBench x = new InquiryBench();
    outside("sheet", s -> x.sheet(s, 0, 1), -1, 4, BAD);
    outside("sort", s -> x.sheet(0, s, 1), -2, 5, BAD);
    for (int n : new int[] {41, HIGH}) due("sheet(0, 2, " + n + ")", x.sheet(0, 2, n), BAD);
    for (int n : new int[] {-1, LOW}) due("sheet(0, 2, " + n + ")", x.sheet(0, 2, n), -14);
    due("sheet(4, 2, -1)", x.sheet(4, 2, -1), BAD);
    due("sheet(0, 5, -1)", x.sheet(0, 5, -1), BAD);
    due("still missing: item(0, 2, 0)", x.item(0, 2, 0), -11);
    for (int sort = 0; sort < 5; sort++) {
      due("sheet(1, " + sort + ", 40)", x.sheet(1, sort, 40), 1);
      for (int i = 0; i < 40; i += 13) due("item", x.item(1, sort, i), 0);
      x.put(1, 39, 1);
      due("item", x.item(1, sort, 39), 1);
      due("item", x.item(1, sort, 40), -12);
    }
    due("sheet(1, 4, 41)", x.sheet(1, 4, 41), BAD);
    due("sheet(1, 4, -1)", x.sheet(1, 4, -1), -14);
    due("what is refused changes nothing: item(1, 4, 39)", x.item(1, 4, 39), 1);
    due("anew: sheet(1, 4, 40)", x.sheet(1, 4, 40), 1);
    due("item(1, 4, 39)", x.item(1, 4, 39), 0);
    x.put(1, 0, 1);
    due("anew: sheet(1, 4, 40)", x.sheet(1, 4, 40), 1);
    for (int i = 0; i < 40; i++) due("item(1, 4, " + i + ")", x.item(1, 4, i), 0);
    due("sheet(1, 2, 0)", x.sheet(1, 2, 0), 1);
    due("item(1, 2, 0)", x.item(1, 2, 0), -12);
    due("missing: sheet(1, -1, 41)", x.sheet(1, -1, 41), 1);
    due("item(1, 2, 0)", x.item(1, 2, 0), -11);
    due("sheet(1, -1, -5)", x.sheet(1, -1, -5), 1);
    due("sheet(3, 0, 1)", x.sheet(3, 0, 1), 1);
    due("item(3, 0, 0)", x.item(3, 0, 0), 0);
  }

  private static void put() {
    promise = 35;
    InquiryBench x = new InquiryBench();
    outside("sheet", s -> x.put(s, 0, 1), -1, 4, BAD);
    due("missing: put(0, 0, 1)", x.put(0, 0, 1), -11);
    due("missing: put(0, 50, 1)", x.put(0, 50, 1), -11);
    int[] values = {0, 1, -1, 127, 128, -128, -129, 255, 256, 32767, 32768, -32769, 65536, HIGH, LOW};
    for (int sort = 0; sort < 5; sort++) {
      int of = sort;
      x.sheet(2, sort, 3);
      outside("i", i -> x.put(2, i, 1), -1, 3, -12);
      for (int v : values) {
        due("put(2, 1, " + v + ")", x.put(2, 1, v), 1);
        int want = of == 0 ? (byte) v : of == 1 ? (short) v : of == 4 ? v != 0 ? 1 : 0 : v;
        due("item(2, " + sort + ", 1)", x.item(2, sort, 1), want);
      }
      due("item(2, " + sort + ", 0)", x.item(2, sort, 0), 0);
      due("item(2, " + sort + ", 2)", x.item(2, sort, 2), 0);
      due("put(2, 2, 1)", x.put(2, 2, 1), 1);
    }
  }

  private static void item() {
    promise = 36;
    InquiryBench x = new InquiryBench();
    for (int s = 0; s < 4; s++) row(x, s, 2, s + 1, 10 + s);
    outside("sheet", s -> x.item(s, 2, 0), -1, 4, BAD);
    outside("sort", s -> x.item(0, s, 0), -1, 5, BAD);
    outside("i", i -> x.item(3, 2, i), -1, 4, -12);
    for (int s = 0; s < 4; s++) due("item(" + s + ", 2, 0)", x.item(s, 2, 0), 10 + s);
    for (int sort = 0; sort < 5; sort++) {
      x.sheet(1, sort, 2);
      for (int as = 0; as < 5; as++) {
        due("a row of sort " + sort + " taken for " + as, x.item(1, as, 1), as == sort ? 0 : -13);
        due("outside, of sort " + sort + " taken for " + as, x.item(1, as, 2), as == sort ? -12 : -13);
      }
    }
    x.sheet(1, -1, 0);
    for (int as = 0; as < 5; as++) due("missing", x.item(1, as, 99), -11);
    row(x, 1, 3, 2, -11, LOW);
    due("as low as these: item(1, 3, 0)", x.item(1, 3, 0), -11);
    due("item(1, 3, 1)", x.item(1, 3, 1), LOW);
  }

  private static InquiryBench things() {
    InquiryBench x = persons(4);
    x.paper(1, 1, 5, 0);
    x.paper(2, 4, 6, 2);
    x.paper(3, 9, 7, 1);
    x.paper(0, 0, 8, 0);
    x.saying(3, 1, 0, 1105, true, -1);
    x.saying(2, 1, 0, 1107, true, 0);
    x.finding(3, 0, 77, 0);
    x.saying(2, 1, 0, 1107, true, 1);
    return x;
  }

  private static void shelf() {
    promise = 37;
    InquiryBench x = things();
    outside("shelf", s -> x.shelf(s, 0, 0), -1, 4, BAD);
    outside("shelf", s -> x.shelf(s, 4, 0), -1, 4, BAD);
    outside("what", w -> x.shelf(0, w, 0), -1, 5, BAD);
    outside("paper", n -> x.shelf(0, 0, n), -1, 4, BAD);
    outside("saying", n -> x.shelf(0, 1, n), -1, 3, BAD);
    outside("finding", n -> x.shelf(0, 2, n), -1, 1, BAD);
    outside("sheet", n -> x.shelf(0, 3, n), -1, 4, BAD);
    due("shelf(3, 0, 3)", x.shelf(3, 0, 3), 1);
    due("shelf(2, 1, 1)", x.shelf(2, 1, 1), 1);
    due("shelf(1, 2, 0)", x.shelf(1, 2, 0), 1);
    x.sheet(3, 1, 9);
    due("shelf(0, 3, 3)", x.shelf(0, 3, 3), 1);
    due("refused: shelf(0, 0, 4)", x.shelf(0, 0, 4), BAD);
    x.view(0, 0);
    due("taken(3, 2)", x.taken(3, 2), 3);
    due("taken(2, 4)", x.taken(2, 4), 1);
    due("taken(1, 6)", x.taken(1, 6), 0);
    due("taken(0, 11)", x.taken(0, 11), 9);
    x.sheet(3, 2, 4);
    due("the row stays what it was: taken(0, 11)", x.taken(0, 11), 9);
    x.sheet(3, -1, 0);
    due("taken(0, 11)", x.taken(0, 11), 9);
    due("a missing row: shelf(0, 3, 3)", x.shelf(0, 3, 3), 1);
    due("is nothing: taken(0, 11)", x.taken(0, 11), -11);
    outside("nothing: shelf(3, 4, n)", n -> x.shelf(3, 4, n), -1, 99, 1);
    due("taken(3, 2)", x.taken(3, 2), -11);
    due("taken(2, 4)", x.taken(2, 4), 1);
    InquiryBench full = persons(1);
    for (int i = 0; i < 12; i++) full.paper(0, 0, 0, 0);
    for (int i = 0; i < 16; i++) full.saying(0, 0, 0, 11, true, -1);
    for (int i = 0; i < 12; i++) full.finding(0, 0, 0, 0);
    int[] most = {11, 15, 11};
    for (int what = 0; what < 3; what++) {
      due("the last: shelf(0, " + what + ", n)", full.shelf(0, what, most[what]), 1);
      due("taken(0, 0)", full.taken(0, 0), most[what]);
      due("one more: shelf(0, " + what + ", n)", full.shelf(0, what, most[what] + 1), BAD);
    }
  }

  private static void taken() {
    promise = 38;
    InquiryBench x = things();
    x.shelf(0, 0, 0);
    outside("shelf", s -> x.taken(s, 0), -1, 4, BAD);
    outside("as", a -> x.taken(0, a), -1, 7, BAD);
    outside("as", a -> x.taken(0, a), 9, 15, BAD);
    due("nothing, but no such kind: taken(1, 8)", x.taken(1, 8), BAD);
    // shelf, n, then the kinds as which it can be taken
    int[][] want = {{0, 0, 0, 1}, {0, 1, 0, 2}, {0, 2, 0, 1, 3}, {0, 3, 0, 2}, {1, 0, 0, 4, 5}, {1, 1, 0, 4}, {1, 2, 0, 4}, {2, 0, 0, 6}};
    for (int[] w : want) {
      x.shelf(2, w[0], w[1]);
      for (int as = 0; as < 15; as++) {
        if (as > 6 && as < 10) continue;
        boolean fits = false;
        for (int i = 2; i < w.length; i++) fits |= w[i] == as;
        due("shelf(2, " + w[0] + ", " + w[1] + ") taken as " + as, x.taken(2, as), fits ? w[1] : -13);
      }
    }
    for (int sort = 0; sort < 5; sort++) {
      x.sheet(sort % 4, sort, 7 * sort);
      x.shelf(3, 3, sort % 4);
      for (int as = 0; as < 15; as++) {
        if (as > 6 && as < 10) continue;
        due("a row of sort " + sort + " taken as " + as, x.taken(3, as), as == sort + 10 ? 7 * sort : -13);
      }
    }
    for (int as = 0; as < 15; as++) if (as < 7 || as > 9) due("nothing taken as " + as, x.taken(1, as), -11);
    InquiryBench y = persons(2);
    y.keep();
    y.paper(0, 2, 0, 0);
    y.saying(0, 0, 0, 11, true, -1);
    y.finding(0, 0, 0, 0);
    for (int what = 0; what < 3; what++) y.shelf(what, what, 0);
    y.again();
    for (int s = 0; s < 3; s++) due("no such one any more", y.taken(s, 0), -11);
    y.paper(0, 0, 0, 0);
    due("there is one again, a draft: taken(0, 2)", y.taken(0, 2), 0);
  }

  private static void deals(InquiryBench x, int what, int n, int deal, int at, int want, int... bodies) {
    x.shelf(0, what, n);
    String call = "deal(" + what + "/" + n + ", " + deal + ", " + at + ")";
    due(call, x.deal(0, deal, at), want);
    due(call + " many(14)", x.many(14), bodies.length);
    for (int i = 0; i < bodies.length; i++) due(call + " trace(" + i + ")", x.trace(i), bodies[i]);
    due(call + " trace(" + bodies.length + ")", x.trace(bodies.length), NONE);
  }

  private static void deal() {
    promise = 39;
    InquiryBench x = things();
    deals(x, 0, 0, 0, 4, 9, 10);
    deals(x, 0, 0, 1, 4, 18, 20, 11, 10);
    deals(x, 0, 0, 2, 4, 17, 12, 20, 11, 10);
    deals(x, 0, 0, 3, 4, 4, 13);
    deals(x, 0, 1, 0, 4, 10, 10);
    deals(x, 0, 1, 1, 4, 20, 11, 10);
    deals(x, 0, 1, 2, 4, 54, 30, 12, 11, 10);
    deals(x, 0, 1, 3, -7, -7, 13);
    deals(x, 0, 2, 0, 4, 11, 10);
    deals(x, 0, 2, 1, 4, -(22 ^ 2), 40, 20, 11, 10);
    deals(x, 0, 2, 2, 4, -(22 ^ 2) - 3, 12, 40, 20, 11, 10);
    deals(x, 0, 2, 3, 4, 6, 41, 13);
    deals(x, 0, 3, 3, 7, -2, 13);
    deals(x, 0, 3, 3, -7, 2, 13);
    deals(x, 1, 0, 0, 4, 12, 61, 50, 10);
    deals(x, 1, 0, 1, 4, 24, 11, 61, 50, 10);
    deals(x, 1, 0, 2, 4, 2 * (24 - 3 + 18), 60, 51, 12, 11, 61, 50, 10, 11, 61, 50, 10);
    deals(x, 1, 0, 3, 10, 3, 13);
    deals(x, 1, 1, 0, 4, 10, 50, 10);
    deals(x, 1, 1, 1, 4, 20, 11, 50, 10);
    deals(x, 1, 1, 2, 4, 20 - 2 + 14, 51, 12, 11, 50, 10, 11, 50, 10);
    deals(x, 1, 1, 3, 4, 4, 13);
    deals(x, 2, 0, 0, 4, 81, 10);
    deals(x, 2, 0, 1, 4, 162, 11, 10);
    deals(x, 2, 0, 2, 4, 159, 12, 11, 10);
    deals(x, 2, 0, 3, 10, 3 - 77, 70, 13, 10);
    deals(x, 0, 0, 0, HIGH, HIGH + 5, 10);
    deals(x, 0, 1, 1, HIGH, (HIGH + 6) * 2, 11, 10);
    deals(x, 0, 1, 3, LOW, LOW, 13);
    deals(x, 0, 3, 3, LOW, LOW / -3, 13);
    refusedDeals(x);
    parted();
  }

  private static void refusedDeals(InquiryBench x) {
    deals(x, 0, 0, 0, 4, 9, 10);
    outside("shelf", s -> x.deal(s, 0, 4), -1, 4, 0);
    due("no trace then: many(14)", x.many(14), 0);
    deals(x, 0, 0, 0, 4, 9, 10);
    outside("deal", d -> x.deal(0, d, 4), -1, 4, 0);
    due("many(14)", x.many(14), 0);
    deals(x, 0, 0, 0, 4, 9, 10);
    due("nothing: deal(1, 0, 4)", x.deal(1, 0, 4), 0);
    due("many(14)", x.many(14), 0);
    deals(x, 0, 0, 0, 4, 9, 10);
    x.sheet(0, 2, 5);
    x.shelf(2, 3, 0);
    due("a row: deal(2, 0, 4)", x.deal(2, 0, 4), 0);
    due("trace(0)", x.trace(0), NONE);
    InquiryBench y = persons(2);
    y.keep();
    y.paper(0, 2, 3, 0);
    y.shelf(0, 0, 0);
    y.again();
    due("no such paper any more: deal(0, 0, 4)", y.deal(0, 0, 4), 0);
    due("many(14)", y.many(14), 0);
  }

  private static void parted() {
    InquiryBench x = persons(2);
    x.paper(0, 2, 3, 0);
    deals(x, 0, 0, 3, 4, -15, 13);
    x.paper(1, 1, 3, 1);
    deals(x, 0, 1, 3, 4, -15, 41, 13);
    x.saying(0, 0, 0, 11, true, -1);
    deals(x, 1, 0, 3, 4, -15, 13);
    x.finding(0, 0, 9, 0);
    deals(x, 2, 0, 3, 4, -15, 70, 13);
    deals(x, 2, 0, 0, 4, 13, 10);
    x.finding(0, 0, 9, 0);
    deals(x, 2, 1, 3, 4, -4 - 10, 70, 13, 10);
    deals(x, 2, 1, 3, -15 + 10, 5 - 10, 70, 13, 10);
  }

  private static void trace() {
    promise = 40;
    InquiryBench x = things();
    due("trace(0)", x.trace(0), NONE);
    x.shelf(0, 1, 0);
    x.deal(0, 2, 4);
    int[] want = {60, 51, 12, 11, 61, 50, 10, 11, 61, 50, 10};
    for (int i = 0; i < want.length; i++) due("trace(" + i + ")", x.trace(i), want[i]);
    outside("trace", x::trace, -1, want.length, NONE);
    due("trace(30)", x.trace(30), NONE);
    x.deal(0, 3, 4);
    due("trace(0)", x.trace(0), 13);
    due("trace(1)", x.trace(1), NONE);
    x.taken(0, 0);
    x.shelf(0, 4, 0);
    due("other calls leave it: trace(0)", x.trace(0), 13);
    x.deal(0, 0, 0);
    due("trace(0)", x.trace(0), NONE);
  }

  private static void many() {
    promise = 41;
    InquiryBench x = persons(2);
    stamped(x, 0, 100, 0, 110);
    x.paper(0, 2, 1, 2);
    x.days(3);
    x.paper(0, 2, 1, 0);
    reads(x, "heard 1;", 0);
    x.saying(0, 0, 0, 11, true, -1);
    x.saying(0, 0, 0, 11, true, 0);
    x.saying(0, 0, 1, 11, true, -1);
    x.finding(0, 0, 100, 0);
    x.finding(1, 0, 119, 0);
    x.finding(1, 0, 120, 0);
    x.warn(0, 0);
    x.warn(0, 0);
    x.question(1, 1);
    x.question(1, 1);
    x.question(1, 1);
    x.round(5);
    feed(x, "abcde");
    x.shelf(0, 0, 0);
    x.deal(0, 1, 0);
    everyMany(x, 3, 2, 3, 3, 2, 1, 3, 2, 3, 2, 2, 3, 2, 5, 3);
    x.view(-1, 1);
    everyMany(x, 3, 2, 3, 2, 2, 1, 3, 1, 3, 2, 2, 3, 2, 5, 3);
    x.view(2, 3);
    everyMany(x, 3, 2, 3, 2, 2, 1, 3, 0, 3, 2, 2, 3, 2, 5, 3);
    x.view(3, 3);
    x.lose(0);
    everyMany(x, 3, 2, 3, 2, 2, 1, 3, 1, 3, 0, 2, 3, 2, 5, 3);
    outside("many", x::many, -1, 15, BAD);
    InquiryBench none = persons(1);
    none.paper(0, 0, 1, 0);
    none.stamp(0, 0, 0);
    due("known from hour 0: knew(0, 0, 0)", none.knew(0, 0, 0), 1000);
    due("but nothing was found: many(9)", none.many(9), 0);
    none.finding(0, 0, 0, 0);
    due("many(9)", none.many(9), 1);
  }

  private static void keep() {
    promise = 42;
    InquiryBench x = persons(2);
    due("keep()", x.keep(), 1);
    x.person(0, 0);
    due("keep()", x.keep(), 1);
    x.person(0, 0);
    due("the latest: again()", x.again(), 1);
    due("many(1)", x.many(1), 3);
    due("keep() changes nothing else: many(2)", x.many(2), 0);
    InquiryBench y = persons(2);
    y.question(2, 3);
    y.round(1);
    feed(y, "warn");
    row(y, 0, 0, 3, 7);
    y.paper(0, 2, 1, 0);
    y.shelf(0, 0, 0);
    y.deal(0, 0, 5);
    due("keep()", y.keep(), 1);
    due("many(12)", y.many(12), 1);
    due("many(13)", y.many(13), 4);
    due("many(14)", y.many(14), 1);
    due("item(0, 0, 0)", y.item(0, 0, 0), 7);
    due("taken(0, 1)", y.taken(0, 1), 0);
  }

  private static void again() {
    promise = 43;
    InquiryBench x = persons(2);
    due("again()", x.again(), NONE);
    due("many(1)", x.many(1), 2);
    stamped(x, 0, 100, 1, 120);
    x.paper(0, 2, 2, 1);
    x.gap(30);
    x.days(2);
    x.lose(1);
    reads(x, "ask 3 by 40 if post = 0;", 0);
    x.saying(0, 1, 0, 1107, false, -1);
    x.finding(1, 0, 140, 0);
    x.warn(1, 0);
    x.question(2, 1);
    x.view(1, 1);
    due("keep()", x.keep(), 1);
    changeAll(x);
    for (int i = 0; i < 2; i++) {
      due("again()", x.again(), 1);
      isAsKept(x);
      changeAll(x);
    }
    againAndAgain();
  }

  private static void againAndAgain() {
    InquiryBench x = persons(2);
    stamped(x, 0, 100);
    x.paper(0, 2, 1, 2);
    x.view(-1, 1);
    reads(x, "heard 1; ask 1 by 5 if post=1;", 0);
    x.keep();
    x.lose(0);
    x.view(-1, 3);
    due("many(3)", x.many(3), 1);
    x.again();
    due("found again, and shut as it was: many(3)", x.many(3), 1);
    due("paperOf(0, 6)", x.paperOf(0, 6), 1);
    due("paperOf(1, 6)", x.paperOf(1, 6), 0);
    due("lose(0)", x.lose(0), 1);
    x.again();
    for (int i = 0; i < 10; i++) {
      reads(x, "heard 2;".repeat(7) + "ask 1 by 6;ask 2 by 7 if post=1;", 1);
      due("line(1, 8, 2)", x.line(1, 8, 2), 7);
      due("knew(1, 2, 2)", x.knew(1, 2, 2), 1007);
      due("knew(0, 2, 2)", x.knew(0, 2, 2), NONE);
      due("again()", x.again(), 1);
      due("line(1, 8, 2)", x.line(1, 8, 2), NO_ROW);
      due("line(0, 1, 2)", x.line(0, 1, 2), 5);
      due("knew(1, 1, 2)", x.knew(1, 1, 2), 1005);
      due("knew(0, 1, 2)", x.knew(0, 1, 2), NONE);
    }
  }

  private static void changeAll(InquiryBench x) {
    x.days(40);
    x.person(3, 3);
    x.paper(0, 2, 1, 0);
    x.stamp(0, 0, 900);
    x.lose(0);
    x.gap(3);
    x.view(-1, 3);
    reads(x, "ask 2 by 50;", 1);
    x.saying(0, 0, 0, 5005, true, -1);
    x.finding(0, 0, 1, 0);
    x.warn(0, 0);
    x.question(3, 3);
    x.round(2);
    x.alterRow(0, 1, 77);
    row(x, 2, 2, 3, 5);
    x.shelf(3, 0, 0);
    x.deal(3, 0, 1);
    x.feed('w', 1);
    due("many(0)", x.many(0), 42);
  }

  private static void isAsKept(InquiryBench x) {
    // The rows, the tape and the trace stay as they were changed.
    everyMany(x, 2, 2, 2, 2, 2, 1, 1, 0, 1, 1, 1, 1, 1, 1, 1);
    due("row(0, 1)", x.row(0, 1), 77);
    due("item(2, 2, 0)", x.item(2, 2, 0), 5);
    due("taken(3, 1)", x.taken(3, 1), 0);
    due("trace(0)", x.trace(0), 10);
    due("fault of the tape: read()", x.read(), -100);
    due("gap(30)", x.gap(30), 30);
    due("the view, too: paperOf(1, 6)", x.paperOf(1, 6), 1);
    due("no rules yet: knew(0, 3, 2)", x.knew(0, 3, 2), NONE);
    due("clash(0)", x.clash(0), 0);
    due("span(1, false)", x.span(1, false), 990);
    due("sent(0, true)", x.sent(0, true), 1130);
    due("findingOf(0, 2)", x.findingOf(0, 2), 140);
    due("view(-1, 3)", x.view(-1, 3), 1);
    due("lose(1)", x.lose(1), STATE);
    due("knew(0, 3, 2)", x.knew(0, 3, 2), 1040);
    due("knew(1, 3, 2)", x.knew(1, 3, 2), NONE);
    due("line(1, 0, 0)", x.line(1, 0, 0), NO_ROW);
    due("quarrel(1, 0, 1)", x.quarrel(1, 0, 1), 1111);
    due("findingOf(0, 6)", x.findingOf(0, 6), 0);
    due("personOf(2, 0)", x.personOf(2, 0), BAD);
    due("judge()", x.judge(), 1);
  }

  public static void main(String[] args) {
    newObject(); days(); view(); person(); personOf(); paper(); lose(); paperOf();
    stamp(); stamps(); gap(); clash(); span(); sent(); hand(); before();
    knew(); feed(); read(); line(); why();
    saying(); quarrel(); impossible();
    finding(); findingOf(); warn();
    question(); round(); row(); alterRow(); dropRow(); judge();
    sheet(); put(); item(); shelf(); taken(); deal(); trace(); many();
    keep(); again();
    System.out.println(wrong == 0 ? calls + " answers are as promised" : wrong + " answers are not as promised");
    if (wrong != 0) System.exit(1);
  }
}
