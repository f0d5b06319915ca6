import java.util.ArrayList;
import java.util.List;

/** All that can be seen of a bench, as lines of text; what a refused call leaves unchanged is told by two of these. */
final class State {
  private static final int PERSONS = 3, PAPERS = 4, SAID = 3, FOUND = 3, LINES = 3, ROWS = 4;
  private final InquiryBench x;
  private final List<String> lines = new ArrayList<>();

  private State(InquiryBench x) { this.x = x; }

  /** The last of it reads the tape, sets the gap and goes back to what was kept: the bench is used up by this. */
  static List<String> of(InquiryBench x) {
    State s = new State(x);
    s.counts();
    s.people();
    s.clocks();
    s.things();
    s.rows();
    s.host();
    s.versions(0);
    int versions = x.many(5);
    s.tell("gap", x.gap(50));
    s.tell("read", x.read());
    s.versions(versions);
    s.tell("again", x.again());
    s.counts();
    s.tell("gap that was kept", x.gap(50));
    for (int p = 0; p < PAPERS; p++) s.tell("paper of it " + p, x.paperOf(p, 6));
    return s.lines;
  }

  private void tell(String call, int answer) { lines.add(call + ": " + answer); }

  private void counts() {
    for (int w = 0; w < 15; w++) tell("many " + w, x.many(w));
  }

  private void people() {
    for (int p = 0; p < PERSONS; p++) for (int w = 0; w < 5; w++) tell("personOf " + p + " " + w, x.personOf(p, w));
    for (int p = 0; p < PAPERS; p++) for (int w = 0; w < 7; w++) tell("paperOf " + p + " " + w, x.paperOf(p, w));
    for (int p = 0; p < PERSONS; p++) for (int t = 0; t < 4; t++) {
      tell("why " + p + " " + t, x.why(p, t));
      for (int w = 0; w < 3; w++) tell("knew " + p + " " + t + " " + w, x.knew(p, t, w));
    }
  }

  private void clocks() {
    for (int w = 0; w < 2; w++) tell("clash " + w, x.clash(w));
    for (int c = 1; c < 3; c++) tell("span " + c, x.span(c, false) * 10000 + x.span(c, true));
    for (int p = 0; p < PAPERS; p++) {
      tell("sent " + p, x.sent(p, false) * 10000 + x.sent(p, true));
      for (int q = 0; q < PERSONS; q++) {
        tell("hand " + p + " " + q, x.hand(p, q, true));
        tell("believed " + p + " " + q, x.quarrel(q, p, 1));
        tell("quarrel " + p + " " + q, x.quarrel(q, p, 0));
      }
    }
    tell("before", x.before(0, 1) * 10 + x.before(1, 0));
    tell("impossible", x.impossible());
  }

  private void things() {
    for (int f = 0; f < FOUND; f++) for (int w = 0; w < 7; w++) tell("findingOf " + f + " " + w, x.findingOf(f, w));
  }

  private void rows() {
    for (int i = 0; i < ROWS; i++) for (int w = 0; w < 2; w++) tell("row " + i + " " + w, x.row(i, w));
    tell("judge", x.judge());
  }

  private void host() {
    for (int s = 0; s < 4; s++) {
      int sort = 0;
      while (sort < 4 && x.item(s, sort, 0) == -13) sort++;
      for (int i = 0; i < 5; i++) tell("item " + s + " " + sort + " " + i, x.item(s, sort, i));
      for (int as : new int[] {0, 3, 5, 6, 10, 11}) tell("taken " + s + " " + as, x.taken(s, as));
    }
    for (int i = 0; i < SAID; i++) tell("trace " + i, x.trace(i));
  }

  private void versions(int from) {
    for (int i = 0; i < LINES; i++) for (int w = 0; w < 5; w++) tell("line " + from + " " + i + " " + w, x.line(from, i, w));
  }
}
