import java.util.ArrayList;
import java.util.List;
import java.util.function.Function;
import java.util.function.ToIntFunction;

/**
 * Objects with the same calls behind them. One gets a call more that must change nothing: whatever is asked
 * then, the two answer the same. Each question has two objects of its own, so that none goes beyond 512 calls.
 */
final class Twins {
  private static final List<Function<SootMaps, String>> QUESTIONS = questions();

  private final Check check;
  private final String text;
  private final String[] ahead;

  Twins(Check check, String text, String... ahead) {
    this.check = check;
    this.text = text;
    this.ahead = ahead;
  }

  SootMaps make() {
    SootMaps x = new SootMaps();
    if (!text.isEmpty()) Check.tell(x, text);
    for (String words : ahead) Calls.call(x, words);
    return x;
  }

  /** The call answers what is due and all is as it was. */
  void unchanged(String what, ToIntFunction<SootMaps> call, int due) {
    for (Function<SootMaps, String> question : QUESTIONS) {
      SootMaps x = make();
      check.due(what, call.applyAsInt(x), due);
      check.due(what + ", then", question.apply(x), question.apply(make()));
    }
  }

  /** The same, where fault() may answer otherwise then. */
  void unchangedButFault(String what, ToIntFunction<SootMaps> call, int due) {
    for (Function<SootMaps, String> question : QUESTIONS) {
      SootMaps x = make();
      check.due(what, call.applyAsInt(x), due);
      check.due(what + ", then", withoutFault(question.apply(x)), withoutFault(question.apply(make())));
    }
  }

  private static String withoutFault(String state) {
    return state.replaceAll("fault -?\\d+", "fault");
  }

  private static List<Function<SootMaps, String>> questions() {
    List<Function<SootMaps, String>> all = new ArrayList<>();
    all.add(Check::state);
    all.add(Twins::seenAndBook);
    all.add(x -> "seed " + x.seed(1));
    all.add(x -> "city " + x.city() + " " + Check.state(x));
    all.add(x -> "city " + Check.tell(x, " 2;h9 3;") + " " + Check.state(x));
    for (int n = 1; n <= 30; n++) {
      int deeds = n;
      all.add(x -> "undo " + x.undo(deeds) + " " + Check.state(x));
    }
    for (int n = 0; n <= 1; n++) {
      int image = n;
      all.add(x -> "goBack " + x.goBack(image) + " seed " + x.seed(1) + " " + Check.state(x));
    }
    return all;
  }

  private static String seenAndBook(SootMaps x) {
    StringBuilder all = new StringBuilder("judge " + x.judge());
    for (int kind = 1; kind <= 7; kind++) all.append(' ').append(x.next(kind, 0)).append(' ').append(x.next(kind, 1));
    return all.append(" tear ").append(x.tear()).toString();
  }
}
