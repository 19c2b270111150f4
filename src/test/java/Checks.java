import java.util.Objects;

/** Counts what was checked, and prints every check that did not hold. */
final class Checks {
  /** A call whose answer is wanted. */
  interface Call {
    Object answer();
  }

  private static final int MOST_PRINTED = 40;

  private int held = 0;
  private int wrong = 0;

  void due(String what, Object want, Object got) {
    if (Objects.equals(want, got)) {
      held++;
      return;
    }
    wrong++;
    if (wrong <= MOST_PRINTED) {
      System.out.println(what + ": answered " + got + ", due is " + want);
    }
  }

  /** The answer of a call, or the very class of what it throws: a subclass is another answer. */
  static Object outcome(Call call) {
    try {
      return call.answer();
    } catch (RuntimeException e) {
      return e.getClass();
    }
  }

  /** Checks that a call throws just this exception, and that the house tells all the same before and after. */
  void refuses(String what, RentHarmony house, Class<? extends RuntimeException> want, Call call) {
    String before = state(house);
    due(what, want, outcome(call));
    due(what + " changes nothing", before, state(house));
  }

  /** Checks an answer, and that the house tells all the same before and after. */
  void asks(String what, RentHarmony house, Object want, Call call) {
    String before = state(house);
    due(what, want, outcome(call));
    due(what + " changes nothing", before, state(house));
  }

  private static String state(RentHarmony house) {
    return house.digest() + " " + house.count(0) + " " + house.count(1) + " " + house.chain() + " " + house.mean();
  }

  void end() {
    System.out.println(held + " checks held, " + wrong + " did not");
    if (wrong != 0 || held == 0) {
      System.exit(1);
    }
  }
}
