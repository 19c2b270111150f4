import java.util.Objects;

/** Counts what was checked, and prints every check that did not hold. */
final class Checks {
  /** A call whose answer is wanted. */
  interface Call {
    Object answer();
  }

  /** A call with a number of a lodger, a room or something else. */
  interface NumberedCall {
    Object answer(RentHarmony house, int number);
  }

  private static final int MOST_PRINTED = 40;

  private int held = 0;
  private int wrong = 0;
  private int tests = 0;
  private String test = "";

  /** A test of its own, under the name of what it tests: it ends by itself, and checks something. */
  void test(String name, Runnable body) {
    test = name + ": ";
    int before = held + wrong;
    tests++;
    try {
      body.run();
    } catch (RuntimeException e) {
      due("the test", "no exception", e);
    }
    if (held + wrong == before) {
      due("the test", "some check", "none");
    }
    test = "";
  }

  void due(String what, Object want, Object got) {
    if (Objects.equals(want, got)) {
      held++;
      return;
    }
    wrong++;
    if (wrong <= MOST_PRINTED) {
      System.out.println(test + what + ": answered " + got + ", due is " + want);
    }
  }

  /** The answer of a call, or the very class of what it throws: a subclass is another answer. */
  static Object outcome(Call call) {
    try {
      return call.answer();
    } catch (RuntimeException e) {
      return e.getClass();
    }
  }

  /** Checks that a call throws just this exception, and that the house tells all the same before and after. */
  void refuses(String what, RentHarmony house, Class<? extends RuntimeException> want, Call call) {
    asks(what, house, want, call);
  }

  /** Checks an answer, and that the house tells all the same before and after. */
  void asks(String what, RentHarmony house, Object want, Call call) {
    String before = state(house);
    due(what, want, outcome(call));
    due(what + " changes nothing", before, state(house));
  }

  /** Checks that in no house the call takes a number below 0, its size, or one above. */
  void refusesNumbers(NumberedCall call) {
    for (RentHarmony house : Houses.ofAllSizes()) {
      int size = house.count(0);
      for (int number : new int[] {-1, size, size + 1, 6, Integer.MIN_VALUE, Integer.MAX_VALUE}) {
        refuses(number + " in a house of " + size, house, IndexOutOfBoundsException.class,
            () -> call.answer(house, number));
      }
    }
  }

  /** Checks that in every house with lodgers the call refuses each of these numbers. */
  void refusesThese(Class<? extends RuntimeException> want, NumberedCall call, int... numbers) {
    for (RentHarmony house : Houses.ofAllSizes()) {
      for (int number : numbers) {
        if (house.count(0) > 0) {
          refuses(number + " in a house of " + house.count(0), house, want, () -> call.answer(house, number));
        }
      }
    }
  }

  // Few calls, so that a house may be asked some twenty times: the digest holds all that is told and offered.
  private static String state(RentHarmony house) {
    StringBuilder state = new StringBuilder();
    for (int what = 0; what < 7; what++) {
      state.append(house.count(what)).append(' ');
    }
    return state.append(house.chain()).append(' ').append(house.digest()).toString();
  }

  void end() {
    System.out.println((tests > 0 ? tests + " tests, " : "") + held + " checks held, " + wrong + " did not");
    if (wrong != 0 || held == 0) {
      System.exit(1);
    }
  }
}
