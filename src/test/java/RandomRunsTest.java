/** Long runs of calls, right and wrong ones, each answer compared with the plain house's. */
public final class RandomRunsTest {
  // With six lodgers at first and the last digest a house is called 512 times.
  private static final int CALLS = 505;
  private static final int[] MOST_BIDS = {0, 1, 2, 5, 20, 100, 999};
  private static final Checks CHECKS = new Checks();

  private RentHarmony house = new RentHarmony();
  private PlainHouse plain = new PlainHouse();
  private final int mostBid;
  private long seed;

  private RandomRunsTest(long seed, int mostBid) {
    this.seed = seed;
    this.mostBid = mostBid;
  }

  public static void main(String[] args) {
    for (int run = 0; run < 42; run++) {
      new RandomRunsTest(run * 7919L + 1, MOST_BIDS[run % MOST_BIDS.length]).run();
    }
    CHECKS.end();
  }

  private void run() {
    // The first lodgers come at once in every second run, so that full houses are met often.
    for (int k = 0; k < (seed & 1) * 6; k++) {
      same("come()", () -> house.come(), () -> plain.come());
    }
    for (int call = 0; call < CALLS; call++) {
      one();
    }
    same("digest()", () -> house.digest(), () -> plain.digest());
  }

  // A number from 0 to most, always the same ones for a seed.
  private int upTo(int most) {
    seed = seed * 6364136223846793005L + 1442695040888963407L;
    return (int) ((seed >>> 33) % (most + 1));
  }

  // Mostly a lodger or a room of the house, at times one beside it.
  private int number() {
    int size = plain.count(0);
    if (size == 0 || upTo(40) == 0) {
      return upTo(8) - 1;
    }
    return upTo(size - 1);
  }

  private int coins() {
    int dice = upTo(60);
    if (dice == 0) {
      return -1;
    }
    return dice == 1 ? 1000 : upTo(mostBid);
  }

  private int rentCoins() {
    int dice = upTo(20);
    if (dice == 0) {
      return -1;
    }
    return dice == 1 ? 6000 : upTo(dice < 4 ? 5999 : 4 * mostBid);
  }

  private void one() {
    int dice = upTo(99);
    int a = number();
    int b = number();
    if (dice < 45) {
      int coins = coins();
      same("bid(" + a + ", " + b + ", " + coins + ")", () -> house.bid(a, b, coins), () -> plain.bid(a, b, coins));
    } else if (dice < 50) {
      int coins = rentCoins();
      same("rent(" + coins + ")", () -> house.rent(coins), () -> plain.rent(coins));
    } else if (dice < 54) {
      same("come()", () -> house.come(), () -> plain.come());
    } else if (dice < 56) {
      same("leave(" + a + ")", () -> house.leave(a), () -> plain.leave(a));
    } else if (dice < 76) {
      given(dice % 5, a, b);
    } else {
      tried(dice % 6, a, b);
    }
  }

  private void given(int dice, int a, int b) {
    int what = upTo(8) - 1;
    switch (dice) {
      case 0:
        same("told(" + a + ", " + what + ")", () -> house.told(a, what), () -> plain.told(a, what));
        break;
      case 1:
        same("offer(" + a + ", " + b + ")", () -> house.offer(a, b), () -> plain.offer(a, b));
        break;
      case 2:
        same("count(" + what + ")", () -> house.count(what), () -> plain.count(what));
        break;
      case 3:
        same("envies(" + a + ", " + b + ")", () -> house.envies(a, b), () -> plain.envies(a, b));
        break;
      default:
        same("gap(" + a + ", " + b + ")", () -> house.gap(a, b), () -> plain.gap(a, b));
        break;
    }
  }

  private void tried(int dice, int a, int b) {
    int coins = coins();
    switch (dice) {
      case 0:
        same("chain()", () -> house.chain(), () -> plain.chain());
        break;
      case 1:
        same("would(" + a + ", " + b + ", " + coins + ")",
            () -> house.would(a, b, coins), () -> plain.would(a, b, coins));
        break;
      case 2:
        same("needs(" + a + ", " + b + ")", () -> house.needs(a, b), () -> plain.needs(a, b));
        break;
      case 3:
        same("without(" + a + ")", () -> house.without(a), () -> plain.without(a));
        break;
      case 4:
        same("mean()", () -> house.mean(), () -> plain.mean());
        break;
      default:
        same("digest()", () -> house.digest(), () -> plain.digest());
        break;
    }
  }

  private void same(String what, Checks.Call call, Checks.Call plainCall) {
    CHECKS.due(what, Checks.outcome(plainCall), Checks.outcome(call));
  }
}
