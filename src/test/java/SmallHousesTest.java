/** Every small house: each question in each of them is answered as the plain house answers it. */
public final class SmallHousesTest {
  private static final Checks CHECKS = new Checks();

  private final RentHarmony house = new RentHarmony();
  private final PlainHouse plain = new PlainHouse();
  private final int size;
  private final int mostBid;
  private final String name;

  // The digits of the number, written in bids, are the bids.
  private SmallHousesTest(int size, int mostBid, int number) {
    this.size = size;
    this.mostBid = mostBid;
    StringBuilder bids = new StringBuilder("bids");
    for (int lodger = 0; lodger < size; lodger++) {
      house.come();
      plain.come();
    }
    int rest = number;
    for (int lodger = 0; lodger < size; lodger++) {
      for (int room = 0; room < size; room++) {
        int coins = rest % (mostBid + 1);
        rest /= mostBid + 1;
        house.bid(lodger, room, coins);
        plain.bid(lodger, room, coins);
        bids.append(' ').append(coins);
      }
    }
    name = bids.append(": ").toString();
  }

  public static void main(String[] args) {
    everyHouse(1, 3);
    everyHouse(2, 3);
    everyHouse(3, 1);
    CHECKS.end();
  }

  private static void everyHouse(int size, int mostBid) {
    int houses = 1;
    for (int k = 0; k < size * size; k++) {
      houses *= mostBid + 1;
    }
    for (int number = 0; number < houses; number++) {
      new SmallHousesTest(size, mostBid, number).askAll(number % size);
    }
  }

  // The last rents are above the greatest worth, so that something is missing.
  private void askAll(int leaving) {
    for (int rent = 0; rent <= size * mostBid + 2; rent++) {
      house.rent(rent);
      plain.rent(rent);
      askWhatRentChanges(rent);
    }
    askWhatRentLeaves();
    same("leave(" + leaving + ")", plain.leave(leaving), house.leave(leaving));
    same("digest() after leaving", plain.digest(), house.digest());
  }

  // The digest holds all that is told, counted and offered.
  private void askWhatRentChanges(int rent) {
    String at = " at rent " + rent;
    same("digest()" + at, plain.digest(), house.digest());
    same("count(3)" + at, plain.count(3), house.count(3));
    same("count(4)" + at, plain.count(4), house.count(4));
    same("mean()" + at, plain.mean(), house.mean());
    for (int a = 0; a < size; a++) {
      same("told(" + a + ", 3)" + at, plain.told(a, 3), house.told(a, 3));
      for (int b = 0; b < size; b++) {
        same("gap(" + a + ", " + b + ")" + at, plain.gap(a, b), house.gap(a, b));
      }
    }
  }

  private void askWhatRentLeaves() {
    same("count(2)", plain.count(2), house.count(2));
    same("count(5)", plain.count(5), house.count(5));
    same("chain()", plain.chain(), house.chain());
    for (int a = 0; a < size; a++) {
      same("told(" + a + ", 0)", plain.told(a, 0), house.told(a, 0));
      same("told(" + a + ", 4)", plain.told(a, 4), house.told(a, 4));
      same("told(" + a + ", 5)", plain.told(a, 5), house.told(a, 5));
      same("without(" + a + ")", plain.without(a), house.without(a));
      for (int b = 0; b < size; b++) {
        String both = "(" + a + ", " + b + ")";
        same("envies" + both, plain.envies(a, b), house.envies(a, b));
        same("needs" + both, plain.needs(a, b), house.needs(a, b));
        for (int coins = 0; coins <= mostBid + 1; coins++) {
          same("would" + both + " with " + coins, plain.would(a, b, coins), house.would(a, b, coins));
        }
      }
    }
  }

  private void same(String what, Object want, Object got) {
    CHECKS.due(name + what, want, got);
  }
}
