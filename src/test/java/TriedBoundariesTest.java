import java.math.BigInteger;

/** A test for each boundary case of promises 12 to 16; the sums are done by hand. */
public final class TriedBoundariesTest {
  private static final Class<IllegalArgumentException> NO_COINS = IllegalArgumentException.class;

  private static final Checks CHECKS = new Checks();

  public static void main(String[] args) {
    wouldRefused();
    would();
    needs();
    without();
    mean();
    digest();
    lastCall();
    CHECKS.end();
  }

  private static void wouldRefused() {
    CHECKS.test("12: no such lodger", () -> CHECKS.refusesNumbers((house, number) -> house.would(number, 0, 5)));
    CHECKS.test("12: no such room", () -> CHECKS.refusesNumbers((house, number) -> house.would(0, number, 5)));
    CHECKS.test("12: coins below 0", () -> CHECKS.refusesThese(NO_COINS,
        (house, coins) -> house.would(0, 0, coins), -1, -999, Integer.MIN_VALUE));
    CHECKS.test("12: coins above 999", () -> CHECKS.refusesThese(NO_COINS,
        (house, coins) -> house.would(0, 0, coins), 1000, 5999, Integer.MAX_VALUE));
    CHECKS.test("12: no such lodger comes ahead of the coins",
        () -> CHECKS.refusesNumbers((house, number) -> house.would(number, 0, -1)));
    CHECKS.test("12: no such room comes ahead of the coins",
        () -> CHECKS.refusesNumbers((house, number) -> house.would(0, number, 1000)));
    CHECKS.test("12: neither lodger nor room nor coins",
        () -> CHECKS.refusesNumbers((house, number) -> house.would(number, number, number < 0 ? number : 1000)));
  }

  private static void would() {
    CHECKS.test("12: the least bid, 0", TriedBoundariesTest::wouldWithNothing);
    CHECKS.test("12: the greatest bid, 999", TriedBoundariesTest::wouldWithMost);
    CHECKS.test("12: the only room", TriedBoundariesTest::wouldOfOne);
    CHECKS.test("12: just worth as much, and 1 beside it", TriedBoundariesTest::wouldByOne);
    CHECKS.test("12: the bid as it is", TriedBoundariesTest::wouldAsItIs);
    CHECKS.test("12: the room that this one gets may be a third one", TriedBoundariesTest::wouldGetThirdRoom);
    CHECKS.test("12: the first and the last of six", TriedBoundariesTest::wouldOfSix);
    CHECKS.test("12: nothing is changed for later calls", TriedBoundariesTest::wouldLeavesNothing);
  }

  private static void wouldWithNothing() {
    RentHarmony house = Houses.two(101);
    CHECKS.asks("would(1, 0, 0)", house, 1, () -> house.would(1, 0, 0));
    CHECKS.asks("would(0, 1, 0)", house, 0, () -> house.would(0, 1, 0));
    CHECKS.asks("would(0, 0, 0)", house, 1, () -> house.would(0, 0, 0));
  }

  private static void wouldWithMost() {
    RentHarmony house = Houses.two(101);
    CHECKS.asks("would(0, 0, 999)", house, 0, () -> house.would(0, 0, 999));
    CHECKS.asks("would(1, 1, 999)", house, 1, () -> house.would(1, 1, 999));
    RentHarmony far = Houses.of(0, "0 0", "0 999");
    CHECKS.asks("999 is worth as much", far, 0, () -> far.would(0, 1, 999));
  }

  private static void wouldOfOne() {
    RentHarmony house = Houses.of(0, "5");
    for (int coins : new int[] {0, 1, 999}) {
      CHECKS.asks("would(0, 0, " + coins + ")", house, 0, () -> house.would(0, 0, coins));
    }
  }

  // With 120 for lodger 0 and room 0, with 40 for lodger 0 and room 1 both givings are worth as much.
  private static void wouldByOne() {
    RentHarmony house = Houses.two(101);
    int[][] due = {{0, 119, 1}, {0, 120, 0}, {0, 121, 0}, {1, 39, 0}, {1, 40, 0}, {1, 41, 1}};
    for (int[] row : due) {
      CHECKS.asks("would(0, " + row[0] + ", " + row[1] + ")", house, row[2], () -> house.would(0, row[0], row[1]));
    }
  }

  private static void wouldAsItIs() {
    for (RentHarmony house : Houses.ofAllSizes()) {
      CHECKS.due("lodgers", true, house.count(0) <= 6);
      for (int lodger = 0; lodger < house.count(0); lodger++) {
        for (int room = 0; room < house.count(0); room++) {
          CHECKS.due("lodger " + lodger + ", room " + room, house.told(lodger, 0),
              house.would(lodger, room, house.offer(lodger, room)));
        }
      }
    }
  }

  // Rooms 0, 1, 2 are given, worth 27; without the bid for room 0 rooms 1, 0, 2 are, worth 8 + 7 + 9.
  private static void wouldGetThirdRoom() {
    RentHarmony house = Houses.of(0, "9 8 0", "7 9 0", "0 0 9");
    CHECKS.asks("would(0, 0, 0)", house, 1, () -> house.would(0, 0, 0));
    CHECKS.asks("would(0, 2, 16)", house, 0, () -> house.would(0, 2, 16));
    CHECKS.asks("would(0, 2, 999)", house, 2, () -> house.would(0, 2, 999));
  }

  private static void wouldOfSix() {
    RentHarmony house = Houses.alike(0, 6, 0);
    CHECKS.asks("would(0, 5, 0)", house, 0, () -> house.would(0, 5, 0));
    CHECKS.asks("would(0, 5, 1)", house, 5, () -> house.would(0, 5, 1));
    CHECKS.asks("would(5, 0, 0)", house, 5, () -> house.would(5, 0, 0));
    CHECKS.asks("would(5, 0, 1)", house, 0, () -> house.would(5, 0, 1));
    CHECKS.asks("would(5, 5, 999)", house, 5, () -> house.would(5, 5, 999));
  }

  private static void wouldLeavesNothing() {
    RentHarmony asked = Houses.six(580);
    RentHarmony unasked = Houses.six(580);
    asked.would(0, 5, 999);
    asked.needs(3, 1);
    asked.without(2);
    sameLater(asked, unasked);
  }

  private static void sameLater(RentHarmony asked, RentHarmony unasked) {
    CHECKS.due("digest", unasked.digest(), asked.digest());
    CHECKS.due("leave", unasked.leave(3), asked.leave(3));
    CHECKS.due("digest after leave", unasked.digest(), asked.digest());
    CHECKS.due("come", unasked.come(), asked.come());
    CHECKS.due("bid", unasked.bid(5, 0, 300), asked.bid(5, 0, 300));
    CHECKS.due("digest after bid", unasked.digest(), asked.digest());
  }

  private static void needs() {
    CHECKS.test("13: no such lodger", () -> CHECKS.refusesNumbers((house, number) -> house.needs(number, 0)));
    CHECKS.test("13: no such room", () -> CHECKS.refusesNumbers((house, number) -> house.needs(0, number)));
    CHECKS.test("13: neither lodger nor room",
        () -> CHECKS.refusesNumbers((house, number) -> house.needs(number, number)));
    CHECKS.test("13: 0 is enough", TriedBoundariesTest::needsNothing);
    CHECKS.test("13: 1 is needed", TriedBoundariesTest::needsOne);
    CHECKS.test("13: 998 and 999 are needed", TriedBoundariesTest::needsMost);
    CHECKS.test("13: -1 if there is none", TriedBoundariesTest::needsTooMuch);
    CHECKS.test("13: the own room, with a bid too great", TriedBoundariesTest::needsForOwnRoom);
    CHECKS.test("13: the least one, which would answers as well", TriedBoundariesTest::needsIsLeast);
    CHECKS.test("13: each bid from 0 to 999 may be the least", TriedBoundariesTest::needsEachBid);
  }

  private static void needsNothing() {
    for (int size = 1; size <= 6; size++) {
      RentHarmony house = Houses.alike(0, size, 0);
      for (int lodger = 0; lodger < size; lodger++) {
        int asked = lodger;
        CHECKS.asks("the own room of " + lodger + " of " + size, house, 0, () -> house.needs(asked, asked));
      }
    }
    RentHarmony one = Houses.of(0, "999");
    CHECKS.asks("the only room", one, 0, () -> one.needs(0, 0));
  }

  private static void needsOne() {
    for (int lodger = 0; lodger < 6; lodger++) {
      RentHarmony house = Houses.alike(0, 6, 0);
      for (int room = 0; room < 6; room++) {
        int asked = lodger;
        int door = room;
        CHECKS.asks("needs(" + lodger + ", " + room + ")", house, lodger == room ? 0 : 1,
            () -> house.needs(asked, door));
      }
    }
  }

  private static void needsMost() {
    RentHarmony asGreat = Houses.of(0, "0 999", "0 0");
    CHECKS.asks("999, as great", asGreat, 999, () -> asGreat.needs(0, 0));
    RentHarmony less = Houses.of(0, "0 998", "0 0");
    CHECKS.asks("998, as great", less, 998, () -> less.needs(0, 0));
    RentHarmony greater = Houses.of(0, "998 0", "0 0");
    CHECKS.asks("999, greater by 1", greater, 999, () -> greater.needs(0, 1));
    RentHarmony lessGreat = Houses.of(0, "997 0", "0 0");
    CHECKS.asks("998, greater by 1", lessGreat, 998, () -> lessGreat.needs(0, 1));
  }

  private static void needsTooMuch() {
    RentHarmony asGreat = Houses.of(0, "999 0", "0 0");
    CHECKS.asks("999 would be as great", asGreat, -1, () -> asGreat.needs(0, 1));
    RentHarmony tooGreat = Houses.of(0, "0 999", "1 0");
    CHECKS.asks("1000 would be as great", tooGreat, -1, () -> tooGreat.needs(0, 0));
    RentHarmony far = Houses.of(0, "999 0 0", "0 999 0", "0 0 999");
    CHECKS.asks("1999 would be needed", far, -1, () -> far.needs(0, 2));
    CHECKS.asks("1999 would be needed", far, -1, () -> far.needs(2, 0));
  }

  private static void needsForOwnRoom() {
    RentHarmony house = Houses.two(101);
    CHECKS.asks("lodger 0, who bids 60", house, 41, () -> house.needs(0, 1));
    CHECKS.asks("lodger 1, who bids 90", house, 71, () -> house.needs(1, 0));
    RentHarmony most = Houses.alike(0, 6, 999);
    CHECKS.asks("the first one of six", most, 999, () -> most.needs(0, 0));
    CHECKS.asks("the last one of six", most, 999, () -> most.needs(5, 5));
    CHECKS.asks("the last one for the first room", most, -1, () -> most.needs(5, 0));
  }

  private static void needsIsLeast() {
    for (RentHarmony house : Houses.ofAllSizes()) {
      CHECKS.due("lodgers", true, house.count(0) <= 6);
      for (int lodger = 0; lodger < house.count(0); lodger++) {
        for (int room = 0; room < house.count(0); room++) {
          least(house, lodger, room);
        }
      }
    }
  }

  private static void least(RentHarmony house, int lodger, int room) {
    int needed = house.needs(lodger, room);
    String asked = "needs(" + lodger + ", " + room + ") of " + house.count(0) + " is " + needed;
    if (needed < 0) {
      CHECKS.due(asked + ", with 999", false, house.would(lodger, room, 999) == room);
      return;
    }
    CHECKS.due(asked, room, house.would(lodger, room, needed));
    if (needed > 0) {
      CHECKS.due(asked + ", less by 1", false, house.would(lodger, room, needed - 1) == room);
    }
  }

  private static void needsEachBid() {
    RentHarmony house = Houses.alike(0, 2, 0);
    for (int coins = 0; coins <= 250; coins++) {
      house.bid(0, 1, 4 * coins % 1000);
      CHECKS.due("as great as " + 4 * coins % 1000, 4 * coins % 1000, house.needs(0, 0));
    }
    RentHarmony odd = Houses.alike(0, 2, 0);
    for (int coins = 0; coins < 250; coins++) {
      odd.bid(0, 1, 4 * coins + 3);
      CHECKS.due("as great as " + (4 * coins + 3), 4 * coins + 3, odd.needs(0, 0));
    }
  }

  private static void without() {
    CHECKS.test("14: no such lodger", () -> CHECKS.refusesNumbers((house, number) -> house.without(number)));
    CHECKS.test("14: 0 without any other one", TriedBoundariesTest::withoutTheOnlyOne);
    CHECKS.test("14: no bids", () -> withoutEach(Houses.alike(0, 6, 0), 0, 0, 0, 0, 0, 0));
    CHECKS.test("14: the greatest bids",
        () -> withoutEach(Houses.alike(0, 6, 999), 4995, 4995, 4995, 4995, 4995, 4995));
    CHECKS.test("14: the best room for the only other one", () -> withoutEach(Houses.two(101), 90, 100));
    CHECKS.test("14: the first, the middle and the last one", () -> withoutEach(Houses.three(), 59, 38, 80));
    CHECKS.test("14: any room may be left out", TriedBoundariesTest::anyRoomLeftOut);
    CHECKS.test("14: more than is left after leaving", TriedBoundariesTest::moreThanAfterLeaving);
    CHECKS.test("14: the rent doesn't count", () -> withoutEach(Houses.two(5999), 90, 100));
  }

  private static void withoutEach(RentHarmony house, int... due) {
    for (int lodger = 0; lodger < due.length; lodger++) {
      int asked = lodger;
      CHECKS.asks("without(" + lodger + ")", house, due[lodger], () -> house.without(asked));
    }
  }

  private static void withoutTheOnlyOne() {
    withoutEach(Houses.of(0, "0"), 0);
    withoutEach(Houses.of(0, "999"), 0);
    RentHarmony left = Houses.two(101);
    left.leave(0);
    withoutEach(left, 0);
  }

  // The others bid 7, 6, 5, 4, 3 for all rooms but one, for which they bid nothing.
  private static void anyRoomLeftOut() {
    for (int unwanted = 0; unwanted < 6; unwanted++) {
      RentHarmony house = Houses.alike(0, 6, 999);
      for (int lodger = 1; lodger < 6; lodger++) {
        for (int room = 0; room < 6; room++) {
          house.bid(lodger, room, room == unwanted ? 0 : 8 - lodger);
        }
      }
      CHECKS.asks("without(0), room " + unwanted, house, 25, () -> house.without(0));
    }
  }

  private static void moreThanAfterLeaving() {
    RentHarmony house = Houses.two(101);
    CHECKS.due("without(1)", 100, house.without(1));
    house.leave(1);
    CHECKS.due("worth after leaving", 60, house.count(2));
  }

  private static void mean() {
    CHECKS.test("15: 0 without lodgers", TriedBoundariesTest::meanOfNobody);
    CHECKS.test("15: one lodger", TriedBoundariesTest::meanOfOne);
    CHECKS.test("15: a mean isn't cut", TriedBoundariesTest::meanNotCut);
    CHECKS.test("15: the least and the greatest mean", TriedBoundariesTest::edgesOfMean);
    CHECKS.test("15: pays less than 0 count", TriedBoundariesTest::meanOfPaysBelow);
  }

  private static void meanIs(RentHarmony house, double due) {
    CHECKS.asks("mean", house, due, () -> house.mean());
  }

  private static void meanOfNobody() {
    meanIs(new RentHarmony(), 0.0);
    meanIs(Houses.deserted(0), 0.0);
    meanIs(Houses.deserted(5999), 0.0);
  }

  private static void meanOfOne() {
    meanIs(Houses.of(0, "999"), 0.0);
    meanIs(Houses.of(998, "999"), 998.0);
    meanIs(Houses.of(5999, "999"), 999.0);
    meanIs(Houses.of(5999, "0"), 0.0);
  }

  private static void meanNotCut() {
    meanIs(Houses.of(5999, "1 0", "0 0"), 0.5);
    meanIs(Houses.of(5999, "1 0 0", "0 0 0", "0 0 0"), 1.0 / 3.0);
    meanIs(Houses.of(5999, "1 0 0 0 0 0", "0 0 0 0 0 0", "0 0 0 0 0 0", "0 0 0 0 0 0", "0 0 0 0 0 0",
        "0 0 0 0 0 0"), 1.0 / 6.0);
    meanIs(Houses.of(5999, "999 0 0 0 0 0", "0 999 0 0 0 0", "0 0 999 0 0 0", "0 0 0 999 0 0", "0 0 0 0 999 0",
        "0 0 0 0 0 998"), 5993.0 / 6.0);
  }

  private static void edgesOfMean() {
    meanIs(Houses.alike(0, 6, 999), 0.0);
    meanIs(Houses.alike(0, 6, 0), 0.0);
    meanIs(Houses.alike(5999, 6, 999), 999.0);
  }

  private static void meanOfPaysBelow() {
    CHECKS.due("a pay", -20, Houses.two(0).told(0, 3));
    meanIs(Houses.two(0), 0.0);
    meanIs(Houses.two(1), 1.0);
    meanIs(Houses.two(2), 1.0);
    meanIs(Houses.two(3), 2.0);
  }

  private static void digest() {
    CHECKS.test("16: no lodgers, where nothing wraps around", TriedBoundariesTest::digestOfNobody);
    CHECKS.test("16: one lodger, where it wraps around", TriedBoundariesTest::digestOfOne);
    CHECKS.test("16: two lodgers, one lodger after the other", TriedBoundariesTest::digestOfTwo);
    CHECKS.test("16: numbers less than 0", TriedBoundariesTest::digestBelow);
    CHECKS.test("16: a full house, where it wraps around often", TriedBoundariesTest::digestOfSix);
  }

  // What d would be if it never wrapped around.
  private static BigInteger unwrapped(int... numbers) {
    BigInteger d = BigInteger.valueOf(1301);
    for (int x : numbers) {
      d = d.multiply(BigInteger.valueOf(31)).add(BigInteger.valueOf(x));
    }
    return d;
  }

  private static void digestIs(RentHarmony house, boolean wraps, int... numbers) {
    BigInteger d = unwrapped(numbers);
    CHECKS.due("wraps around", wraps, d.bitLength() > 63);
    CHECKS.asks("digest", house, d.longValue(), () -> house.digest());
  }

  private static void digestOfNobody() {
    digestIs(new RentHarmony(), false, 0, 0, 0, 0, 0, 1, 0);
    digestIs(Houses.deserted(0), false, 0, 0, 0, 0, 0, 1, 0);
    CHECKS.due("digest of an empty house", 35793910958442L, new RentHarmony().digest());
  }

  private static void digestOfOne() {
    digestIs(Houses.of(300, "999"), true, 1, 300, 999, 699, 0, 1, 300, 0, 999, 699, 300, 0, 0, 999);
  }

  private static void digestOfTwo() {
    digestIs(Houses.two(101), true, 2, 101, 150, 48, 1, 1, 102, 1, 60, 29, 31, 10, 1, 100, 60, 0, 90, 19, 71, 0, 0,
        90, 30);
  }

  private static void digestBelow() {
    digestIs(Houses.deserted(5999), false, 0, 5999, 0, 0, -5999, 1, 0);
    digestIs(Houses.two(0), true, 2, 0, 150, 150, 0, 1, 0, 1, 60, 80, -20, 10, 1, 100, 60, 0, 90, 70, 20, 0, 0,
        90, 30);
  }

  private static void digestOfSix() {
    int[] numbers = new int[7 + 6 * 12];
    int[] counts = {6, 5999, 5994, 0, -5, 720, 5994};
    System.arraycopy(counts, 0, numbers, 0, 7);
    for (int lodger = 0; lodger < 6; lodger++) {
      int[] own = {lodger, 999, 0, 999, 0, 0, 999, 999, 999, 999, 999, 999};
      System.arraycopy(own, 0, numbers, 7 + 12 * lodger, 12);
    }
    digestIs(Houses.alike(5999, 6, 999), true, numbers);
  }

  private static void lastCall() {
    CHECKS.test("What it is: the 512th call", TriedBoundariesTest::answersToTheEnd);
  }

  private static void answersToTheEnd() {
    RentHarmony house = new RentHarmony();
    int calls = 0;
    for (; calls < 6; calls++) {
      house.come();
    }
    for (; calls < 510; calls++) {
      house.bid(calls % 6, (calls + 1) % 6, calls);
    }
    CHECKS.due("the 511th call", 504, house.bid(0, 1, 700));
    CHECKS.due("the 512th call", 509 + 508 + 507 + 506 + 505 + 700, house.count(2));
  }
}
