/** A test for each boundary case of promises 6 to 11; the sums are done by hand. */
public final class GivenBoundariesTest {
  private static final Class<IndexOutOfBoundsException> NO_INDEX = IndexOutOfBoundsException.class;

  private static final Checks CHECKS = new Checks();

  public static void main(String[] args) {
    told();
    offer();
    countRefused();
    count();
    envies();
    gap();
    chain();
    CHECKS.end();
  }

  private static void told() {
    CHECKS.test("6: no such lodger", () -> CHECKS.refusesNumbers((house, number) -> house.told(number, 0)));
    CHECKS.test("6: what below 0", () -> CHECKS.refusesThese(NO_INDEX,
        (house, what) -> house.told(0, what), -1, -6, Integer.MIN_VALUE));
    CHECKS.test("6: what above 5", () -> CHECKS.refusesThese(NO_INDEX,
        (house, what) -> house.told(0, what), 6, 7, Integer.MAX_VALUE));
    CHECKS.test("6: neither lodger nor what",
        () -> CHECKS.refusesNumbers((house, number) -> house.told(number, number < 0 ? -1 : 6)));
    CHECKS.test("6: the only lodger, 0 to 5", GivenBoundariesTest::toldOfOne);
    CHECKS.test("6: the first and the last of six, 0 to 5", GivenBoundariesTest::toldOfSix);
    CHECKS.test("6: a pay less than 0, of 0, and the bid", GivenBoundariesTest::edgesOfPay);
    CHECKS.test("6: more than is paid alike by 0, by 1", GivenBoundariesTest::envyByOne);
    CHECKS.test("6: nobody envied, and all others envied", GivenBoundariesTest::enviedByOne);
    CHECKS.test("6: the rent doesn't count for envy", GivenBoundariesTest::envyAtEachRent);
  }

  private static void facts(RentHarmony house, int lodger, int... due) {
    for (int what = 0; what < 6; what++) {
      int fact = what;
      CHECKS.asks("told(" + lodger + ", " + what + ")", house, due[what], () -> house.told(lodger, fact));
    }
  }

  private static void toldOfOne() {
    facts(Houses.of(0, "0"), 0, 0, 0, 0, 0, 0, 0);
    facts(Houses.of(0, "999"), 0, 0, 999, 999, 0, 0, 0);
    facts(Houses.of(998, "999"), 0, 0, 999, 1, 998, 0, 0);
    facts(Houses.of(5999, "999"), 0, 0, 999, 0, 999, 0, 0);
  }

  // 600 - 573 - 15 is left over, which is 2 for each.
  private static void toldOfSix() {
    RentHarmony house = Houses.six(573);
    facts(house, 0, 0, 100, 7, 93, 5, 1);
    facts(house, 5, 5, 100, 2, 98, 0, 0);
  }

  private static void edgesOfPay() {
    CHECKS.due("at rent 0", -20, Houses.two(0).told(0, 3));
    CHECKS.due("at rent 38", -1, Houses.two(38).told(0, 3));
    CHECKS.due("at rent 39", 0, Houses.two(39).told(0, 3));
    CHECKS.due("at rent 40", 0, Houses.two(40).told(0, 3));
    CHECKS.due("at rent 41", 1, Houses.two(41).told(0, 3));
    CHECKS.due("at rent 140", 50, Houses.two(140).told(0, 3));
    CHECKS.due("at rent 5999", 50, Houses.two(5999).told(0, 3));
    CHECKS.due("of the other one at rent 5999", 90, Houses.two(5999).told(1, 3));
  }

  private static void envyByOne() {
    RentHarmony house = Houses.of(0, "50 50", "0 90");
    CHECKS.due("as great a bid", 0, house.told(0, 5));
    house.bid(0, 1, 51);
    CHECKS.due("a bid greater by 1", 1, house.told(0, 5));
    house.bid(0, 1, 49);
    CHECKS.due("a bid less by 1", 0, house.told(0, 5));
  }

  private static RentHarmony whoEnviesAll(int rent) {
    return Houses.of(rent, "10 20 20 20 20 20", "0 999 0 0 0 0", "0 0 999 0 0 0", "0 0 0 999 0 0", "0 0 0 0 999 0",
        "0 0 0 0 0 999");
  }

  private static void enviedByOne() {
    RentHarmony house = whoEnviesAll(0);
    CHECKS.due("all others", 5, house.told(0, 5));
    for (int lodger = 1; lodger < 6; lodger++) {
      CHECKS.due("nobody", 0, house.told(lodger, 5));
    }
    RentHarmony last = Houses.of(0, "999 0 0 0 0 0", "0 999 0 0 0 0", "0 0 999 0 0 0", "0 0 0 999 0 0",
        "0 0 0 0 999 0", "20 20 20 20 20 10");
    CHECKS.due("all others of the last one", 5, last.told(5, 5));
    CHECKS.due("nobody of the first one", 0, last.told(0, 5));
  }

  private static void envyAtEachRent() {
    for (int rent : new int[] {0, 1, 5, 6, 7, 5999}) {
      CHECKS.due("told at rent " + rent, 5, whoEnviesAll(rent).told(0, 5));
      CHECKS.due("envies at rent " + rent, true, whoEnviesAll(rent).envies(0, 5));
      CHECKS.due("chain at rent " + rent, 2, whoEnviesAll(rent).chain());
    }
  }

  private static void offer() {
    CHECKS.test("7: no such lodger", () -> CHECKS.refusesNumbers((house, number) -> house.offer(number, 0)));
    CHECKS.test("7: no such room", () -> CHECKS.refusesNumbers((house, number) -> house.offer(0, number)));
    CHECKS.test("7: neither lodger nor room",
        () -> CHECKS.refusesNumbers((house, number) -> house.offer(number, number)));
    CHECKS.test("7: the least and the greatest bid", GivenBoundariesTest::edgesOfOffer);
  }

  private static void edgesOfOffer() {
    RentHarmony house = Houses.alike(0, 6, 0);
    house.bid(5, 0, 999);
    CHECKS.asks("a bid of 0 at first", house, 0, () -> house.offer(0, 5));
    CHECKS.asks("a bid of 999", house, 999, () -> house.offer(5, 0));
    CHECKS.asks("the last room of the last one", house, 0, () -> house.offer(5, 5));
  }

  private static void countRefused() {
    CHECKS.test("8: what below 0", () -> countRefuses(-1, -7, Integer.MIN_VALUE));
    CHECKS.test("8: what above 6", () -> countRefuses(7, 8, Integer.MAX_VALUE));
  }

  private static void countRefuses(int... wrong) {
    for (RentHarmony house : Houses.ofAllSizes()) {
      for (int what : wrong) {
        CHECKS.refuses("count(" + what + ")", house, NO_INDEX, () -> house.count(what));
      }
    }
  }

  private static void count() {
    CHECKS.test("8: a house without lodgers, at rent 0 and 5999", GivenBoundariesTest::countOfNobody);
    CHECKS.test("8: a house of one", () -> counts(Houses.of(300, "999"), 1, 300, 999, 699, 0, 1, 300));
    CHECKS.test("8: a full house without bids and rent", () -> counts(Houses.alike(0, 6, 0), 6, 0, 0, 0, 0, 720, 0));
    CHECKS.test("8: the greatest worth at the greatest rent",
        () -> counts(Houses.alike(5999, 6, 999), 6, 5999, 5994, 0, -5, 720, 5994));
    CHECKS.test("8: the greatest worth at rent 0",
        () -> counts(Houses.alike(0, 6, 999), 6, 0, 5994, 5994, 0, 720, 0));
    CHECKS.test("8: the least pot", () -> counts(Houses.alike(5999, 6, 0), 6, 5999, 0, 0, -5999, 720, 0));
    CHECKS.test("8: the greatest pot", () -> counts(Houses.alike(589, 6, 100), 6, 589, 600, 6, 5, 720, 594));
    CHECKS.test("8: one giving alone, and one more that is worth as much", GivenBoundariesTest::oneAndTwoGivings);
    CHECKS.test("8: all givings of each size", GivenBoundariesTest::allGivings);
    CHECKS.test("8: pays less than 0 are added too", () -> counts(Houses.two(0), 2, 0, 150, 150, 0, 1, 0));
  }

  private static void counts(RentHarmony house, int... due) {
    for (int what = 0; what < 7; what++) {
      int fact = what;
      CHECKS.asks("count(" + what + ")", house, due[what], () -> house.count(fact));
    }
  }

  private static void countOfNobody() {
    counts(new RentHarmony(), 0, 0, 0, 0, 0, 1, 0);
    counts(Houses.deserted(0), 0, 0, 0, 0, 0, 1, 0);
    counts(Houses.deserted(5999), 0, 5999, 0, 0, -5999, 1, 0);
  }

  private static void oneAndTwoGivings() {
    CHECKS.due("worth less by 1", 1, Houses.of(0, "5 4", "5 5").count(5));
    CHECKS.due("worth as much", 2, Houses.of(0, "5 5", "5 5").count(5));
    CHECKS.due("worth more by 1", 1, Houses.of(0, "5 6", "5 5").count(5));
  }

  private static void allGivings() {
    int[] due = {1, 1, 2, 6, 24, 120, 720};
    for (int size = 0; size <= 6; size++) {
      CHECKS.due("givings of " + size, due[size], Houses.alike(0, size, 7).count(5));
    }
  }

  private static void envies() {
    CHECKS.test("9: no such first lodger",
        () -> CHECKS.refusesNumbers((house, number) -> house.envies(number, 0)));
    CHECKS.test("9: no such second lodger",
        () -> CHECKS.refusesNumbers((house, number) -> house.envies(0, number)));
    CHECKS.test("9: neither lodger", () -> CHECKS.refusesNumbers((house, number) -> house.envies(number, number)));
    CHECKS.test("9: nobody envies the own room", GivenBoundariesTest::nobodyEnviesThemselves);
    CHECKS.test("9: a bid less by 1, as great, greater by 1", GivenBoundariesTest::enviesByOne);
    CHECKS.test("9: the first and the last of six", GivenBoundariesTest::enviesAcrossSix);
    CHECKS.test("9: rebates don't count for envy", GivenBoundariesTest::enviesWithoutRebates);
  }

  private static void nobodyEnviesThemselves() {
    for (RentHarmony house : Houses.ofAllSizes()) {
      CHECKS.due("lodgers", true, house.count(0) <= 6);
      for (int lodger = 0; lodger < house.count(0); lodger++) {
        int asked = lodger;
        CHECKS.asks("lodger " + lodger, house, false, () -> house.envies(asked, asked));
      }
    }
  }

  private static void enviesByOne() {
    CHECKS.due("less by 1", false, Houses.of(0, "50 49", "0 90").envies(0, 1));
    CHECKS.due("as great", false, Houses.of(0, "50 50", "0 90").envies(0, 1));
    CHECKS.due("greater by 1", true, Houses.of(0, "50 51", "0 90").envies(0, 1));
    CHECKS.due("the other way", false, Houses.of(0, "50 51", "0 90").envies(1, 0));
  }

  private static void enviesAcrossSix() {
    RentHarmony house = Houses.of(0, "100 0 0 0 0 101", "0 0 0 0 0 0", "0 0 0 0 0 0", "0 0 0 0 0 0", "0 0 0 0 0 0",
        "0 0 0 0 0 100");
    CHECKS.due("room of 5", 5, house.told(5, 0));
    CHECKS.asks("the first one envies the last", house, true, () -> house.envies(0, 5));
    CHECKS.asks("the last one envies the first", house, false, () -> house.envies(5, 0));
    house.bid(5, 0, 999);
    house.bid(0, 5, 999);
    CHECKS.due("room of 5 now", 0, house.told(5, 0));
    CHECKS.due("the first one envies the last", false, house.envies(0, 5));
  }

  // With the rebate of lodger 1, lodger 0 has more of room 1; if all paid alike as much.
  private static void enviesWithoutRebates() {
    RentHarmony house = Houses.of(0, "30 30 0", "0 20 35", "0 0 30");
    CHECKS.due("first rebate", 15, house.told(0, 4));
    CHECKS.due("envies", false, house.envies(0, 1));
  }

  private static void gap() {
    CHECKS.test("10: no such first lodger", () -> CHECKS.refusesNumbers((house, number) -> house.gap(number, 0)));
    CHECKS.test("10: no such second lodger", () -> CHECKS.refusesNumbers((house, number) -> house.gap(0, number)));
    CHECKS.test("10: neither lodger", () -> CHECKS.refusesNumbers((house, number) -> house.gap(number, number)));
    CHECKS.test("10: 0 to the own room", GivenBoundariesTest::noGapToThemselves);
    CHECKS.test("10: never less than 0", GivenBoundariesTest::neverLessThanNothing);
    CHECKS.test("10: 0 where the rebate just stills the envy, 1 beside it", GivenBoundariesTest::gapByOne);
    CHECKS.test("10: the greatest gap of all", GivenBoundariesTest::greatestGap);
    CHECKS.test("10: what is left over changes no gap", GivenBoundariesTest::gapAtEachRent);
  }

  private static void noGapToThemselves() {
    for (RentHarmony house : Houses.ofAllSizes()) {
      CHECKS.due("lodgers", true, house.count(0) <= 6);
      for (int lodger = 0; lodger < house.count(0); lodger++) {
        int asked = lodger;
        CHECKS.asks("lodger " + lodger, house, 0, () -> house.gap(asked, asked));
      }
    }
  }

  private static void neverLessThanNothing() {
    for (RentHarmony house : Houses.ofAllSizes()) {
      CHECKS.due("lodgers", true, house.count(0) <= 6);
      for (int a = 0; a < house.count(0); a++) {
        for (int b = 0; b < house.count(0); b++) {
          CHECKS.due("gap(" + a + ", " + b + ") is " + house.gap(a, b), true, house.gap(a, b) >= 0);
        }
      }
    }
  }

  private static void gapByOne() {
    CHECKS.due("a rebate of 1", 0, Houses.of(0, "50 51", "0 50").gap(0, 1));
    CHECKS.due("just no rebate", 0, Houses.of(0, "50 50", "0 50").gap(0, 1));
    CHECKS.due("1 is missing", 1, Houses.of(0, "50 49", "0 50").gap(0, 1));
  }

  // Lodger 0 has a rebate of 999 for the room of lodger 2, and nothing of the room of lodger 1, who pays 999.
  private static void greatestGap() {
    RentHarmony house = Houses.of(999, "999 0 999", "0 999 0", "0 0 0");
    CHECKS.asks("gap(0, 1)", house, 1998, () -> house.gap(0, 1));
    CHECKS.asks("gap(0, 2)", house, 0, () -> house.gap(0, 2));
    CHECKS.asks("gap(1, 0)", house, 0, () -> house.gap(1, 0));
    CHECKS.asks("gap(1, 2)", house, 0, () -> house.gap(1, 2));
    CHECKS.asks("gap(2, 0)", house, 0, () -> house.gap(2, 0));
    CHECKS.asks("gap(2, 1)", house, 999, () -> house.gap(2, 1));
  }

  private static void gapAtEachRent() {
    for (int rent : new int[] {0, 138, 139, 140, 141, 5999}) {
      CHECKS.due("gap(0, 1) at rent " + rent, 0, Houses.two(rent).gap(0, 1));
      CHECKS.due("gap(1, 0) at rent " + rent, 20, Houses.two(rent).gap(1, 0));
    }
  }

  private static void chain() {
    CHECKS.test("11: 0 without lodgers", GivenBoundariesTest::chainOfNobody);
    CHECKS.test("11: 1 if nobody envies anybody", GivenBoundariesTest::chainWithoutEnvy);
    CHECKS.test("11: the longest chain, of all six", GivenBoundariesTest::chainOfSix);
    CHECKS.test("11: one envied lodger, a bid greater by 1", GivenBoundariesTest::chainOfTwo);
    CHECKS.test("11: the longer one of two chains", GivenBoundariesTest::longerChain);
    CHECKS.test("11: the longer way to the same lodger", GivenBoundariesTest::longerWay);
    CHECKS.test("11: a chain without one in the middle", GivenBoundariesTest::chainWithoutOne);
  }

  private static void chainOfNobody() {
    for (RentHarmony house : new RentHarmony[] {new RentHarmony(), Houses.deserted(0), Houses.deserted(5999)}) {
      CHECKS.asks("chain", house, 0, () -> house.chain());
    }
  }

  private static void chainWithoutEnvy() {
    for (int size = 1; size <= 6; size++) {
      CHECKS.due("no bids, " + size, 1, Houses.alike(0, size, 0).chain());
      CHECKS.due("the same bids, " + size, 1, Houses.alike(5999, size, 999).chain());
    }
    CHECKS.due("as great bids for other rooms", 1, Houses.of(0, "9 9 0", "0 9 9", "0 0 9").chain());
  }

  private static void chainOfSix() {
    RentHarmony up = Houses.six(0);
    RentHarmony across = Houses.of(0, "100 0 0 0 0 101", "0 100 0 0 101 0", "0 0 100 0 0 0", "101 0 0 100 0 0",
        "0 0 101 0 100 0", "0 101 0 0 0 100");
    CHECKS.asks("upwards", up, 6, () -> up.chain());
    CHECKS.asks("across", across, 6, () -> across.chain());
    RentHarmony all = Houses.of(0, "100 101 102 103 104 105", "0 100 101 102 103 104", "0 0 100 101 102 103",
        "0 0 0 100 101 102", "0 0 0 0 100 101", "0 0 0 0 0 100");
    CHECKS.due("each envies all the next ones", 6, all.chain());
  }

  private static void chainOfTwo() {
    CHECKS.due("as great", 1, Houses.of(0, "50 50", "0 90").chain());
    CHECKS.due("greater by 1", 2, Houses.of(0, "50 51", "0 90").chain());
    CHECKS.due("all envy one", 2, Houses.of(0, "100 0 0", "20 10 0", "20 0 10").chain());
    CHECKS.due("one envies all", 2, whoEnviesAll(0).chain());
  }

  // Lodgers 0 and 1 are one chain, lodgers 2 to 4 the other one.
  private static void longerChain() {
    RentHarmony house = Houses.of(0, "100 101 0 0 0", "0 100 0 0 0", "0 0 100 101 0", "0 0 0 100 101", "0 0 0 0 100");
    CHECKS.due("the last one is longer", 3, house.chain());
    house.bid(1, 2, 101);
    CHECKS.due("one of both", 5, house.chain());
    house.bid(2, 3, 100);
    CHECKS.due("the first one is longer", 3, house.chain());
  }

  // Lodger 0 envies lodger 3 at once, and by way of lodgers 1 and 2.
  private static void longerWay() {
    RentHarmony house = Houses.of(0, "100 101 0 101", "0 100 101 0", "0 0 100 101", "0 0 0 100");
    CHECKS.due("chain", 4, house.chain());
  }

  private static void chainWithoutOne() {
    int[] due = {5, 4, 3, 3, 4, 5};
    for (int lodger = 0; lodger < 6; lodger++) {
      RentHarmony house = Houses.six(0);
      house.leave(lodger);
      CHECKS.due("without " + lodger, due[lodger], house.chain());
    }
  }
}
