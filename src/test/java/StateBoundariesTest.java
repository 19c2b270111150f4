/** A test for each boundary case of the document's terms and of promises 1 to 5; the sums are done by hand. */
public final class StateBoundariesTest {
  private static final Class<IndexOutOfBoundsException> NO_INDEX = IndexOutOfBoundsException.class;
  private static final Class<IllegalArgumentException> NO_COINS = IllegalArgumentException.class;
  private static final Class<IllegalStateException> NO_STATE = IllegalStateException.class;

  private static final Checks CHECKS = new Checks();

  public static void main(String[] args) {
    termsOfGiving();
    termsOfRebates();
    termsOfLeftOver();
    newObject();
    come();
    bid();
    bidRefused();
    rent();
    leave();
    CHECKS.end();
  }

  private static void termsOfGiving() {
    CHECKS.test("Terms: each lodger gets another room", StateBoundariesTest::eachGetsAnotherRoom);
    CHECKS.test("Terms: all givings are worth as much", StateBoundariesTest::allWorthAsMuch);
    CHECKS.test("Terms: greater by 1 comes ahead of the order of rooms", StateBoundariesTest::greaterByOne);
    CHECKS.test("Terms: lodger 0 comes ahead of lodger 1", StateBoundariesTest::lodgerZeroFirst);
    CHECKS.test("Terms: then lodger 1, and so on to the last", StateBoundariesTest::thenTheNextLodgers);
  }

  private static void eachGetsAnotherRoom() {
    for (RentHarmony house : Houses.ofAllSizes()) {
      int given = 0;
      for (int lodger = 0; lodger < house.count(0); lodger++) {
        given |= 1 << house.told(lodger, 0);
      }
      CHECKS.due("rooms given in a house of " + house.count(0), (1 << house.count(0)) - 1, given);
    }
  }

  private static void allWorthAsMuch() {
    for (int size = 1; size <= 6; size++) {
      for (int coins : new int[] {0, 1, 999}) {
        RentHarmony house = Houses.alike(0, size, coins);
        for (int lodger = 0; lodger < size; lodger++) {
          CHECKS.due("room of lodger " + lodger + " of " + size, lodger, house.told(lodger, 0));
        }
      }
    }
  }

  private static void greaterByOne() {
    RentHarmony house = Houses.of(0, "0 1", "0 0");
    CHECKS.due("room of lodger 0", 1, house.told(0, 0));
    RentHarmony great = Houses.of(0, "999 999", "999 998");
    CHECKS.due("room of lodger 0", 1, great.told(0, 0));
    RentHarmony last = Houses.of(0, "0 0 0", "0 0 0", "0 1 0");
    CHECKS.due("room of lodger 0", 0, last.told(0, 0));
    CHECKS.due("room of lodger 1", 2, last.told(1, 0));
    CHECKS.due("room of lodger 2", 1, last.told(2, 0));
  }

  // 5 + 5 + 5 stands twice: rooms 0, 2, 1 and rooms 1, 0, 2.
  private static void lodgerZeroFirst() {
    RentHarmony house = Houses.of(0, "5 5 0", "5 0 5", "0 5 5");
    CHECKS.due("givings", 2, house.count(5));
    CHECKS.due("room of lodger 0", 0, house.told(0, 0));
    CHECKS.due("room of lodger 1", 2, house.told(1, 0));
    CHECKS.due("room of lodger 2", 1, house.told(2, 0));
  }

  private static void thenTheNextLodgers() {
    RentHarmony house = Houses.of(0, "0 0 0 0 0 9", "0 0 0 0 9 0", "0 0 0 9 0 0", "0 0 9 0 0 0", "0 0 0 0 0 0",
        "0 0 0 0 0 0");
    int[] rooms = {5, 4, 3, 2, 0, 1};
    CHECKS.due("givings", 2, house.count(5));
    for (int lodger = 0; lodger < 6; lodger++) {
      CHECKS.due("room of lodger " + lodger, rooms[lodger], house.told(lodger, 0));
    }
    RentHarmony second = Houses.of(0, "0 0 9", "4 4 0", "4 4 0");
    CHECKS.due("room of lodger 1", 0, second.told(1, 0));
    CHECKS.due("room of lodger 2", 1, second.told(2, 0));
  }

  private static void termsOfRebates() {
    CHECKS.test("Terms: at first all rebates are 0", StateBoundariesTest::noRebates);
    CHECKS.test("Terms: as much of another room is not more", StateBoundariesTest::asMuchIsNotMore);
    CHECKS.test("Terms: more by 1 is a rebate of 1", StateBoundariesTest::moreByOne);
    CHECKS.test("Terms: the rebate of another one counts", StateBoundariesTest::rebateOnRebate);
    CHECKS.test("Terms: the longest line of rebates", StateBoundariesTest::longestLine);
    CHECKS.test("Terms: the greatest rebate of all", StateBoundariesTest::greatestRebate);
    CHECKS.test("Terms: the own room gives no rebate", StateBoundariesTest::ownRoom);
  }

  private static void noRebates() {
    RentHarmony house = Houses.of(0, "9 0 0", "0 9 0", "0 0 9");
    for (int lodger = 0; lodger < 3; lodger++) {
      CHECKS.due("first rebate of " + lodger, 0, house.told(lodger, 4));
    }
  }

  private static void asMuchIsNotMore() {
    RentHarmony house = Houses.of(0, "80 50", "0 50");
    CHECKS.due("first rebate", 0, house.told(0, 4));
    CHECKS.due("first rebate", 0, house.told(1, 4));
  }

  private static void moreByOne() {
    RentHarmony house = Houses.of(0, "80 51", "0 50");
    CHECKS.due("first rebate", 1, house.told(0, 4));
    CHECKS.due("first rebate", 0, house.told(1, 4));
    house.bid(0, 1, 49);
    CHECKS.due("first rebate, less by 1", 0, house.told(0, 4));
  }

  // Lodger 0 has 20 - (20 - 5) of room 1 with the rebate of lodger 1, nothing without it.
  private static void rebateOnRebate() {
    RentHarmony house = Houses.of(0, "30 20 0", "0 20 35", "0 0 30");
    CHECKS.due("first rebate of 1", 5, house.told(1, 4));
    CHECKS.due("first rebate of 0", 5, house.told(0, 4));
    CHECKS.due("first rebate of 2", 0, house.told(2, 4));
    CHECKS.due("envied by 0", 0, house.told(0, 5));
  }

  private static void longestLine() {
    RentHarmony up = Houses.six(5999);
    RentHarmony down = Houses.of(5999, "100 0 0 0 0 0", "101 100 0 0 0 0", "0 101 100 0 0 0", "0 0 101 100 0 0",
        "0 0 0 101 100 0", "0 0 0 0 101 100");
    // Lodger 3 envies 0, who envies 5, who envies 1, who envies 4, who envies 2.
    RentHarmony across = Houses.of(5999, "100 0 0 0 0 101", "0 100 0 0 101 0", "0 0 100 0 0 0", "101 0 0 100 0 0",
        "0 0 101 0 100 0", "0 101 0 0 0 100");
    int[] acrossDue = {4, 2, 0, 5, 1, 3};
    for (int lodger = 0; lodger < 6; lodger++) {
      CHECKS.due("first rebate of " + lodger + " upwards", 5 - lodger, up.told(lodger, 4));
      CHECKS.due("first rebate of " + lodger + " downwards", lodger, down.told(lodger, 4));
      CHECKS.due("first rebate of " + lodger + " across", acrossDue[lodger], across.told(lodger, 4));
    }
  }

  private static void greatestRebate() {
    RentHarmony house = Houses.of(0, "999 999", "0 0");
    CHECKS.due("first rebate", 999, house.told(0, 4));
    CHECKS.due("pay", 0, house.told(0, 3));
    RentHarmony five = Houses.of(5999, "999 0 0 0 0 999", "0 999 0 0 0 999", "0 0 999 0 0 999", "0 0 0 999 0 999",
        "0 0 0 0 999 999", "0 0 0 0 0 0");
    for (int lodger = 0; lodger < 6; lodger++) {
      CHECKS.due("first rebate of " + lodger, lodger < 5 ? 999 : 0, five.told(lodger, 4));
      CHECKS.due("pay of " + lodger, 0, five.told(lodger, 3));
    }
    CHECKS.due("all rebates", 4995, five.count(3));
    CHECKS.due("pot", -5999, five.count(4));
  }

  private static void ownRoom() {
    RentHarmony house = Houses.of(999, "999");
    CHECKS.due("first rebate of one", 0, house.told(0, 4));
    CHECKS.due("rebate of one", 0, house.told(0, 2));
  }

  private static void termsOfLeftOver() {
    CHECKS.test("Terms: / is cut towards 0, the rest is in the pot", StateBoundariesTest::cut);
    CHECKS.test("Terms: 0 is left over", StateBoundariesTest::nothingLeft);
    CHECKS.test("Terms: less than 0 is left over, and is not shared", StateBoundariesTest::lessThanNothing);
    CHECKS.test("Terms: the first rebates count for what is left over", StateBoundariesTest::rebatesAhead);
    CHECKS.test("Terms: one lodger leaves nothing in the pot", StateBoundariesTest::oneLodger);
    CHECKS.test("Terms: a pay less than 0", StateBoundariesTest::payLessThanNothing);
    CHECKS.test("Terms: without lodgers the pot is 0 less the rent", StateBoundariesTest::potWithoutLodgers);
  }

  // Six of the worth 600, whose rest is shared and kept as the rows say: rent, share, pot.
  private static void leftOverOfSix(int[][] rows) {
    for (int[] due : rows) {
      RentHarmony house = Houses.alike(due[0], 6, 100);
      CHECKS.due("pot at rent " + due[0], due[2], house.count(4));
      CHECKS.due("all rebates at rent " + due[0], 6 * due[1], house.count(3));
      CHECKS.due("all pays at rent " + due[0], 600 - 6 * due[1], house.count(6));
      for (int lodger = 0; lodger < 6; lodger++) {
        CHECKS.due("rebate at rent " + due[0], due[1], house.told(lodger, 2));
        CHECKS.due("rebate ahead at rent " + due[0], 0, house.told(lodger, 4));
        CHECKS.due("pay at rent " + due[0], 100 - due[1], house.told(lodger, 3));
      }
    }
  }

  private static void cut() {
    leftOverOfSix(new int[][] {{599, 0, 1}, {595, 0, 5}, {594, 1, 0}, {593, 1, 1}, {589, 1, 5}, {588, 2, 0},
        {1, 99, 5}, {0, 100, 0}});
  }

  private static void nothingLeft() {
    leftOverOfSix(new int[][] {{600, 0, 0}});
  }

  private static void lessThanNothing() {
    leftOverOfSix(new int[][] {{601, 0, -1}, {605, 0, -5}, {606, 0, -6}, {607, 0, -7}, {612, 0, -12},
        {5999, 0, -5399}});
  }

  // Worth 150 and a first rebate of 10.
  private static void rebatesAhead() {
    CHECKS.due("pot at rent 139", 1, Houses.two(139).count(4));
    CHECKS.due("pot at rent 140", 0, Houses.two(140).count(4));
    CHECKS.due("pot at rent 141", -1, Houses.two(141).count(4));
    CHECKS.due("rebate at rent 138", 11, Houses.two(138).told(0, 2));
    CHECKS.due("rebate at rent 139", 10, Houses.two(139).told(0, 2));
    CHECKS.due("rebate at rent 142", 10, Houses.two(142).told(0, 2));
    CHECKS.due("other rebate at rent 142", 0, Houses.two(142).told(1, 2));
  }

  private static void oneLodger() {
    for (int rent = 0; rent <= 5; rent++) {
      RentHarmony house = Houses.of(rent, "5");
      CHECKS.due("pot at rent " + rent, 0, house.count(4));
      CHECKS.due("rebate at rent " + rent, 5 - rent, house.told(0, 2));
      CHECKS.due("pay at rent " + rent, rent, house.told(0, 3));
    }
    CHECKS.due("pot at rent 6", -1, Houses.of(6, "5").count(4));
  }

  // 5 times 999 by 6 is 832 and a rest of 3.
  private static void payLessThanNothing() {
    RentHarmony house = Houses.of(0, "0 0 0 0 0 0", "0 999 0 0 0 0", "0 0 999 0 0 0", "0 0 0 999 0 0",
        "0 0 0 0 999 0", "0 0 0 0 0 999");
    CHECKS.due("pay of 0", -832, house.told(0, 3));
    CHECKS.due("pay of 1", 167, house.told(1, 3));
    CHECKS.due("pot", 3, house.count(4));
    CHECKS.due("all pays", 3, house.count(6));
  }

  private static void potWithoutLodgers() {
    for (RentHarmony house : new RentHarmony[] {new RentHarmony(), Houses.deserted(0)}) {
      for (int rent : new int[] {0, 1, 5999}) {
        house.rent(rent);
        CHECKS.due("pot at rent " + rent, -rent, house.count(4));
        CHECKS.due("worth at rent " + rent, 0, house.count(2));
        CHECKS.due("givings at rent " + rent, 1, house.count(5));
        CHECKS.due("rebates at rent " + rent, 0, house.count(3));
      }
    }
  }

  private static void newObject() {
    CHECKS.test("1: an empty house has neither lodgers nor rent", StateBoundariesTest::emptyHouse);
    CHECKS.test("1: an empty house has no lodger 0 and no room 0", StateBoundariesTest::nobodyInNewHouse);
    CHECKS.test("1: houses are apart", StateBoundariesTest::housesApart);
  }

  private static void emptyHouse() {
    int[] due = {0, 0, 0, 0, 0, 1, 0};
    RentHarmony house = new RentHarmony();
    for (int what = 0; what < 7; what++) {
      CHECKS.due("count(" + what + ")", due[what], house.count(what));
    }
    CHECKS.due("chain", 0, house.chain());
    CHECKS.due("mean", 0.0, house.mean());
    CHECKS.due("the rent before", 0, house.rent(0));
  }

  private static void nobodyInNewHouse() {
    RentHarmony house = new RentHarmony();
    CHECKS.refuses("bid", house, NO_INDEX, () -> house.bid(0, 0, 0));
    CHECKS.refuses("leave", house, NO_INDEX, () -> house.leave(0));
    CHECKS.refuses("told", house, NO_INDEX, () -> house.told(0, 0));
    CHECKS.refuses("offer", house, NO_INDEX, () -> house.offer(0, 0));
    CHECKS.refuses("envies", house, NO_INDEX, () -> house.envies(0, 0));
    CHECKS.refuses("gap", house, NO_INDEX, () -> house.gap(0, 0));
    CHECKS.refuses("would", house, NO_INDEX, () -> house.would(0, 0, 0));
    CHECKS.refuses("needs", house, NO_INDEX, () -> house.needs(0, 0));
    CHECKS.refuses("without", house, NO_INDEX, () -> house.without(0));
  }

  private static void housesApart() {
    RentHarmony full = Houses.alike(5999, 6, 999);
    RentHarmony house = new RentHarmony();
    CHECKS.due("lodgers", 0, house.count(0));
    CHECKS.due("come", 0, house.come());
    CHECKS.due("bid", 0, house.offer(0, 0));
    CHECKS.due("rent", 0, house.count(1));
    CHECKS.due("lodgers of the other one", 6, full.count(0));
  }

  private static void come() {
    CHECKS.test("2: the first to the sixth lodger", StateBoundariesTest::sixCome);
    CHECKS.test("2: the seventh lodger", StateBoundariesTest::seventhRefused);
    CHECKS.test("2: after one of six has left", StateBoundariesTest::comeAfterLeaving);
    CHECKS.test("2: after all have left", StateBoundariesTest::comeAfterAll);
    CHECKS.test("2: bids are 0 at first", StateBoundariesTest::bidsAtFirst);
    CHECKS.test("2: the first lodger in a house with a rent", StateBoundariesTest::firstWithRent);
  }

  private static void sixCome() {
    RentHarmony house = new RentHarmony();
    for (int number = 0; number < 6; number++) {
      CHECKS.due("come", number, house.come());
      CHECKS.due("lodgers", number + 1, house.count(0));
      CHECKS.due("room of the new one", number, house.told(number, 0));
      CHECKS.refuses("the next lodger is not here yet", house, NO_INDEX, () -> house.told(house.count(0), 0));
      CHECKS.refuses("the next room is not here yet", house, NO_INDEX, () -> house.offer(0, house.count(0)));
    }
  }

  private static void seventhRefused() {
    for (RentHarmony house : new RentHarmony[] {Houses.alike(0, 6, 0), Houses.six(580), Houses.alike(5999, 6, 999)}) {
      CHECKS.refuses("come", house, NO_STATE, () -> house.come());
      CHECKS.refuses("come again", house, NO_STATE, () -> house.come());
      CHECKS.due("lodgers", 6, house.count(0));
      CHECKS.refuses("lodger 6", house, NO_INDEX, () -> house.told(6, 0));
    }
  }

  private static void comeAfterLeaving() {
    for (int lodger = 0; lodger < 6; lodger++) {
      RentHarmony house = Houses.six(580);
      house.leave(lodger);
      CHECKS.due("come", 5, house.come());
      CHECKS.refuses("come in a full house", house, NO_STATE, () -> house.come());
    }
  }

  private static void comeAfterAll() {
    RentHarmony house = Houses.deserted(0);
    for (int number = 0; number < 6; number++) {
      CHECKS.due("come", number, house.come());
    }
    CHECKS.due("worth", 0, house.count(2));
    CHECKS.due("givings", 720, house.count(5));
    CHECKS.refuses("the seventh", house, NO_STATE, () -> house.come());
  }

  private static void bidsAtFirst() {
    RentHarmony house = Houses.alike(0, 6, 999);
    house.leave(5);
    house.come();
    for (int number = 0; number < 6; number++) {
      CHECKS.due("bid of the new one for " + number, 0, house.offer(5, number));
      CHECKS.due("bid of " + number + " for the new room", 0, house.offer(number, 5));
    }
    for (int lodger = 0; lodger < 5; lodger++) {
      for (int room = 0; room < 5; room++) {
        CHECKS.due("bid that stays", 999, house.offer(lodger, room));
      }
    }
  }

  private static void firstWithRent() {
    RentHarmony house = new RentHarmony();
    house.rent(7);
    house.come();
    CHECKS.due("rent", 7, house.count(1));
    CHECKS.due("pot", -7, house.count(4));
    CHECKS.due("rebate", 0, house.told(0, 2));
    CHECKS.due("pay", 0, house.told(0, 3));
  }

  private static void bid() {
    CHECKS.test("3: the least bid, 0", () -> bidTaken(0));
    CHECKS.test("3: the greatest bid, 999", () -> bidTaken(999));
    CHECKS.test("3: the first and the last lodger and room", StateBoundariesTest::cornerBids);
    CHECKS.test("3: the same bid once more", StateBoundariesTest::sameBid);
  }

  private static void bidTaken(int coins) {
    RentHarmony house = Houses.two(101);
    CHECKS.due("the bid before", 100, house.bid(0, 0, coins));
    CHECKS.due("the bid from now on", coins, house.offer(0, 0));
    CHECKS.due("the bid before", coins, house.bid(0, 0, 5));
  }

  private static void cornerBids() {
    RentHarmony house = Houses.alike(0, 6, 0);
    int[][] corners = {{0, 0}, {0, 5}, {5, 0}, {5, 5}};
    for (int k = 0; k < 4; k++) {
      CHECKS.due("the bid before", 0, house.bid(corners[k][0], corners[k][1], 900 + k));
    }
    for (int k = 0; k < 4; k++) {
      CHECKS.due("the bid from now on", 900 + k, house.offer(corners[k][0], corners[k][1]));
    }
    CHECKS.due("another bid", 0, house.offer(1, 0));
    CHECKS.due("another bid", 0, house.offer(0, 1));
    CHECKS.due("worth", 1803, house.count(2));
  }

  private static void sameBid() {
    RentHarmony house = Houses.two(101);
    CHECKS.asks("the bid before", house, 60, () -> house.bid(0, 1, 60));
  }

  private static void bidRefused() {
    CHECKS.test("3: no such lodger", () -> CHECKS.refusesNumbers((house, number) -> house.bid(number, 0, 5)));
    CHECKS.test("3: no such room", () -> CHECKS.refusesNumbers((house, number) -> house.bid(0, number, 5)));
    CHECKS.test("3: coins below 0", () -> CHECKS.refusesThese(NO_COINS,
        (house, coins) -> house.bid(0, 0, coins), -1, -999, Integer.MIN_VALUE));
    CHECKS.test("3: coins above 999", () -> CHECKS.refusesThese(NO_COINS,
        (house, coins) -> house.bid(0, 0, coins), 1000, 5999, Integer.MAX_VALUE));
    CHECKS.test("3: no such lodger comes ahead of the coins",
        () -> CHECKS.refusesNumbers((house, number) -> house.bid(number, 0, -1)));
    CHECKS.test("3: no such room comes ahead of the coins",
        () -> CHECKS.refusesNumbers((house, number) -> house.bid(0, number, 1000)));
    CHECKS.test("3: neither lodger nor room nor coins",
        () -> CHECKS.refusesNumbers((house, number) -> house.bid(number, number, number < 0 ? number : 1000)));
  }

  private static void rent() {
    CHECKS.test("4: the least rent, 0", () -> rentTaken(0));
    CHECKS.test("4: the greatest rent, 5999", () -> rentTaken(5999));
    CHECKS.test("4: the rent of a house without lodgers", StateBoundariesTest::rentWithoutLodgers);
    CHECKS.test("4: the same rent once more", StateBoundariesTest::sameRent);
    CHECKS.test("4: coins below 0", () -> rentRefused(-1, -5999, Integer.MIN_VALUE));
    CHECKS.test("4: coins above 5999", () -> rentRefused(6000, 6001, Integer.MAX_VALUE));
  }

  private static void rentTaken(int coins) {
    for (RentHarmony house : Houses.ofAllSizes()) {
      int before = house.count(1);
      CHECKS.due("the rent before", before, house.rent(coins));
      CHECKS.due("the rent from now on", coins, house.count(1));
      CHECKS.due("the rent before", coins, house.rent(1));
    }
  }

  private static void rentWithoutLodgers() {
    RentHarmony house = new RentHarmony();
    CHECKS.due("the rent before", 0, house.rent(5999));
    CHECKS.due("the pot", -5999, house.count(4));
    CHECKS.due("the rent before", 5999, house.rent(0));
    CHECKS.due("the pot", 0, house.count(4));
  }

  private static void sameRent() {
    RentHarmony house = Houses.two(101);
    CHECKS.asks("the rent before", house, 101, () -> house.rent(101));
  }

  private static void rentRefused(int... wrong) {
    for (RentHarmony house : Houses.ofAllSizes()) {
      for (int coins : wrong) {
        CHECKS.refuses("rent of " + coins, house, NO_COINS, () -> house.rent(coins));
      }
    }
  }

  private static void leave() {
    CHECKS.test("5: no such lodger", () -> CHECKS.refusesNumbers((house, number) -> house.leave(number)));
    CHECKS.test("5: each of six leaves", StateBoundariesTest::eachOfSixLeaves);
    CHECKS.test("5: the first lodger", StateBoundariesTest::firstLeaves);
    CHECKS.test("5: the last lodger", StateBoundariesTest::lastLeaves);
    CHECKS.test("5: the only lodger", StateBoundariesTest::onlyOneLeaves);
    CHECKS.test("5: all six, one after the other", StateBoundariesTest::allLeave);
    CHECKS.test("5: the room of several givings that is given", StateBoundariesTest::givenRoomIsLocked);
    CHECKS.test("5: the greatest number is gone", StateBoundariesTest::greatestNumberGone);
    CHECKS.test("5: the rent stays", StateBoundariesTest::rentStays);
  }

  // Lodger l gets room l + 2, beyond the last one from 0 on, so that all rooms are locked up once.
  private static void eachOfSixLeaves() {
    for (int lodger = 0; lodger < 6; lodger++) {
      RentHarmony house = Houses.alike(0, 6, 0);
      for (int l = 0; l < 6; l++) {
        for (int r = 0; r < 6; r++) {
          house.bid(l, r, bidOfSix(l, r));
        }
      }
      int locked = (lodger + 2) % 6;
      CHECKS.due("room of " + lodger, locked, house.leave(lodger));
      CHECKS.due("lodgers", 5, house.count(0));
      for (int l = 0; l < 5; l++) {
        int was = l < lodger ? l : l + 1;
        int hadRoom = (was + 2) % 6;
        CHECKS.due("room of " + l, hadRoom < locked ? hadRoom : hadRoom - 1, house.told(l, 0));
        for (int r = 0; r < 5; r++) {
          CHECKS.due("bid of " + l + " for " + r, bidOfSix(was, r < locked ? r : r + 1), house.offer(l, r));
        }
      }
    }
  }

  private static int bidOfSix(int lodger, int room) {
    return (lodger + 2) % 6 == room ? 900 + lodger : 10 * lodger + room;
  }

  private static void firstLeaves() {
    RentHarmony house = Houses.of(0, "9 1 2", "3 9 4", "5 6 9");
    CHECKS.due("room", 0, house.leave(0));
    int[][] due = {{9, 4}, {6, 9}};
    bidsAre(house, due);
  }

  private static void lastLeaves() {
    RentHarmony house = Houses.of(0, "9 1 2", "3 9 4", "5 6 9");
    CHECKS.due("room", 2, house.leave(2));
    int[][] due = {{9, 1}, {3, 9}};
    bidsAre(house, due);
  }

  private static void bidsAre(RentHarmony house, int[][] due) {
    CHECKS.due("lodgers", due.length, house.count(0));
    for (int lodger = 0; lodger < due.length; lodger++) {
      for (int room = 0; room < due.length; room++) {
        CHECKS.due("bid of " + lodger + " for " + room, due[lodger][room], house.offer(lodger, room));
      }
    }
  }

  private static void onlyOneLeaves() {
    RentHarmony house = Houses.of(0, "7");
    CHECKS.due("room", 0, house.leave(0));
    int[] due = {0, 0, 0, 0, 0, 1, 0};
    for (int what = 0; what < 7; what++) {
      CHECKS.due("count(" + what + ")", due[what], house.count(what));
    }
    CHECKS.refuses("nobody is here", house, NO_INDEX, () -> house.leave(0));
  }

  private static void allLeave() {
    RentHarmony house = Houses.alike(0, 6, 3);
    for (int size = 5; size >= 0; size--) {
      CHECKS.due("room", 0, house.leave(0));
      CHECKS.due("lodgers", size, house.count(0));
      CHECKS.due("worth", 3 * size, house.count(2));
    }
    CHECKS.refuses("nobody is here", house, NO_INDEX, () -> house.leave(0));
  }

  // Rooms 1, 2, 0 and rooms 2, 1, 0 are worth as much.
  private static void givenRoomIsLocked() {
    CHECKS.due("room of 0", 1, Houses.of(0, "0 5 5", "0 9 9", "5 0 0").leave(0));
    CHECKS.due("room of 1", 2, Houses.of(0, "0 5 5", "0 9 9", "5 0 0").leave(1));
    CHECKS.due("room of 2", 0, Houses.of(0, "0 5 5", "0 9 9", "5 0 0").leave(2));
  }

  private static void greatestNumberGone() {
    RentHarmony house = Houses.six(580);
    house.leave(0);
    CHECKS.refuses("lodger 5", house, NO_INDEX, () -> house.told(5, 0));
    CHECKS.refuses("room 5", house, NO_INDEX, () -> house.offer(0, 5));
    CHECKS.refuses("lodger 5 leaves", house, NO_INDEX, () -> house.leave(5));
    CHECKS.due("lodger 4 is here", 4, house.told(4, 0));
  }

  private static void rentStays() {
    RentHarmony house = Houses.of(5999, "999");
    house.leave(0);
    CHECKS.due("rent", 5999, house.count(1));
    CHECKS.due("pot", -5999, house.count(4));
  }
}
