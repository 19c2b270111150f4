/** Each promise of the document by itself: ordinary inputs, edges, wrong inputs; the sums are done by hand. */
public final class PromisesTest {
  private static final Class<IndexOutOfBoundsException> NO_INDEX = IndexOutOfBoundsException.class;
  private static final Class<IllegalArgumentException> NO_COINS = IllegalArgumentException.class;
  private static final Class<IllegalStateException> NO_STATE = IllegalStateException.class;
  private static final int[] WRONG_COINS = {-1, -2, Integer.MIN_VALUE, Integer.MAX_VALUE};

  private static final Checks CHECKS = new Checks();

  public static void main(String[] args) {
    promise1();
    promise2();
    promise3();
    promise4();
    promise5();
    promise5WhoComesAfter();
    promise6();
    promise6RebatesOnRebates();
    promise7();
    promise8();
    promise8LeftOver();
    promise8Givings();
    promise9();
    promise10();
    promise11();
    promise12();
    promise13();
    promise14();
    promise15();
    promise16();
    CHECKS.end();
  }

  private static void promise1() {
    RentHarmony house = new RentHarmony();
    for (int what = 0; what < 7; what++) {
      CHECKS.due("1: count(" + what + ") of an empty house", what == 5 ? 1 : 0, house.count(what));
    }
    CHECKS.due("1: chain of an empty house", 0, house.chain());
    CHECKS.due("1: mean of an empty house", 0.0, house.mean());
    RentHarmony other = Houses.two(100);
    CHECKS.due("1: houses are apart", 0, house.count(0));
    CHECKS.due("1: houses are apart", 2, other.count(0));
  }

  private static void promise2() {
    RentHarmony house = new RentHarmony();
    for (int number = 0; number < 6; number++) {
      CHECKS.due("2: come", number, house.come());
      CHECKS.due("2: lodgers", number + 1, house.count(0));
      for (int other = 0; other <= number; other++) {
        CHECKS.due("2: first bid", 0, house.offer(number, other));
        CHECKS.due("2: first bid", 0, house.offer(other, number));
        house.bid(number, other, 7);
        house.bid(other, number, 8);
      }
    }
    CHECKS.refuses("2: a seventh", house, NO_STATE, () -> house.come());
    CHECKS.refuses("2: a seventh again", house, NO_STATE, () -> house.come());
    house.leave(3);
    CHECKS.due("2: come for one who left", 5, house.come());
    CHECKS.refuses("2: a seventh after that", house, NO_STATE, () -> house.come());
    RentHarmony settled = Houses.two(101);
    CHECKS.due("2: a third", 2, settled.come());
    CHECKS.due("2: the third gets the third room", 2, settled.told(2, 0));
    CHECKS.due("2: worth with a third", 150, settled.count(2));
    CHECKS.due("2: left over is shared by three", 13, settled.told(2, 2));
  }

  private static void promise3() {
    RentHarmony house = Houses.two(0);
    CHECKS.due("3: the bid before", 60, house.bid(0, 1, 61));
    CHECKS.due("3: the bid before", 61, house.bid(0, 1, 999));
    CHECKS.due("3: the bid before", 999, house.bid(0, 1, 0));
    CHECKS.due("3: the bid from now on", 0, house.offer(0, 1));
    CHECKS.due("3: another bid stays", 100, house.offer(0, 0));
    CHECKS.due("3: another bid stays", 90, house.offer(1, 0));
    CHECKS.due("3: another bid stays", 30, house.offer(1, 1));
    CHECKS.due("3: the giving follows the bid", 0, house.told(0, 0));
    CHECKS.due("3: the worth follows the bid", 130, house.count(2));
    CHECKS.refuses("3: bid of 1000", house, NO_COINS, () -> house.bid(0, 0, 1000));
    for (int coins : WRONG_COINS) {
      CHECKS.refuses("3: bid of " + coins, house, NO_COINS, () -> house.bid(1, 1, coins));
      CHECKS.refuses("3: no lodger comes first, " + coins, house, NO_INDEX, () -> house.bid(2, 1, coins));
      CHECKS.refuses("3: no room comes first, " + coins, house, NO_INDEX, () -> house.bid(1, -1, coins));
    }
  }

  private static void promise4() {
    RentHarmony house = new RentHarmony();
    CHECKS.due("4: the rent before", 0, house.rent(5999));
    CHECKS.due("4: the rent before", 5999, house.rent(7));
    CHECKS.due("4: the rent from now on", 7, house.count(1));
    CHECKS.due("4: the pot without lodgers", -7, house.count(4));
    CHECKS.refuses("4: rent of 6000", house, NO_COINS, () -> house.rent(6000));
    for (int coins : WRONG_COINS) {
      CHECKS.refuses("4: rent of " + coins, house, NO_COINS, () -> house.rent(coins));
    }
    CHECKS.due("4: the rent before", 7, house.rent(0));
    RentHarmony two = Houses.two(101);
    CHECKS.due("4: the rent before", 101, two.rent(120));
    CHECKS.due("4: pays follow the rent", 40, two.told(0, 3));
    CHECKS.refuses("4: rent of 6000", two, NO_COINS, () -> two.rent(6000));
  }

  private static void promise5() {
    RentHarmony house = Houses.three();
    // 30 + 50 + 7 is the greatest.
    CHECKS.refuses("5: no such lodger", house, NO_INDEX, () -> house.leave(3));
    CHECKS.refuses("5: no such lodger", house, NO_INDEX, () -> house.leave(-1));
    CHECKS.due("5: the room that is locked up", 2, house.leave(0));
    CHECKS.due("5: lodgers", 2, house.count(0));
    CHECKS.due("5: bids", 5, house.offer(0, 0));
    CHECKS.due("5: bids", 50, house.offer(0, 1));
    CHECKS.due("5: bids", 7, house.offer(1, 0));
    CHECKS.due("5: bids", 8, house.offer(1, 1));
    CHECKS.refuses("5: the number is gone", house, NO_INDEX, () -> house.leave(2));
    CHECKS.due("5: worth", 57, house.count(2));
    CHECKS.due("5: the room that is locked up", 0, house.leave(1));
    CHECKS.due("5: bids", 50, house.offer(0, 0));
    CHECKS.due("5: the last one", 0, house.leave(0));
    CHECKS.due("5: nobody is left", 0, house.count(0));
    CHECKS.due("5: one giving is left", 1, house.count(5));
    CHECKS.due("5: no worth is left", 0, house.count(2));
    CHECKS.refuses("5: nobody can leave", house, NO_INDEX, () -> house.leave(0));
    RentHarmony middle = Houses.three();
    CHECKS.due("5: from the middle", 1, middle.leave(1));
    CHECKS.due("5: bids", 10, middle.offer(0, 0));
    CHECKS.due("5: bids", 30, middle.offer(0, 1));
    CHECKS.due("5: bids", 7, middle.offer(1, 0));
    CHECKS.due("5: bids", 9, middle.offer(1, 1));
    RentHarmony rented = Houses.two(101);
    rented.leave(0);
    CHECKS.due("5: the rent stays", 101, rented.count(1));
    CHECKS.due("5: the pot", -11, rented.count(4));
  }

  private static void promise5WhoComesAfter() {
    RentHarmony house = Houses.three();
    house.leave(2);
    CHECKS.due("5: after leaving", 2, house.come());
    for (int number = 0; number < 3; number++) {
      CHECKS.due("5: nothing is left of the bids", 0, house.offer(2, number));
      CHECKS.due("5: nothing is left of the bids", 0, house.offer(number, 2));
    }
    CHECKS.due("5: the others keep theirs", 20, house.offer(0, 0));
    CHECKS.due("5: the others keep theirs", 40, house.offer(1, 1));
  }

  private static void promise6() {
    RentHarmony house = Houses.two(101);
    int[][] due = {{1, 60, 29, 31, 10, 1}, {0, 90, 19, 71, 0, 0}};
    for (int lodger = 0; lodger < 2; lodger++) {
      for (int what = 0; what < 6; what++) {
        int asked = lodger;
        int fact = what;
        CHECKS.asks("6: told(" + lodger + ", " + what + ")", house, due[lodger][what], () -> house.told(asked, fact));
      }
    }
    for (int what : new int[] {-1, 6, 7, Integer.MIN_VALUE, Integer.MAX_VALUE}) {
      CHECKS.refuses("6: told(0, " + what + ")", house, NO_INDEX, () -> house.told(0, what));
    }
    house.rent(0);
    CHECKS.due("6: a pay less than 0", -20, house.told(0, 3));
    CHECKS.due("6: the other pay", 20, house.told(1, 3));
    house.rent(500);
    CHECKS.due("6: rebate if nothing is left over", 10, house.told(0, 2));
    CHECKS.due("6: rebate if nothing is left over", 0, house.told(1, 2));
    CHECKS.due("6: pay if nothing is left over", 50, house.told(0, 3));
    CHECKS.due("6: envied whatever the rent is", 1, house.told(0, 5));
    RentHarmony alike = Houses.of(0, "3 3 3", "3 3 3", "3 3 3");
    for (int lodger = 0; lodger < 3; lodger++) {
      CHECKS.due("6: the smallest room for the smallest number", lodger, alike.told(lodger, 0));
      CHECKS.due("6: a bid as great is no envy", 0, alike.told(lodger, 5));
      CHECKS.due("6: a bid as great is no rebate", 0, alike.told(lodger, 4));
    }
    // 5 + 9 + 5 stands twice: rooms 1, 2, 0 and rooms 2, 1, 0.
    RentHarmony twice = Houses.of(0, "0 5 5", "0 9 9", "5 0 0");
    CHECKS.due("6: lodger 0 comes first", 1, twice.told(0, 0));
    CHECKS.due("6: then lodger 1", 2, twice.told(1, 0));
    CHECKS.due("6: then lodger 2", 0, twice.told(2, 0));
  }

  private static void promise6RebatesOnRebates() {
    RentHarmony house = Houses.of(48, "10 22 0", "0 20 35", "0 0 30");
    int[] first = {7, 5, 0};
    int[] pays = {3, 15, 30};
    for (int lodger = 0; lodger < 3; lodger++) {
      CHECKS.due("6: own room", lodger, house.told(lodger, 0));
      CHECKS.due("6: first rebate of " + lodger, first[lodger], house.told(lodger, 4));
      CHECKS.due("6: rebate of " + lodger, first[lodger], house.told(lodger, 2));
      CHECKS.due("6: pay of " + lodger, pays[lodger], house.told(lodger, 3));
    }
    RentHarmony six = Houses.six(580);
    for (int lodger = 0; lodger < 6; lodger++) {
      CHECKS.due("6: first rebate of " + lodger + " of six", 5 - lodger, six.told(lodger, 4));
      CHECKS.due("6: envied by " + lodger + " of six", lodger < 5 ? 1 : 0, six.told(lodger, 5));
    }
    house.bid(0, 1, 0);
    CHECKS.due("6: a rebate falls as well", 0, house.told(0, 4));
    // 100 + 10 + 0 is the greatest, though lodger 1 bids more for room 0 than lodger 0, who gets it.
    RentHarmony smallest = Houses.of(0, "100 0 0", "105 10 0", "60 0 0");
    CHECKS.due("6: rebate for the room of lodger 0", 5, smallest.told(1, 4));
    CHECKS.due("6: no rebate for the room of lodger 0", 0, smallest.told(2, 4));
    CHECKS.due("6: lodger 0 is envied", 1, smallest.told(1, 5));
    CHECKS.due("6: lodger 0 is envied", 1, smallest.told(2, 5));
    CHECKS.due("6: lodger 0 envies nobody", 0, smallest.told(0, 5));
  }

  private static void promise7() {
    RentHarmony house = Houses.three();
    int[][] due = {{10, 20, 30}, {5, 50, 40}, {7, 8, 9}};
    for (int lodger = 0; lodger < 3; lodger++) {
      for (int room = 0; room < 3; room++) {
        int asked = lodger;
        int door = room;
        CHECKS.asks("7: offer", house, due[lodger][room], () -> house.offer(asked, door));
      }
    }
  }

  private static void promise8() {
    RentHarmony house = Houses.two(101);
    int[] due = {2, 101, 150, 48, 1, 1, 102};
    for (int what = 0; what < 7; what++) {
      int fact = what;
      CHECKS.asks("8: count(" + what + ")", house, due[what], () -> house.count(fact));
    }
    for (int what : new int[] {-1, 7, 8, Integer.MIN_VALUE, Integer.MAX_VALUE}) {
      CHECKS.refuses("8: count(" + what + ")", house, NO_INDEX, () -> house.count(what));
      CHECKS.refuses("8: count(" + what + ") without lodgers", new RentHarmony(), NO_INDEX,
          () -> new RentHarmony().count(what));
    }
    RentHarmony most = Houses.alike(5999, 6, 999);
    CHECKS.due("8: the greatest worth", 5994, most.count(2));
    CHECKS.due("8: its pot", -5, most.count(4));
    CHECKS.due("8: its givings", 720, most.count(5));
    CHECKS.due("8: its pays", 5994, most.count(6));
  }

  private static void promise8LeftOver() {
    int[][] rentAndDue = {
      {138, 12, 0, 138}, {139, 10, 1, 140}, {140, 10, 0, 140}, {141, 10, -1, 140}, {142, 10, -2, 140},
      {143, 10, -3, 140}
    };
    for (int[] due : rentAndDue) {
      RentHarmony house = Houses.two(due[0]);
      CHECKS.due("8: rebates at rent " + due[0], due[1], house.count(3));
      CHECKS.due("8: pot at rent " + due[0], due[2], house.count(4));
      CHECKS.due("8: pays at rent " + due[0], due[3], house.count(6));
    }
    CHECKS.due("8: pot of six", 5, Houses.six(580).count(4));
    CHECKS.due("8: pot of six", 0, Houses.six(579).count(4));
    CHECKS.due("8: rebates of six", 15, Houses.six(580).count(3));
    CHECKS.due("8: rebates of six", 21, Houses.six(579).count(3));
    CHECKS.due("8: pot of six", -1, Houses.six(586).count(4));
    RentHarmony one = Houses.of(4, "5");
    CHECKS.due("8: rebates of one", 1, one.count(3));
    CHECKS.due("8: pot of one", 0, one.count(4));
    RentHarmony left = Houses.two(20);
    left.leave(0);
    left.leave(0);
    CHECKS.due("8: pot when all have left", -20, left.count(4));
    CHECKS.due("8: rebates when all have left", 0, left.count(3));
    CHECKS.due("8: pays when all have left", 0, left.count(6));
  }

  private static void promise8Givings() {
    RentHarmony house = new RentHarmony();
    int givings = 1;
    for (int size = 1; size <= 6; size++) {
      house.come();
      givings *= size;
      CHECKS.due("8: givings of " + size + " without bids", givings, house.count(5));
    }
    CHECKS.due("8: givings of six", 1, Houses.six(0).count(5));
    CHECKS.due("8: givings that are worth as much", 2, Houses.of(0, "0 5 5", "0 9 9", "5 0 0").count(5));
    CHECKS.due("8: givings of two", 2, Houses.of(0, "4 1", "7 4").count(5));
    CHECKS.due("8: givings of two", 1, Houses.of(0, "4 1", "7 5").count(5));
  }

  private static void promise9() {
    RentHarmony house = Houses.two(101);
    CHECKS.asks("9: envies(0, 1)", house, true, () -> house.envies(0, 1));
    CHECKS.asks("9: envies(1, 0)", house, false, () -> house.envies(1, 0));
    CHECKS.asks("9: nobody envies the own room", house, false, () -> house.envies(0, 0));
    RentHarmony six = Houses.six(0);
    for (int a = 0; a < 6; a++) {
      for (int b = 0; b < 6; b++) {
        CHECKS.due("9: envies(" + a + ", " + b + ") of six", b == a + 1, six.envies(a, b));
      }
    }
    RentHarmony alike = Houses.of(5999, "3 3", "3 3");
    CHECKS.due("9: a bid as great is no envy", false, alike.envies(0, 1));
    CHECKS.due("9: a bid as great is no envy", false, alike.envies(1, 0));
  }

  private static void promise10() {
    RentHarmony house = Houses.two(101);
    CHECKS.asks("10: gap(0, 1)", house, 0, () -> house.gap(0, 1));
    CHECKS.asks("10: gap(1, 0)", house, 20, () -> house.gap(1, 0));
    CHECKS.asks("10: gap(0, 0)", house, 0, () -> house.gap(0, 0));
    house.rent(500);
    CHECKS.due("10: gap(1, 0) if nothing is left over", 20, house.gap(1, 0));
    RentHarmony six = Houses.six(0);
    CHECKS.due("10: gap(0, 1) of six", 0, six.gap(0, 1));
    CHECKS.due("10: gap(1, 0) of six", 99, six.gap(1, 0));
    CHECKS.due("10: gap(0, 5) of six", 105, six.gap(0, 5));
    CHECKS.due("10: gap(5, 0) of six", 95, six.gap(5, 0));
  }

  private static void promise11() {
    RentHarmony house = new RentHarmony();
    CHECKS.due("11: nobody", 0, house.chain());
    house.come();
    CHECKS.due("11: one", 1, house.chain());
    house.come();
    CHECKS.due("11: two without envy", 1, house.chain());
    RentHarmony two = Houses.two(0);
    CHECKS.asks("11: two", two, 2, () -> two.chain());
    CHECKS.due("11: three", 3, Houses.of(0, "10 22 0", "0 20 35", "0 0 30").chain());
    CHECKS.due("11: six", 6, Houses.six(0).chain());
    // Lodgers 1 and 2 both envy lodger 0, and nobody envies them.
    CHECKS.due("11: two who envy one", 2, Houses.of(0, "100 0 0", "20 10 0", "20 0 10").chain());
    RentHarmony back = Houses.six(0);
    for (int lodger = 0; lodger < 5; lodger++) {
      back.bid(lodger, lodger + 1, 0);
      back.bid(lodger + 1, lodger, 101);
    }
    CHECKS.due("11: six the other way", 6, back.chain());
    back.bid(3, 2, 100);
    CHECKS.due("11: the longer half", 3, back.chain());
  }

  private static void promise12() {
    RentHarmony house = Houses.two(101);
    CHECKS.asks("12: would(0, 0, 119)", house, 1, () -> house.would(0, 0, 119));
    CHECKS.asks("12: would(0, 0, 120)", house, 0, () -> house.would(0, 0, 120));
    CHECKS.asks("12: would(0, 1, 40)", house, 0, () -> house.would(0, 1, 40));
    CHECKS.asks("12: would(0, 1, 41)", house, 1, () -> house.would(0, 1, 41));
    CHECKS.asks("12: would(1, 0, 0)", house, 1, () -> house.would(1, 0, 0));
    CHECKS.asks("12: would(1, 1, 999)", house, 1, () -> house.would(1, 1, 999));
    CHECKS.asks("12: would(1, 1, 30), as it is", house, 0, () -> house.would(1, 1, 30));
    CHECKS.refuses("12: would(0, 0, 1000)", house, NO_COINS, () -> house.would(0, 0, 1000));
    for (int coins : WRONG_COINS) {
      CHECKS.refuses("12: would(1, 0, " + coins + ")", house, NO_COINS, () -> house.would(1, 0, coins));
      CHECKS.refuses("12: no lodger comes first, " + coins, house, NO_INDEX, () -> house.would(-1, 0, coins));
      CHECKS.refuses("12: no room comes first, " + coins, house, NO_INDEX, () -> house.would(1, 2, coins));
    }
  }

  private static void promise13() {
    RentHarmony house = Houses.two(101);
    CHECKS.asks("13: needs(0, 0), as great is enough", house, 120, () -> house.needs(0, 0));
    CHECKS.asks("13: needs(0, 1), as great is not enough", house, 41, () -> house.needs(0, 1));
    CHECKS.asks("13: needs(1, 0)", house, 71, () -> house.needs(1, 0));
    CHECKS.asks("13: needs(1, 1)", house, 50, () -> house.needs(1, 1));
    RentHarmony one = Houses.of(0, "5");
    CHECKS.asks("13: the only room", one, 0, () -> one.needs(0, 0));
    RentHarmony far = Houses.of(0, "999 0", "0 999");
    CHECKS.asks("13: there is none", far, -1, () -> far.needs(0, 1));
    CHECKS.asks("13: the own room", far, 0, () -> far.needs(0, 0));
    CHECKS.asks("13: 999 is enough", Houses.of(0, "0 999", "0 0"), 999,
        () -> Houses.of(0, "0 999", "0 0").needs(0, 0));
    CHECKS.due("13: 999 is not enough", -1, Houses.of(0, "999 0", "0 0").needs(0, 1));
    CHECKS.due("13: 999 is enough by 1", 999, Houses.of(0, "998 0", "0 0").needs(0, 1));
    CHECKS.due("13: 1 is enough", 1, Houses.of(0, "0 0", "0 0").needs(0, 1));
    CHECKS.due("13: 0 is enough", 0, Houses.of(0, "0 0", "0 0").needs(1, 1));
  }

  private static void promise14() {
    RentHarmony house = Houses.three();
    CHECKS.asks("14: without(0)", house, 59, () -> house.without(0));
    CHECKS.asks("14: without(1)", house, 38, () -> house.without(1));
    CHECKS.asks("14: without(2)", house, 80, () -> house.without(2));
    RentHarmony two = Houses.two(101);
    CHECKS.due("14: the best room of all for who is left", 90, two.without(0));
    CHECKS.due("14: the best room of all for who is left", 100, two.without(1));
    RentHarmony one = Houses.of(0, "5");
    CHECKS.asks("14: without any other one", one, 0, () -> one.without(0));
  }

  private static void promise15() {
    CHECKS.due("15: nobody pays", 0.0, new RentHarmony().mean());
    RentHarmony unpaid = new RentHarmony();
    unpaid.rent(100);
    CHECKS.due("15: nobody pays any rent", 0.0, unpaid.mean());
    RentHarmony house = Houses.two(101);
    CHECKS.asks("15: mean", house, 51.0, () -> house.mean());
    house.bid(0, 1, 61);
    house.rent(500);
    CHECKS.due("15: a mean with a half", 70.5, house.mean());
    house.bid(1, 0, 91);
    CHECKS.due("15: a mean with a half", 71.5, house.mean());
    RentHarmony three = Houses.of(10, "5 0 0", "0 5 0", "0 0 1");
    CHECKS.due("15: a third", 11 / 3.0, Houses.of(20, "5 0 0", "0 5 0", "0 0 1").mean());
    CHECKS.due("15: what stays in the pot is paid", 11 / 3.0, three.mean());
    CHECKS.due("15: nothing is paid", 0.0, Houses.two(0).mean());
  }

  private static void promise16() {
    // 1301 * 31 to the 7th, and the one giving * 31.
    CHECKS.due("16: digest of an empty house", 35793910958442L, new RentHarmony().digest());
    RentHarmony[] houses = {new RentHarmony(), Houses.two(101), Houses.three(), Houses.six(580), Houses.of(7, "999")};
    for (RentHarmony house : houses) {
      CHECKS.asks("16: digest", house, digestOf(house), () -> house.digest());
    }
  }

  private static long digestOf(RentHarmony house) {
    long d = 1301;
    for (int what = 0; what <= 6; what++) {
      d = d * 31 + house.count(what);
    }
    for (int lodger = 0; lodger < house.count(0); lodger++) {
      for (int what = 0; what <= 5; what++) {
        d = d * 31 + house.told(lodger, what);
      }
      for (int room = 0; room < house.count(0); room++) {
        d = d * 31 + house.offer(lodger, room);
      }
    }
    return d;
  }
}
