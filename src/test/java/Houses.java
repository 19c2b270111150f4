/** Houses for the tests. */
final class Houses {
  private Houses() {
  }

  /** A house with a rent, and the bids of each lodger for all rooms as a text: "10 20 30". */
  static RentHarmony of(int rent, String... bids) {
    RentHarmony house = new RentHarmony();
    for (int lodger = 0; lodger < bids.length; lodger++) {
      house.come();
    }
    for (int lodger = 0; lodger < bids.length; lodger++) {
      String[] row = bids[lodger].split(" ");
      for (int room = 0; room < bids.length; room++) {
        house.bid(lodger, room, Integer.parseInt(row[room]));
      }
    }
    house.rent(rent);
    return house;
  }

  /** Room 1 and room 0 are given, worth 150; lodger 0 envies lodger 1 and has a first rebate of 10. */
  static RentHarmony two(int rent) {
    return of(rent, "100 60", "90 30");
  }

  /** Rooms 2, 1 and 0 are given, worth 30 + 50 + 7. */
  static RentHarmony three() {
    return of(0, "10 20 30", "5 50 40", "7 8 9");
  }

  /** Each gets the own room, and each but the last envies the next one by 1. */
  static RentHarmony six(int rent) {
    return of(rent, "100 101 0 0 0 0", "0 100 101 0 0 0", "0 0 100 101 0 0", "0 0 0 100 101 0", "0 0 0 0 100 101",
        "0 0 0 0 0 100");
  }

  /** Each of so many lodgers bids as much for each room. */
  static RentHarmony alike(int rent, int size, int coins) {
    RentHarmony house = new RentHarmony();
    for (int lodger = 0; lodger < size; lodger++) {
      house.come();
    }
    for (int lodger = 0; lodger < size; lodger++) {
      for (int room = 0; room < size; room++) {
        house.bid(lodger, room, coins);
      }
    }
    house.rent(rent);
    return house;
  }

  /** A house with a rent that all six lodgers have left. */
  static RentHarmony deserted(int rent) {
    RentHarmony house = alike(rent, 6, 999);
    for (int lodger = 5; lodger >= 0; lodger--) {
      house.leave(lodger);
    }
    return house;
  }

  /** One house of each size from 0 to 6, one that was full, and one that is deserted. */
  static RentHarmony[] ofAllSizes() {
    RentHarmony left = six(580);
    left.leave(2);
    return new RentHarmony[] {
      new RentHarmony(), of(3, "7"), two(101), three(), of(40, "5 6 7 8", "8 7 6 5", "6 6 6 6", "0 9 0 9"),
      of(12, "1 2 3 4 5", "5 4 3 2 1", "2 2 9 2 2", "0 0 0 0 1", "3 1 4 1 5"), six(580), left, deserted(9)
    };
  }
}
