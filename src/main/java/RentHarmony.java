/** Lodgers who share a house, and its rent. */
public final class RentHarmony {
  private static final int MOST_LODGERS = 6;
  private static final int MOST_BID = 999;
  private static final int MOST_RENT = 5999;
  private static final int TOTALS = 7;
  private static final int FACTS = 6;
  private static final long DIGEST_START = 1301L;
  private static final long DIGEST_FACTOR = 31L;

  private final Bids bids = new Bids();
  private final Giving giving = new Giving();
  private final Bids triedBids = new Bids();
  private final Giving triedGiving = new Giving();
  private final int[] firstRebates = new int[MOST_LODGERS];
  private final int[] chains = new int[MOST_LODGERS];
  private int rentCoins = 0;
  private int share = 0;
  private int pot = 0;

  /** Creates an empty house. */
  public RentHarmony() {
  }

  // ---- lodgers, bids, rent

  /** A lodger comes, and a room is added; the number of both. */
  public int come() throws IllegalStateException {
    if (bids.size() >= MOST_LODGERS) {
      throw new IllegalStateException("the house is full");
    }
    bids.grow();
    settleAll();
    return bids.size() - 1;
  }

  /** Sets the bid of a lodger for a room; the bid before. */
  public int bid(int lodger, int room, int coins) throws IndexOutOfBoundsException, IllegalArgumentException {
    if (!bids.has(lodger) || !bids.has(room)) {
      throw new IndexOutOfBoundsException("no such lodger or room");
    }
    if (coins < 0 || coins > MOST_BID) {
      throw new IllegalArgumentException("no such bid");
    }
    int before = bids.of(lodger, room);
    bids.set(lodger, room, coins);
    settleAll();
    return before;
  }

  /** Sets the rent; the rent before. */
  public int rent(int coins) throws IllegalArgumentException {
    if (coins < 0 || coins > MOST_RENT) {
      throw new IllegalArgumentException("no such rent");
    }
    int before = rentCoins;
    rentCoins = coins;
    settleLeftOver();
    return before;
  }

  /** A lodger moves out; the room that is locked up. */
  public int leave(int lodger) throws IndexOutOfBoundsException {
    if (!bids.has(lodger)) {
      throw new IndexOutOfBoundsException("no such lodger");
    }
    int locked = giving.roomOf(lodger);
    bids.shrink(lodger, locked);
    settleAll();
    return locked;
  }

  // ---- what is given

  /** What stands for a lodger: room, bid for it, rebate, pay, rebate ahead of what is left over, envied lodgers. */
  public int told(int lodger, int what) throws IndexOutOfBoundsException {
    if (!bids.has(lodger) || what < 0 || what >= FACTS) {
      throw new IndexOutOfBoundsException("no such lodger or fact");
    }
    return fact(lodger, what);
  }

  /** The bid of a lodger for a room. */
  public int offer(int lodger, int room) throws IndexOutOfBoundsException {
    if (!bids.has(lodger) || !bids.has(room)) {
      throw new IndexOutOfBoundsException("no such lodger or room");
    }
    return bids.of(lodger, room);
  }

  /** What stands for the house: lodgers, rent, worth, rebates, pot, givings with this worth, pays. */
  public int count(int what) throws IndexOutOfBoundsException {
    if (what < 0 || what >= TOTALS) {
      throw new IndexOutOfBoundsException("no such count");
    }
    return total(what);
  }

  /** Whether the first lodger would envy the second one, if all paid alike. */
  public boolean envies(int a, int b) throws IndexOutOfBoundsException {
    if (!bids.has(a) || !bids.has(b)) {
      throw new IndexOutOfBoundsException("no such lodger");
    }
    return wouldEnvy(a, b);
  }

  /** By how much the own room is better for the first lodger than that of the second one, with what is paid. */
  public int gap(int a, int b) throws IndexOutOfBoundsException {
    if (!bids.has(a) || !bids.has(b)) {
      throw new IndexOutOfBoundsException("no such lodger");
    }
    return rebateOf(a) - (bids.of(a, giving.roomOf(b)) - payOf(b));
  }

  /** The number of lodgers in the longest chain of envy, if all paid alike. */
  public int chain() {
    int size = bids.size();
    for (int a = 0; a < size; a++) {
      chains[a] = 1;
    }
    // Envy never goes round in a circle (rooms passed on along it would be worth more), so that a round
    // for each lodger but one finds the longest chain.
    for (int round = 1; round < size; round++) {
      for (int a = 0; a < size; a++) {
        chains[a] = longestChainFrom(a);
      }
    }
    int longest = 0;
    for (int a = 0; a < size; a++) {
      longest = Math.max(longest, chains[a]);
    }
    return longest;
  }

  // ---- what would be

  /** The room that a lodger would get with another bid for a room. */
  public int would(int lodger, int room, int coins) throws IndexOutOfBoundsException, IllegalArgumentException {
    if (!bids.has(lodger) || !bids.has(room)) {
      throw new IndexOutOfBoundsException("no such lodger or room");
    }
    if (coins < 0 || coins > MOST_BID) {
      throw new IllegalArgumentException("no such bid");
    }
    triedBids.copy(bids);
    return roomTried(lodger, room, coins);
  }

  /** The least bid with which a lodger would get a room; -1 if there is none. */
  public int needs(int lodger, int room) throws IndexOutOfBoundsException {
    if (!bids.has(lodger) || !bids.has(room)) {
      throw new IndexOutOfBoundsException("no such lodger or room");
    }
    triedBids.copy(bids);
    // A greater bid adds the same to every giving with this lodger in this room and nothing to the others:
    // who gets the room with a bid gets it with each greater one, so that the search may go by halves.
    int tooLittle = -1;
    for (int step = 512; step > 0; step /= 2) {
      int coins = tooLittle + step;
      if (coins <= MOST_BID && roomTried(lodger, room, coins) != room) {
        tooLittle = coins;
      }
    }
    return tooLittle >= MOST_BID ? -1 : tooLittle + 1;
  }

  /** The greatest worth of a giving of all rooms but one to all lodgers but this one. */
  public int without(int lodger) throws IndexOutOfBoundsException {
    if (!bids.has(lodger)) {
      throw new IndexOutOfBoundsException("no such lodger");
    }
    // A lodger who bids nothing adds nothing and leaves the others all rooms but the least useful one.
    triedBids.copy(bids);
    for (int room = 0; room < triedBids.size(); room++) {
      triedBids.set(lodger, room, 0);
    }
    triedGiving.choose(triedBids);
    return triedGiving.worth();
  }

  /** The mean pay; 0 without lodgers. */
  public double mean() {
    int size = bids.size();
    if (size == 0) {
      return 0.0;
    }
    return (double) allPays() / (double) size;
  }

  /** A checksum of all that count, told and offer answer. */
  public long digest() {
    long sum = DIGEST_START;
    for (int what = 0; what < TOTALS; what++) {
      sum = sum * DIGEST_FACTOR + total(what);
    }
    for (int lodger = 0; lodger < bids.size(); lodger++) {
      for (int what = 0; what < FACTS; what++) {
        sum = sum * DIGEST_FACTOR + fact(lodger, what);
      }
      for (int room = 0; room < bids.size(); room++) {
        sum = sum * DIGEST_FACTOR + bids.of(lodger, room);
      }
    }
    return sum;
  }

  private int fact(int lodger, int what) {
    switch (what) {
      case 0:
        return giving.roomOf(lodger);
      case 1:
        return ownBidOf(lodger);
      case 2:
        return rebateOf(lodger);
      case 3:
        return payOf(lodger);
      case 4:
        return firstRebateOf(lodger);
      default:
        return enviedBy(lodger);
    }
  }

  private int total(int what) {
    switch (what) {
      case 0:
        return bids.size();
      case 1:
        return rentCoins;
      case 2:
        return giving.worth();
      case 3:
        return allFirstRebates() + share * bids.size();
      case 4:
        return pot;
      case 5:
        return giving.ways();
      default:
        return allPays();
    }
  }

  private int ownBidOf(int lodger) {
    return bids.of(lodger, giving.roomOf(lodger));
  }

  private int firstRebateOf(int lodger) {
    return bids.has(lodger) ? firstRebates[lodger] : 0;
  }

  private int rebateOf(int lodger) {
    return firstRebateOf(lodger) + share;
  }

  private int payOf(int lodger) {
    return ownBidOf(lodger) - rebateOf(lodger);
  }

  private int allFirstRebates() {
    int sum = 0;
    for (int lodger = 0; lodger < bids.size(); lodger++) {
      sum += firstRebates[lodger];
    }
    return sum;
  }

  private int allPays() {
    int sum = 0;
    for (int lodger = 0; lodger < bids.size(); lodger++) {
      sum += payOf(lodger);
    }
    return sum;
  }

  // What all paid alike would be the same on both sides, so that the bids alone decide.
  private boolean wouldEnvy(int a, int b) {
    return bids.of(a, giving.roomOf(b)) > ownBidOf(a);
  }

  private int enviedBy(int lodger) {
    int envied = 0;
    for (int other = 0; other < bids.size(); other++) {
      if (wouldEnvy(lodger, other)) {
        envied++;
      }
    }
    return envied;
  }

  private int longestChainFrom(int lodger) {
    int longest = 1;
    for (int other = 0; other < bids.size(); other++) {
      if (wouldEnvy(lodger, other)) {
        longest = Math.max(longest, chains[other] + 1);
      }
    }
    return longest;
  }

  private int roomTried(int lodger, int room, int coins) {
    triedBids.set(lodger, room, coins);
    triedGiving.choose(triedBids);
    return triedGiving.roomOf(lodger);
  }

  private void settleAll() {
    giving.choose(bids);
    settleFirstRebates();
    settleLeftOver();
  }

  // No circle of lodgers can raise its own rebates (the giving would not have the greatest worth), so that
  // a rebate comes from a line of different lodgers, and a round for each lodger but one settles all.
  private void settleFirstRebates() {
    int size = bids.size();
    for (int lodger = 0; lodger < size; lodger++) {
      firstRebates[lodger] = 0;
    }
    for (int round = 1; round < size; round++) {
      for (int lodger = 0; lodger < size; lodger++) {
        firstRebates[lodger] = bestOfAllRooms(lodger);
      }
    }
  }

  private int bestOfAllRooms(int lodger) {
    int best = firstRebateOf(lodger);
    for (int other = 0; other < bids.size(); other++) {
      int paid = ownBidOf(other) - firstRebateOf(other);
      best = Math.max(best, bids.of(lodger, giving.roomOf(other)) - paid);
    }
    return best;
  }

  private void settleLeftOver() {
    int size = bids.size();
    int left = giving.worth() - rentCoins - allFirstRebates();
    share = left > 0 && size > 0 ? left / size : 0;
    pot = left - share * size;
  }

  /** The bids of all lodgers for all rooms, of which there are as many. */
  private static final class Bids {
    private final int[] coins = new int[MOST_LODGERS * MOST_LODGERS];
    private int size = 0;

    int size() {
      return size;
    }

    boolean has(int number) {
      return number >= 0 && number < size;
    }

    int of(int lodger, int room) {
      return has(lodger) && has(room) ? coins[lodger * MOST_LODGERS + room] : 0;
    }

    void set(int lodger, int room, int value) {
      if (has(lodger) && has(room)) {
        coins[lodger * MOST_LODGERS + room] = value;
      }
    }

    void copy(Bids other) {
      System.arraycopy(other.coins, 0, coins, 0, coins.length);
      size = other.size;
    }

    void grow() {
      if (size >= MOST_LODGERS) {
        return;
      }
      size++;
      // Bids of those who left may still lie behind the end.
      for (int number = 0; number < size; number++) {
        set(size - 1, number, 0);
        set(number, size - 1, 0);
      }
    }

    void shrink(int lodger, int room) {
      if (!has(lodger) || !has(room)) {
        return;
      }
      for (int l = 0; l < size - 1; l++) {
        for (int r = 0; r < size - 1; r++) {
          set(l, r, of(l < lodger ? l : l + 1, r < room ? r : r + 1));
        }
      }
      size--;
    }
  }

  /** The giving that counts among all of a table of bids. */
  private static final class Giving {
    // For each set of rooms, by its bits, that the lodgers with the smallest numbers have taken: the
    // greatest worth that the others bring with the rooms that are left, and the givings that bring it.
    private final int[] bestOfRest = new int[1 << MOST_LODGERS];
    private final int[] waysOfRest = new int[1 << MOST_LODGERS];
    private final int[] rooms = new int[MOST_LODGERS];

    // An empty house has one giving.
    Giving() {
      waysOfRest[0] = 1;
    }

    int worth() {
      return bestOfRest[0];
    }

    int ways() {
      return waysOfRest[0];
    }

    int roomOf(int lodger) {
      return lodger >= 0 && lodger < rooms.length ? rooms[lodger] : 0;
    }

    void choose(Bids bids) {
      int allTaken = (1 << bids.size()) - 1;
      bestOfRest[allTaken] = 0;
      waysOfRest[allTaken] = 1;
      for (int taken = allTaken - 1; taken >= 0; taken--) {
        weigh(bids, taken);
      }
      int taken = 0;
      for (int lodger = 0; lodger < bids.size(); lodger++) {
        rooms[lodger] = firstBestRoom(bids, lodger, taken);
        taken |= 1 << rooms[lodger];
      }
    }

    private void weigh(Bids bids, int taken) {
      int lodger = Integer.bitCount(taken);
      int best = -1;
      int ways = 0;
      for (int room = 0; room < bids.size(); room++) {
        if ((taken >> room & 1) == 0) {
          int then = taken | 1 << room;
          int worth = bids.of(lodger, room) + bestOfRest[then];
          if (worth > best) {
            best = worth;
            ways = 0;
          }
          if (worth == best) {
            ways += waysOfRest[then];
          }
        }
      }
      bestOfRest[taken] = best;
      waysOfRest[taken] = ways;
    }

    private int firstBestRoom(Bids bids, int lodger, int taken) {
      for (int room = 0; room < bids.size(); room++) {
        if ((taken >> room & 1) == 0
            && bids.of(lodger, room) + bestOfRest[taken | 1 << room] == bestOfRest[taken]) {
          return room;
        }
      }
      return 0;
    }
  }
}
