import java.util.ArrayList;
import java.util.List;

/**
 * The document once more, as slow and plain as it is written: every giving is listed and looked at. What
 * RentHarmony answers is compared with this.
 */
final class PlainHouse {
  private final List<List<Integer>> bids = new ArrayList<>();
  private int rent = 0;

  private int size() {
    return bids.size();
  }

  private void known(int... numbers) {
    for (int number : numbers) {
      if (number < 0 || number >= size()) {
        throw new IndexOutOfBoundsException();
      }
    }
  }

  private static void within(int coins, int most) {
    if (coins < 0 || coins > most) {
      throw new IllegalArgumentException();
    }
  }

  int come() {
    if (size() == 6) {
      throw new IllegalStateException();
    }
    List<Integer> own = new ArrayList<>();
    for (List<Integer> row : bids) {
      row.add(0);
      own.add(0);
    }
    own.add(0);
    bids.add(own);
    return size() - 1;
  }

  int bid(int lodger, int room, int coins) {
    known(lodger, room);
    within(coins, 999);
    return bids.get(lodger).set(room, coins);
  }

  int rent(int coins) {
    within(coins, 5999);
    int before = rent;
    rent = coins;
    return before;
  }

  int leave(int lodger) {
    known(lodger);
    int room = giving()[lodger];
    bids.remove(lodger);
    for (List<Integer> row : bids) {
      row.remove(room);
    }
    return room;
  }

  int offer(int lodger, int room) {
    known(lodger, room);
    return bids.get(lodger).get(room);
  }

  int told(int lodger, int what) {
    known(lodger);
    switch (what) {
      case 0: return giving()[lodger];
      case 1: return paidWithout(lodger);
      case 2: return rebate(lodger);
      case 3: return pay(lodger);
      case 4: return firstRebates()[lodger];
      case 5:
        int envied = 0;
        for (int b = 0; b < size(); b++) {
          envied += envies(lodger, b) ? 1 : 0;
        }
        return envied;
      default: throw new IndexOutOfBoundsException();
    }
  }

  int count(int what) {
    int sum = 0;
    switch (what) {
      case 0: return size();
      case 1: return rent;
      case 2: return worth(giving());
      case 3:
        for (int a = 0; a < size(); a++) {
          sum += rebate(a);
        }
        return sum;
      case 4: return worth(giving()) - rent - count(3);
      case 5:
        int most = worth(giving());
        for (int[] rooms : givings(size(), size())) {
          sum += worth(rooms) == most ? 1 : 0;
        }
        return sum;
      case 6:
        for (int a = 0; a < size(); a++) {
          sum += pay(a);
        }
        return sum;
      default: throw new IndexOutOfBoundsException();
    }
  }

  boolean envies(int a, int b) {
    known(a, b);
    int[] rooms = giving();
    int alike = size() == 0 ? 0 : rent / size();
    return offer(a, rooms[b]) - alike > offer(a, rooms[a]) - alike;
  }

  int gap(int a, int b) {
    known(a, b);
    int[] rooms = giving();
    return (offer(a, rooms[a]) - pay(a)) - (offer(a, rooms[b]) - pay(b));
  }

  int chain() {
    int longest = 0;
    for (int a = 0; a < size(); a++) {
      longest = Math.max(longest, chainFrom(a, 1 << a));
    }
    return longest;
  }

  private int chainFrom(int a, int met) {
    int longest = 1;
    for (int b = 0; b < size(); b++) {
      if ((met & (1 << b)) == 0 && envies(a, b)) {
        longest = Math.max(longest, 1 + chainFrom(b, met | (1 << b)));
      }
    }
    return longest;
  }

  int would(int lodger, int room, int coins) {
    known(lodger, room);
    within(coins, 999);
    int before = bids.get(lodger).set(room, coins);
    int got = giving()[lodger];
    bids.get(lodger).set(room, before);
    return got;
  }

  int needs(int lodger, int room) {
    known(lodger, room);
    for (int coins = 0; coins <= 999; coins++) {
      if (would(lodger, room, coins) == room) {
        return coins;
      }
    }
    return -1;
  }

  int without(int lodger) {
    known(lodger);
    int most = 0;
    for (int[] rooms : givings(size() - 1, size())) {
      int worth = 0;
      for (int k = 0; k < rooms.length; k++) {
        worth += offer(k < lodger ? k : k + 1, rooms[k]);
      }
      most = Math.max(most, worth);
    }
    return most;
  }

  double mean() {
    return size() == 0 ? 0.0 : (double) count(6) / size();
  }

  long digest() {
    long d = 1301;
    for (int what = 0; what <= 6; what++) {
      d = d * 31 + count(what);
    }
    for (int lodger = 0; lodger < size(); lodger++) {
      for (int what = 0; what <= 5; what++) {
        d = d * 31 + told(lodger, what);
      }
      for (int room = 0; room < size(); room++) {
        d = d * 31 + offer(lodger, room);
      }
    }
    return d;
  }

  private int paidWithout(int lodger) {
    return offer(lodger, giving()[lodger]);
  }

  private int pay(int lodger) {
    return paidWithout(lodger) - rebate(lodger);
  }

  private int rebate(int lodger) {
    int[] first = firstRebates();
    int left = worth(giving()) - rent;
    for (int rebate : first) {
      left -= rebate;
    }
    return left < 0 ? first[lodger] : first[lodger] + left / size();
  }

  // One rebate at a time, the greatest numbers first, until nobody has more of another room.
  private int[] firstRebates() {
    int[] rooms = giving();
    int[] rebates = new int[size()];
    boolean changed = true;
    while (changed) {
      changed = false;
      for (int a = size() - 1; a >= 0 && !changed; a--) {
        for (int b = size() - 1; b >= 0 && !changed; b--) {
          int has = offer(a, rooms[b]) - (offer(b, rooms[b]) - rebates[b]);
          if (has > rebates[a]) {
            rebates[a] = has;
            changed = true;
          }
        }
      }
    }
    return rebates;
  }

  private int worth(int[] rooms) {
    int worth = 0;
    for (int a = 0; a < rooms.length; a++) {
      worth += offer(a, rooms[a]);
    }
    return worth;
  }

  // The first of the list has the smallest room for lodger 0, then for lodger 1, and so on.
  private int[] giving() {
    int[] best = null;
    for (int[] rooms : givings(size(), size())) {
      if (best == null || worth(rooms) > worth(best)) {
        best = rooms;
      }
    }
    return best;
  }

  private static final int[][][][] LISTS = new int[8][8][][];

  private static int[][] givings(int lodgers, int rooms) {
    if (LISTS[lodgers][rooms] == null) {
      List<int[]> list = new ArrayList<>();
      list(new int[lodgers], 0, rooms, 0, list);
      LISTS[lodgers][rooms] = list.toArray(new int[0][]);
    }
    return LISTS[lodgers][rooms];
  }

  private static void list(int[] taken, int lodger, int rooms, int used, List<int[]> list) {
    if (lodger == taken.length) {
      list.add(taken.clone());
      return;
    }
    for (int room = 0; room < rooms; room++) {
      if ((used & (1 << room)) == 0) {
        taken[lodger] = room;
        list(taken, lodger + 1, rooms, used | (1 << room), list);
      }
    }
  }
}
