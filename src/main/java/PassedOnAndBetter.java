/**
 * Friends of kinds who keep what they were given for some months, add to it and give it on to the
 * next one, if it gets through the door.
 *
 * <p>Every row and object is made in the constructor and used again: no call makes an object.
 */
public final class PassedOnAndBetter {

  private static final int MOST_FRIENDS = 6;
  private static final int MOST_GIFTS = 4;
  private static final int MOST_KIND = 5;
  private static final int MOST_FIGURE = 9;
  private static final int LEAST_DOOR = 1;
  private static final int MOST_DOOR = 99;
  private static final int FIRST_DOOR = 40;
  private static final int MOST_TOLD_WORTH = 99;
  private static final int LEAST_SIZE = 1;
  private static final int MOST_TOLD_SIZE = 99;
  private static final int MOST_GROWN = 999;
  private static final int MOST_KEPT = 99;
  private static final int MOST_HANDS = 99;
  private static final int MOST_MONTH = 999;
  private static final int MOST_SPAN = 60;

  /** The NEXT of one who has none. */
  private static final int NO_NEXT = -1;
  /** How BEST NEXT tells that none is best. */
  private static final int NONE_IS_BEST = 9;
  /** Told where there is nothing to tell; no REFUSAL. */
  private static final int NOTHING = -9;
  /** Asked for in a FRIEND's place: all of them. */
  private static final int ALL = -1;

  private static final int FINE = 0;
  private static final int NOBODY = -1;
  private static final int OTHER = -2;
  private static final int STATE = -3;
  private static final int BELOW = -4;
  private static final int ROOM = -6;
  private static final int REFUSAL_ROWS = 7;
  private static final long LONG_REFUSAL = 4000000000000000000L;

  private final Company now;
  private final Company pictured;
  private final Past past;
  private final Letters letters;
  private final Numbers numbers;
  private final Mind mind;
  private final int[] refusals;
  private boolean hasPicture;

  public PassedOnAndBetter() {
    now = new Company();
    pictured = new Company();
    past = new Past();
    letters = new Letters();
    numbers = new Numbers();
    mind = new Mind(now, numbers);
    refusals = new int[REFUSAL_ROWS];
    hasPicture = false;
  }

  // ---- I. what there is

  public int feed(int letter) {
    int no = between(letter, 0, Letters.MOST_LETTER);
    if (no == FINE && letters.isFull()) {
      no = ROOM;
    }
    return no == FINE ? letters.put(letter) : refuse(no);
  }

  public int circle() {
    Company thought = mind.recall();
    int answer = letters.tellTo(thought);
    letters.drop();
    if (answer > 0) {
      now.copyFrom(thought);
      past.forget();
    }
    return answer;
  }

  public int friendOf(int friend, int what) {
    int no = first(friendNo(friend), whatNo(what, 7), FINE);
    if (no != FINE) {
      return refuse(no);
    }
    return what == 7 ? now.holdsOf(friend) : now.friendAt(friend).tell(what);
  }

  public int giftOf(int gift, int what) {
    int no = first(giftNo(gift), whatNo(what, 5), FINE);
    return no == FINE ? now.giftAt(gift).tell(what) : refuse(no);
  }

  public int friend(int kind, int figure, int door) {
    int no = whatNo(kind, MOST_KIND);
    if (no == FINE && (figure < 0 || door < LEAST_DOOR)) {
      no = BELOW;
    }
    if (no == FINE && (figure > MOST_FIGURE || door > MOST_DOOR || now.friendsAreFull())) {
      no = ROOM;
    }
    if (no != FINE) {
      return refuse(no);
    }
    past.forget();
    return now.addFriend(kind, figure, door);
  }

  public int gift(int friend, int worth, int size) {
    int no = friendNo(friend);
    if (no == FINE && (worth < 0 || size < LEAST_SIZE)) {
      no = BELOW;
    }
    if (no == FINE
        && (worth > MOST_TOLD_WORTH || size > MOST_TOLD_SIZE || now.giftsAreFull())) {
      no = ROOM;
    }
    if (no != FINE) {
      return refuse(no);
    }
    past.forget();
    return now.addGift(friend, worth, size);
  }

  public int nexts(int one, int other) {
    int no = twoFriendsNo(one, other);
    if (no != FINE) {
      return refuse(no);
    }
    past.remember(now);
    return now.turnNext(one, other);
  }

  public int doors(int friend, int v) {
    int no = first(friendNo(friend), between(v, LEAST_DOOR, MOST_DOOR), FINE);
    if (no != FINE) {
      return refuse(no);
    }
    past.remember(now);
    Friend one = now.friendAt(friend);
    int before = one.door;
    one.door = v;
    return before;
  }

  public int hands(int gift, int friend) {
    int no = first(giftNo(gift), friendNo(friend), FINE);
    if (no != FINE) {
      return refuse(no);
    }
    past.remember(now);
    Gift it = now.giftAt(gift);
    int before = it.with;
    it.goTo(friend);
    return before;
  }

  public int months(int n) {
    int no = between(n, 1, MOST_SPAN);
    if (no == FINE && now.month + n > MOST_MONTH) {
      no = ROOM;
    }
    if (no != FINE) {
      return refuse(no);
    }
    past.remember(now);
    now.pass(n);
    return now.allWorth();
  }

  public int back() {
    if (past.held == 0) {
      return refuse(STATE);
    }
    past.takeBack(now);
    return past.held;
  }

  // ---- II. in mind

  public int behind(int gift, int n, int what) {
    int no = first(giftNo(gift), spanNo(n), whatNo(what, 3));
    return no == FINE ? mind.giftThen(gift, n, what) : refuse(no);
  }

  public int then(int friend, int n) {
    int no = first(friendOrAllNo(friend), spanNo(n), FINE);
    return no == FINE ? mind.heldThen(friend, n) : refuse(no);
  }

  public int given(int gift, int what) {
    int no = first(giftNo(gift), whatNo(what, 1), FINE);
    if (no != FINE) {
      return refuse(no);
    }
    return what == 0 ? mind.firstAway(gift) : mind.firstRound(gift);
  }

  public int comes(int gift, int friend) {
    int no = first(giftNo(gift), friendNo(friend), FINE);
    return no == FINE ? mind.firstWith(gift, friend) : refuse(no);
  }

  public int sticks() {
    return mind.stuck();
  }

  public int bestStart(int gift, int n, int what) {
    int no = first(giftNo(gift), spanNo(n), whatNo(what, 1));
    return no == FINE ? mind.startOfMostWorth(gift, n, what) : refuse(no);
  }

  public int bestNext(int friend, int n, int what) {
    int no = first(friendNo(friend), spanNo(n), whatNo(what, 1));
    return no == FINE ? mind.nextOfMostWorth(friend, n, what) : refuse(no);
  }

  public int doorsFor(int gift, int friend, int n) {
    int no = first(giftNo(gift), friendNo(friend), spanNo(n));
    return no == FINE ? mind.fewestWidened(gift, friend, n) : refuse(no);
  }

  public int doorWanted(int friend, int n, int what) {
    int no = first(friendNo(friend), spanNo(n), whatNo(what, 1));
    return no == FINE ? mind.doorOfMostHands(friend, n, what) : refuse(no);
  }

  public int passedOver(int n) {
    int no = spanNo(n);
    return no == FINE ? mind.bestWithout(n) : refuse(no);
  }

  public int chain(int friend, int what) {
    int no = first(friendNo(friend), whatNo(what, 1), FINE);
    return no == FINE ? now.chainFrom(friend, what) : refuse(no);
  }

  public int circles() {
    return now.comingAgain();
  }

  public int way(int one, int other) {
    int no = twoFriendsNo(one, other);
    return no == FINE ? now.givings(one, other) : refuse(no);
  }

  public int whatItWas(int gift, int what) {
    int no = first(giftNo(gift), whatNo(what, 2), FINE);
    if (no != FINE) {
      return refuse(no);
    }
    if (what == 0) {
      return mind.kindsToldBy(gift);
    }
    return what == 1 ? mind.figuresToldBy(gift) : mind.keptsToldBy(gift);
  }

  public int whoHad(int gift, int what) {
    int no = first(giftNo(gift), whatNo(what, 1), FINE);
    if (no != FINE) {
      return refuse(no);
    }
    return what == 0 ? mind.firstNotWith(gift) : mind.startsToldBy(gift);
  }

  public int two(int one, int other, int n) {
    int no = first(twoFriendsNo(one, other), spanNo(n), FINE);
    return no == FINE ? mind.restingPair(one, other, n) : refuse(no);
  }

  public long lost(int gift, int friend, int n, int t, int part) {
    int no = first(giftNo(gift), friendNo(friend), FINE);
    if (no == FINE && (n < 0 || t < 2)) {
      no = BELOW;
    }
    if (no == FINE && (n > Mind.MOST_LOST || t > Mind.MOST_ODDS)) {
      no = ROOM;
    }
    no = first(no, whatNo(part, 1), FINE);
    if (no != FINE) {
      return refuseLong(no);
    }
    return part(mind.waysWithLost(gift, friend, n, t), power(t, n), part);
  }

  public int added(int friend, int n) {
    int no = first(friendOrAllNo(friend), spanNo(n), FINE);
    if (no != FINE) {
      return refuse(no);
    }
    return friend == ALL ? mind.unevenBrought(n) : mind.broughtBy(friend, n);
  }

  // ---- III., IV. looked at now

  public int dearest(int what) {
    int no = whatNo(what, 1);
    return no == FINE ? now.mostOfGifts(what) : refuse(no);
  }

  public int tooLarge(int gift) {
    int no = giftNo(gift);
    return no == FINE ? now.doorsTooNarrowFor(gift) : refuse(no);
  }

  public int hasty(int what) {
    int no = whatNo(what, 1);
    return no == FINE ? now.leastOfFriends(what) : refuse(no);
  }

  public long mean(int part) {
    int no = whatNo(part, 1);
    return no == FINE ? part(now.allWorth(), Math.max(1, now.gifts), part) : refuseLong(no);
  }

  public int meet(int one, int other) {
    int no = first(giftNo(one), giftNo(other), one == other ? NOBODY : FINE);
    return no == FINE ? mind.firstTogether(one, other) : refuse(no);
  }

  public int bare(int n) {
    int no = spanNo(n);
    return no == FINE ? mind.neverWith(n) : refuse(no);
  }

  public int year() {
    return mind.worthOfAYear();
  }

  public int row(int v) {
    int no = between(v, 0, Numbers.MOST_NUMBER);
    if (no == FINE && numbers.isFull()) {
      no = ROOM;
    }
    return no == FINE ? numbers.put(v) : refuse(no);
  }

  public int judge() {
    int answer = now.firstMisjudged(numbers);
    numbers.drop();
    return answer;
  }

  public int clear() {
    return numbers.drop();
  }

  public int lots(int n, int z, int what) {
    int no = first(between(n, 1, Mind.MOST_LOTS), whatNo(what, 1), FINE);
    return no == FINE ? mind.moreByLot(n, z, what) : refuse(no);
  }

  public int image() {
    pictured.copyFrom(now);
    hasPicture = true;
    return now.month;
  }

  public int restore() {
    if (!hasPicture) {
      return refuse(STATE);
    }
    now.copyFrom(pictured);
    past.forget();
    return now.month;
  }

  public int count(int what) {
    if (what >= 11 && what <= 16) {
      return cellOf(refusals, what - 10);
    }
    switch (what) {
      case 0: return now.friends;
      case 1: return now.gifts;
      case 2: return now.month;
      case 3: return now.allWorth();
      case 4: return now.allSize();
      case 5: return now.allHands();
      case 6: return letters.told;
      case 7: return numbers.told;
      case 8: return past.held;
      default: return NOTHING;
    }
  }

  // ---- refusals

  private int refuse(int number) {
    setCell(refusals, -number, cellOf(refusals, -number) + 1);
    return number;
  }

  private long refuseLong(int number) {
    return LONG_REFUSAL - refuse(number);
  }

  private static int first(int one, int two, int three) {
    if (one != FINE) {
      return one;
    }
    return two != FINE ? two : three;
  }

  private int friendNo(int friend) {
    return now.hasFriend(friend) ? FINE : NOBODY;
  }

  private int friendOrAllNo(int friend) {
    return friend == ALL ? FINE : friendNo(friend);
  }

  private int twoFriendsNo(int one, int other) {
    return first(friendNo(one), friendNo(other), one == other ? NOBODY : FINE);
  }

  private int giftNo(int gift) {
    return now.hasGift(gift) ? FINE : NOBODY;
  }

  private static int whatNo(int what, int most) {
    return what >= 0 && what <= most ? FINE : OTHER;
  }

  private static int spanNo(int n) {
    return between(n, 0, MOST_SPAN);
  }

  private static int between(int v, int least, int most) {
    if (v < least) {
      return BELOW;
    }
    return v > most ? ROOM : FINE;
  }

  // ---- rows and fractions

  /** Answers for any place, so that no caller has to look at the row's length. */
  private static int cellOf(int[] cells, int place) {
    return cells != null && place >= 0 && place < cells.length ? cells[place] : 0;
  }

  private static void setCell(int[] cells, int place, int value) {
    if (cells != null && place >= 0 && place < cells.length) {
      cells[place] = value;
    }
  }

  /** The part of a fraction in lowest terms: 0 above the line, else below it. */
  private static long part(long above, long below, int part) {
    long common = commonDivisor(above, below);
    if (common <= 0) {
      return part == 0 ? 0 : 1;
    }
    return part == 0 ? above / common : below / common;
  }

  private static long commonDivisor(long one, long other) {
    long larger = one;
    long smaller = other;
    // Euclid takes fewer than 100 steps on longs.
    for (int step = 0; step < 100 && smaller != 0; step++) {
      long rest = larger % smaller;
      larger = smaller;
      smaller = rest;
    }
    return larger;
  }

  private static long power(int base, int times) {
    long product = 1;
    for (int i = 0; i < times; i++) {
      product *= base;
    }
    return product;
  }

  /** What the KINDS do, each by the FIGURE. */
  private static final class Kinds {
    static final int POLISHER = 1;
    static final int SISTER = 2;
    static final int HOLER = 3;
    static final int JOINER = 4;
    static final int POOR = 5;

    private static final int POLISHER_WAITS = 12;
    private static final int POLISHER_ADDS = 1;
    private static final int MOST_POOR_SWELLS = 2;

    static int waitsOf(int kind, int figure) {
      switch (kind) {
        case POLISHER: return POLISHER_WAITS;
        case SISTER: return 6;
        case HOLER: return 3;
        case JOINER: return POLISHER_WAITS - 1;
        case POOR: return 1;
        default: return 12 - figure;
      }
    }

    static int addsOf(int kind, int figure) {
      int friendAdds = figure + 1;
      switch (kind) {
        case POLISHER: return POLISHER_ADDS;
        case SISTER: return 5;
        case HOLER: return 2;
        case JOINER: return POLISHER_ADDS + figure;
        case POOR: return friendAdds / 2;
        default: return friendAdds;
      }
    }

    static int swellsOf(int kind, int figure) {
      int friendSwells = figure / 2;
      switch (kind) {
        case POLISHER: return 0;
        case SISTER: return figure;
        case HOLER: return -3;
        case JOINER: return 4;
        case POOR: return friendSwells < MOST_POOR_SWELLS ? friendSwells : MOST_POOR_SWELLS;
        default: return friendSwells;
      }
    }
  }

  /** One FRIEND. */
  private static final class Friend {
    int kind;
    int figure;
    int door;
    int next;
    int waits;
    int adds;
    int swells;
    /** How often he adds when he betters something: more than once in mind only. */
    int times;
    /** How much WORTH he has added since he was last copied from another. */
    int brought;

    Friend() {
      kind = 0;
      figure = 0;
      door = FIRST_DOOR;
      next = NO_NEXT;
      waits = 1;
      adds = 0;
      swells = 0;
      times = 1;
      brought = 0;
    }

    void become(int newKind, int newFigure) {
      kind = newKind;
      figure = newFigure;
      waits = Kinds.waitsOf(kind, figure);
      adds = Kinds.addsOf(kind, figure);
      swells = Kinds.swellsOf(kind, figure);
    }

    void begin(int newKind, int newFigure, int newDoor) {
      become(newKind, newFigure);
      door = newDoor;
      next = NO_NEXT;
      times = 1;
      brought = 0;
    }

    void copyFrom(Friend other) {
      if (other == null) {
        return;
      }
      kind = other.kind;
      figure = other.figure;
      door = other.door;
      next = other.next;
      waits = other.waits;
      adds = other.adds;
      swells = other.swells;
      times = 1;
      brought = 0;
    }

    int tell(int what) {
      switch (what) {
        case 0: return kind;
        case 1: return figure;
        case 2: return door;
        case 3: return next == NO_NEXT ? NOTHING : next;
        case 4: return waits;
        case 5: return adds;
        default: return Math.max(0, swells);
      }
    }
  }

  /** One GIFT. */
  private static final class Gift {
    int worth;
    int size;
    int with;
    int kept;
    boolean bettered;
    int passed;

    Gift() {
      begin(0, 0, LEAST_SIZE);
    }

    private void begin(int friend, int newWorth, int newSize) {
      worth = newWorth;
      size = newSize;
      with = friend;
      kept = 0;
      bettered = false;
      passed = 0;
    }

    void copyFrom(Gift other) {
      if (other == null) {
        return;
      }
      worth = other.worth;
      size = other.size;
      with = other.with;
      kept = other.kept;
      bettered = other.bettered;
      passed = other.passed;
    }

    void goTo(int friend) {
      with = friend;
      kept = 0;
      bettered = false;
    }

    /** A MONTH in which nothing else is done with it. */
    void keep() {
      kept = Math.min(kept + 1, MOST_KEPT);
    }

    /** A MONTH among these friends. */
    void passMonth(Company company) {
      if (company == null) {
        return;
      }
      keep();
      Friend holder = company.friendAt(with);
      if (kept < holder.waits) {
        return;
      }
      if (!bettered) {
        better(holder);
      }
      int next = holder.next;
      if (next != NO_NEXT && size <= company.friendAt(next).door) {
        goTo(next);
        passed = Math.min(passed + 1, MOST_HANDS);
      }
    }

    private void better(Friend holder) {
      if (holder == null) {
        return;
      }
      int more = Math.min(holder.adds * holder.times, MOST_GROWN - worth);
      worth += more;
      holder.brought += more;
      size = Math.max(LEAST_SIZE, Math.min(size + holder.swells, MOST_GROWN));
      bettered = true;
    }

    int tell(int what) {
      switch (what) {
        case 0: return worth;
        case 1: return size;
        case 2: return with;
        case 3: return kept;
        case 4: return bettered ? 1 : 0;
        default: return passed;
      }
    }
  }

  /** All FRIENDS and GIFTS, and the MONTH. */
  private static final class Company {
    private final Friend[] friendRow;
    private final Gift[] giftRow;
    /** Stand in for those that are not there, so that no caller ever meets null. */
    private final Friend noFriend;
    private final Gift noGift;
    int friends;
    int gifts;
    int month;

    Company() {
      friendRow = new Friend[MOST_FRIENDS];
      giftRow = new Gift[MOST_GIFTS];
      noFriend = new Friend();
      noGift = new Gift();
      for (int i = 0; i < friendRow.length; i++) {
        friendRow[i] = new Friend();
      }
      for (int i = 0; i < giftRow.length; i++) {
        giftRow[i] = new Gift();
      }
      friends = 0;
      gifts = 0;
      month = 0;
    }

    Friend friendAt(int number) {
      if (number < 0 || number >= friendRow.length) {
        return noFriend;
      }
      Friend found = friendRow[number];
      return found == null ? noFriend : found;
    }

    Gift giftAt(int number) {
      if (number < 0 || number >= giftRow.length) {
        return noGift;
      }
      Gift found = giftRow[number];
      return found == null ? noGift : found;
    }

    boolean hasFriend(int number) {
      return number >= 0 && number < friends;
    }

    boolean hasGift(int number) {
      return number >= 0 && number < gifts;
    }

    boolean friendsAreFull() {
      return friends >= MOST_FRIENDS;
    }

    boolean giftsAreFull() {
      return gifts >= MOST_GIFTS;
    }

    void copyFrom(Company other) {
      if (other == null) {
        return;
      }
      friends = other.friends;
      gifts = other.gifts;
      month = other.month;
      for (int i = 0; i < friends; i++) {
        friendAt(i).copyFrom(other.friendAt(i));
      }
      for (int i = 0; i < gifts; i++) {
        giftAt(i).copyFrom(other.giftAt(i));
      }
    }

    int addFriend(int kind, int figure, int door) {
      int number = friends;
      friendAt(number).begin(kind, figure, door);
      friends++;
      return number;
    }

    int addGift(int friend, int worth, int size) {
      int number = gifts;
      giftAt(number).begin(friend, worth, size);
      gifts++;
      return number;
    }

    /** Makes the second the NEXT of the first (1), or, if he is, not any more (0). */
    int turnNext(int one, int other) {
      Friend giver = friendAt(one);
      boolean was = giver.next == other;
      giver.next = was ? NO_NEXT : other;
      return was ? 0 : 1;
    }

    /** So many MONTHS go by. */
    void pass(int n) {
      for (int i = 0; i < n; i++) {
        month++;
        for (int gift = 0; gift < gifts; gift++) {
          giftAt(gift).passMonth(this);
        }
      }
    }

    int allWorth() {
      int all = 0;
      for (int i = 0; i < gifts; i++) {
        all += giftAt(i).worth;
      }
      return all;
    }

    int allSize() {
      int all = 0;
      for (int i = 0; i < gifts; i++) {
        all += giftAt(i).size;
      }
      return all;
    }

    int allHands() {
      int all = 0;
      for (int i = 0; i < gifts; i++) {
        all += giftAt(i).passed;
      }
      return all;
    }

    int holdsOf(int friend) {
      int many = 0;
      for (int i = 0; i < gifts; i++) {
        if (giftAt(i).with == friend) {
          many++;
        }
      }
      return many;
    }

    int worthWith(int friend) {
      int all = 0;
      for (int i = 0; i < gifts; i++) {
        if (giftAt(i).with == friend) {
          all += giftAt(i).worth;
        }
      }
      return all;
    }

    /** Leaves one out: those who gave to him give to his NEXT, and so does he now. */
    void passOver(int friend) {
      int next = friendAt(friend).next;
      for (int i = 0; i < friends; i++) {
        Friend giver = friendAt(i);
        if (giver.next == friend) {
          giver.next = next == i ? NO_NEXT : next;
        }
      }
      for (int i = 0; i < gifts && next != NO_NEXT; i++) {
        if (giftAt(i).with == friend) {
          giftAt(i).goTo(next);
        }
      }
    }

    /** How many come from one on, each once (what 0), or whether one comes again (1). */
    int chainFrom(int friend, int what) {
      int seen = 0;
      int many = 0;
      int one = friend;
      while (many < MOST_FRIENDS && hasFriend(one) && (seen >> one & 1) == 0) {
        seen |= 1 << one;
        many++;
        one = friendAt(one).next;
      }
      if (what == 0) {
        return many;
      }
      return one == NO_NEXT ? 0 : 1;
    }

    /** The fewest GIVINGS, one at least, from one to another or again to himself. */
    int givings(int one, int other) {
      int reached = one;
      for (int steps = 1; steps <= friends; steps++) {
        reached = friendAt(reached).next;
        if (reached == NO_NEXT) {
          return NOTHING;
        }
        if (reached == other) {
          return steps;
        }
      }
      return NOTHING;
    }

    int comingAgain() {
      int many = 0;
      for (int i = 0; i < friends; i++) {
        if (givings(i, i) != NOTHING) {
          many++;
        }
      }
      return many;
    }

    /** The GIFT of most WORTH (what 0) or SIZE (1). */
    int mostOfGifts(int what) {
      int found = NOTHING;
      int most = -1;
      for (int i = 0; i < gifts; i++) {
        int value = giftAt(i).tell(what);
        if (value > most) {
          most = value;
          found = i;
        }
      }
      return found;
    }

    /** The FRIEND who WAITS least (what 0) or has the least DOOR (1). */
    int leastOfFriends(int what) {
      int found = NOTHING;
      int least = MOST_DOOR + 1;
      for (int i = 0; i < friends; i++) {
        int value = what == 0 ? friendAt(i).waits : friendAt(i).door;
        if (value < least) {
          least = value;
          found = i;
        }
      }
      return found;
    }

    int doorsTooNarrowFor(int gift) {
      int many = 0;
      for (int i = 0; i < friends; i++) {
        if (giftAt(gift).size > friendAt(i).door) {
          many++;
        }
      }
      return many;
    }

    int firstMisjudged(Numbers numbers) {
      if (numbers == null) {
        return NOTHING;
      }
      for (int i = 0; i < numbers.told; i++) {
        if (!hasGift(i) || giftAt(i).with != numbers.numberAt(i)) {
          return i;
        }
      }
      return NOTHING;
    }
  }

  /** What can be TAKEN BACK: the companies as they were, the oldest at start. */
  private static final class Past {
    private static final int MOST_BACK = 8;

    private final Company[] before;
    private int start;
    int held;

    Past() {
      before = new Company[MOST_BACK];
      for (int i = 0; i < before.length; i++) {
        before[i] = new Company();
      }
      start = 0;
      held = 0;
    }

    /** The one stored so many behind the oldest; the row goes round. */
    private Company storedAt(int behindOldest) {
      int place = (start + behindOldest) % MOST_BACK;
      return place >= 0 && place < before.length ? before[place] : null;
    }

    void remember(Company company) {
      if (held == MOST_BACK) {
        start = (start + 1) % MOST_BACK;
        held--;
      }
      Company free = storedAt(held);
      if (free != null) {
        free.copyFrom(company);
      }
      held++;
    }

    void takeBack(Company company) {
      if (held <= 0 || company == null) {
        return;
      }
      held--;
      company.copyFrom(storedAt(held));
    }

    void forget() {
      held = 0;
    }
  }

  /** The ROW of numbers. */
  private static final class Numbers {
    static final int MOST_NUMBER = 99;
    private static final int MOST_NUMBERS = 12;

    private final int[] cells;
    int told;

    Numbers() {
      cells = new int[MOST_NUMBERS];
      told = 0;
    }

    boolean isFull() {
      return told >= MOST_NUMBERS;
    }

    int put(int number) {
      setCell(cells, told, number);
      told++;
      return told;
    }

    int numberAt(int place) {
      return cellOf(cells, place);
    }

    int drop() {
      int had = told;
      told = 0;
      return had;
    }
  }

  /** The letters in which a CIRCLE is told. */
  private static final class Letters {
    static final int MOST_LETTER = 255;
    private static final int MOST_LETTERS = 96;
    private static final int FORM_FAULT = -1000;
    private static final int SENSE_FAULT = -2000;
    private static final int NO_FAULT = -1;

    private final int[] cells;
    int told;

    Letters() {
      cells = new int[MOST_LETTERS];
      told = 0;
    }

    boolean isFull() {
      return told >= MOST_LETTERS;
    }

    int put(int letter) {
      setCell(cells, told, letter);
      told++;
      return told;
    }

    void drop() {
      told = 0;
    }

    /** Tells all to a company: how many STATEMENTS, or the FAULT (the company is spoilt then). */
    int tellTo(Company company) {
      int fault = placeOfFormFault();
      if (fault != NO_FAULT) {
        return FORM_FAULT - fault;
      }
      int statements = 0;
      int place = 0;
      while (place < told) {
        if (!tellStatement(company, place)) {
          return SENSE_FAULT - place;
        }
        statements++;
        place += digitsBehind(letterAt(place)) + 2;
      }
      return statements;
    }

    private int letterAt(int place) {
      return place < told ? cellOf(cells, place) : -1;
    }

    private boolean isDigit(int place) {
      int letter = letterAt(place);
      return letter >= '0' && letter <= '9';
    }

    /** How many digits stand behind a STATEMENT's letter; 0 if none begins with it. */
    private static int digitsBehind(int letter) {
      switch (letter) {
        case 'f': return 4;
        case 'n': return 2;
        case 'd': return 3;
        case 'g': return 5;
        case 'h': return 2;
        case 'm': return 2;
        default: return 0;
      }
    }

    private int placeOfFormFault() {
      if (told == 0) {
        return 0;
      }
      int place = 0;
      while (place < told) {
        int digits = digitsBehind(letterAt(place));
        if (digits == 0) {
          return place;
        }
        for (int i = 0; i < digits; i++) {
          place++;
          if (!isDigit(place)) {
            return place;
          }
        }
        place++;
        if (letterAt(place) != ';') {
          return place;
        }
        place++;
      }
      return NO_FAULT;
    }

    private int digitAt(int place) {
      return letterAt(place) - '0';
    }

    private int twoDigitsAt(int place) {
      return 10 * digitAt(place) + digitAt(place + 1);
    }

    /** Does what one STATEMENT tells, if it is as it must be, and answers whether it is. */
    private boolean tellStatement(Company company, int place) {
      if (company == null) {
        return false;
      }
      switch (letterAt(place)) {
        case 'f': return tellFriend(company, place + 1);
        case 'n': return tellNext(company, place + 1);
        case 'd': return tellDoor(company, place + 1);
        case 'g': return tellGift(company, place + 1);
        case 'h': return tellHands(company, place + 1);
        case 'm': return tellMonths(company, place + 1);
        default: return false;
      }
    }

    private boolean tellFriend(Company company, int place) {
      int kind = digitAt(place);
      int door = twoDigitsAt(place + 2);
      if (kind > MOST_KIND || door < LEAST_DOOR || company.friendsAreFull()) {
        return false;
      }
      company.addFriend(kind, digitAt(place + 1), door);
      return true;
    }

    private boolean tellNext(Company company, int place) {
      int one = digitAt(place);
      int other = digitAt(place + 1);
      if (!company.hasFriend(one) || !company.hasFriend(other) || one == other) {
        return false;
      }
      company.turnNext(one, other);
      return true;
    }

    private boolean tellDoor(Company company, int place) {
      int friend = digitAt(place);
      int door = twoDigitsAt(place + 1);
      if (!company.hasFriend(friend) || door < LEAST_DOOR) {
        return false;
      }
      company.friendAt(friend).door = door;
      return true;
    }

    private boolean tellGift(Company company, int place) {
      int size = twoDigitsAt(place + 2);
      int friend = digitAt(place + 4);
      if (size < LEAST_SIZE || !company.hasFriend(friend) || company.giftsAreFull()) {
        return false;
      }
      company.addGift(friend, twoDigitsAt(place), size);
      return true;
    }

    private boolean tellHands(Company company, int place) {
      int gift = digitAt(place);
      int friend = digitAt(place + 1);
      if (!company.hasGift(gift) || !company.hasFriend(friend)) {
        return false;
      }
      company.giftAt(gift).goTo(friend);
      return true;
    }

    private boolean tellMonths(Company company, int place) {
      int span = twoDigitsAt(place);
      if (span < 1 || span > MOST_SPAN || company.month + span > MOST_MONTH) {
        return false;
      }
      company.pass(span);
      return true;
    }
  }

  /** What would be: each question thinks a copy of what there is through, and changes nothing. */
  private static final class Mind {
    static final int MOST_LOST = 8;
    static final int MOST_ODDS = 20;
    static final int MOST_LOTS = 20;
    private static final int LOT_MONTHS = 24;
    private static final int YEAR_MONTHS = 12;
    private static final int MOST_THOUGHT_KEPT = 12;
    private static final int PAIRS = 4;
    private static final int WITHOUT_SIGN = 0x7fffffff;

    private final Company now;
    private final Numbers numbers;
    private final Company thought;
    private final int[] oneHas;
    private final int[] otherHas;

    Mind(Company company, Numbers told) {
      now = company;
      numbers = told;
      thought = new Company();
      oneHas = new int[PAIRS];
      otherHas = new int[PAIRS];
    }

    /** Begins again from now. */
    Company recall() {
      thought.copyFrom(now);
      return thought;
    }

    private void passGift(Gift it, int n) {
      for (int i = 0; i < n && it != null; i++) {
        it.passMonth(thought);
      }
    }

    int giftThen(int gift, int n, int what) {
      Gift it = recall().giftAt(gift);
      passGift(it, n);
      switch (what) {
        case 0: return it.with;
        case 1: return it.worth;
        case 2: return it.size;
        default: return it.passed;
      }
    }

    int heldThen(int friend, int n) {
      recall().pass(n);
      return friend == ALL ? thought.allWorth() : thought.holdsOf(friend);
    }

    int firstAway(int gift) {
      Gift it = recall().giftAt(gift);
      int home = it.with;
      for (int month = 1; month <= MOST_SPAN; month++) {
        it.passMonth(thought);
        if (it.with != home) {
          return month;
        }
      }
      return NOTHING;
    }

    int firstRound(int gift) {
      Gift it = recall().giftAt(gift);
      int home = it.with;
      boolean away = false;
      for (int month = 1; month <= MOST_SPAN; month++) {
        it.passMonth(thought);
        if (it.with != home) {
          away = true;
        } else if (away) {
          return month;
        }
      }
      return NOTHING;
    }

    int firstWith(int gift, int friend) {
      recall();
      return arrival(gift, friend, MOST_SPAN);
    }

    /** Behind how many MONTHS of what is thought now a GIFT is first with one. */
    private int arrival(int gift, int friend, int n) {
      Gift it = thought.giftAt(gift);
      for (int month = 0; month <= n; month++) {
        if (it.with == friend) {
          return month;
        }
        it.passMonth(thought);
      }
      return NOTHING;
    }

    /** GIFTS that are due in the MONTH to come and stay where they are all the same. */
    int stuck() {
      int bits = 0;
      recall();
      for (int i = 0; i < thought.gifts; i++) {
        Gift it = thought.giftAt(i);
        int holder = it.with;
        boolean due = it.kept + 1 >= thought.friendAt(holder).waits;
        it.passMonth(thought);
        if (due && it.with == holder) {
          bits |= 1 << i;
        }
      }
      return bits;
    }

    int startOfMostWorth(int gift, int n, int what) {
      int best = NOTHING;
      int most = -1;
      for (int i = 0; i < now.friends; i++) {
        Gift it = recall().giftAt(gift);
        it.goTo(i);
        passGift(it, n);
        if (it.worth > most) {
          most = it.worth;
          best = i;
        }
      }
      return what == 0 ? best : most;
    }

    int nextOfMostWorth(int friend, int n, int what) {
      int best = NONE_IS_BEST;
      int most = -1;
      for (int i = 0; i < now.friends; i++) {
        int worth = i == friend ? -1 : worthWithNext(friend, i, n);
        if (worth > most) {
          most = worth;
          best = i;
        }
      }
      int alone = worthWithNext(friend, NO_NEXT, n);
      if (alone > most) {
        most = alone;
        best = NONE_IS_BEST;
      }
      return what == 0 ? best : most;
    }

    private int worthWithNext(int friend, int next, int n) {
      recall().friendAt(friend).next = next;
      thought.pass(n);
      return thought.allWorth();
    }

    int fewestWidened(int gift, int friend, int n) {
      int found = NOTHING;
      int fewest = MOST_FRIENDS + 1;
      for (int bits = 0; bits < 1 << now.friends; bits++) {
        int many = Integer.bitCount(bits);
        if (many < fewest && comesWithWidened(gift, friend, n, bits)) {
          fewest = many;
          found = bits;
        }
      }
      return found;
    }

    private boolean comesWithWidened(int gift, int friend, int n, int bits) {
      recall();
      for (int i = 0; i < thought.friends; i++) {
        if ((bits >> i & 1) == 1) {
          thought.friendAt(i).door = MOST_DOOR;
        }
      }
      return arrival(gift, friend, n) != NOTHING;
    }

    int doorOfMostHands(int friend, int n, int what) {
      int best = LEAST_DOOR;
      int most = -1;
      for (int door = LEAST_DOOR; door <= MOST_DOOR; door++) {
        recall().friendAt(friend).door = door;
        thought.pass(n);
        int passed = thought.allHands();
        if (passed > most) {
          most = passed;
          best = door;
        }
      }
      return what == 0 ? best : most;
    }

    int bestWithout(int n) {
      int best = NOTHING;
      int most = -1;
      for (int i = 0; i < now.friends && now.friends >= 2; i++) {
        recall().passOver(i);
        thought.pass(n);
        int worth = thought.allWorth();
        if (worth > most) {
          most = worth;
          best = i;
        }
      }
      return best;
    }

    int kindsToldBy(int gift) {
      int bits = 0;
      for (int kind = 0; kind <= MOST_KIND; kind++) {
        Friend holder = holderOf(gift);
        holder.become(kind, holder.figure);
        if (worthsAreAsTold(gift)) {
          bits |= 1 << kind;
        }
      }
      return bits;
    }

    int figuresToldBy(int gift) {
      int bits = 0;
      for (int figure = 0; figure <= MOST_FIGURE; figure++) {
        Friend holder = holderOf(gift);
        holder.become(holder.kind, figure);
        if (worthsAreAsTold(gift)) {
          bits |= 1 << figure;
        }
      }
      return bits;
    }

    int keptsToldBy(int gift) {
      int many = 0;
      for (int kept = 0; kept <= MOST_THOUGHT_KEPT; kept++) {
        recall().giftAt(gift).kept = kept;
        if (worthsAreAsTold(gift)) {
          many++;
        }
      }
      return many;
    }

    /** Begins again from now: the one with whom a GIFT is. */
    private Friend holderOf(int gift) {
      recall();
      return thought.friendAt(thought.giftAt(gift).with);
    }

    private boolean worthsAreAsTold(int gift) {
      Gift it = thought.giftAt(gift);
      for (int i = 0; i < numbers.told; i++) {
        if (it.worth != numbers.numberAt(i)) {
          return false;
        }
        it.passMonth(thought);
      }
      return true;
    }

    int firstNotWith(int gift) {
      recall();
      return firstNotAsTold(gift);
    }

    int startsToldBy(int gift) {
      int bits = 0;
      for (int i = 0; i < now.friends; i++) {
        recall().giftAt(gift).goTo(i);
        if (firstNotAsTold(gift) == NOTHING) {
          bits |= 1 << i;
        }
      }
      return bits;
    }

    private int firstNotAsTold(int gift) {
      Gift it = thought.giftAt(gift);
      for (int i = 0; i < numbers.told; i++) {
        if (it.with != numbers.numberAt(i)) {
          return i;
        }
        it.passMonth(thought);
      }
      return NOTHING;
    }

    /** A pair is told by two bits: the one's choice above the other's. */
    int restingPair(int one, int other, int n) {
      for (int pair = 0; pair < PAIRS; pair++) {
        recall().friendAt(one).times = 1 + pair / 2;
        thought.friendAt(other).times = 1 + pair % 2;
        thought.pass(n);
        setCell(oneHas, pair, thought.worthWith(one));
        setCell(otherHas, pair, thought.worthWith(other));
      }
      for (int pair = 0; pair < PAIRS; pair++) {
        if (cellOf(oneHas, pair) >= cellOf(oneHas, pair ^ 2)
            && cellOf(otherHas, pair) >= cellOf(otherHas, pair ^ 1)) {
          return 10 * (pair / 2) + pair % 2;
        }
      }
      return NOTHING;
    }

    /** Of t to the n-th ways, how many bring a GIFT to one: a bit of lost for each MONTH. */
    long waysWithLost(int gift, int friend, int n, int t) {
      long ways = 0;
      recall();
      Gift it = thought.giftAt(gift);
      for (int lost = 0; lost < 1 << n; lost++) {
        it.copyFrom(now.giftAt(gift));
        passWithLost(it, n, lost);
        if (it.with == friend) {
          ways += power(t - 1, n - Integer.bitCount(lost));
        }
      }
      return ways;
    }

    private void passWithLost(Gift it, int n, int lost) {
      for (int i = 0; i < n && it != null; i++) {
        if ((lost >> i & 1) == 1) {
          it.keep();
        } else {
          it.passMonth(thought);
        }
      }
    }

    int broughtBy(int friend, int n) {
      recall().pass(n);
      return thought.friendAt(friend).brought;
    }

    int unevenBrought(int n) {
      if (now.friends == 0) {
        return 0;
      }
      recall().pass(n);
      int most = thought.friendAt(0).brought;
      int least = most;
      for (int i = 1; i < thought.friends; i++) {
        most = Math.max(most, thought.friendAt(i).brought);
        least = Math.min(least, thought.friendAt(i).brought);
      }
      return most - least;
    }

    int firstTogether(int one, int other) {
      recall();
      for (int month = 0; month <= MOST_SPAN; month++) {
        if (thought.giftAt(one).with == thought.giftAt(other).with) {
          return month;
        }
        thought.pass(1);
      }
      return NOTHING;
    }

    int neverWith(int n) {
      recall();
      int bits = (1 << thought.friends) - 1;
      for (int month = 0; month <= n; month++) {
        for (int i = 0; i < thought.gifts; i++) {
          bits &= ~(1 << thought.giftAt(i).with);
        }
        thought.pass(1);
      }
      return bits;
    }

    int worthOfAYear() {
      recall().pass(YEAR_MONTHS);
      return thought.allWorth() - now.allWorth();
    }

    int moreByLot(int n, int z, int what) {
      int seed = z;
      int worth = 0;
      int passed = 0;
      for (int i = 0; i < n; i++) {
        recall();
        seed = drawNexts(seed);
        thought.pass(LOT_MONTHS);
        worth += thought.allWorth() - now.allWorth();
        passed += thought.allHands() - now.allHands();
      }
      return what == 0 ? worth : passed;
    }

    /** Draws the NEXT of each: the seed behind that. */
    private int drawNexts(int z) {
      int seed = z;
      int below = thought.friends;
      for (int i = 0; i < below; i++) {
        seed = seed * 1103515245 + 12345;
        int drawn = (seed & WITHOUT_SIGN) / 65536 % below;
        thought.friendAt(i).next = drawn == i ? NO_NEXT : drawn;
      }
      return seed;
    }
  }
}
