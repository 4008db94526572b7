/**
 * A printer for a small page language. The numbered promises and the words in
 * capitals are those of DOC.md; NOTES.md tells how the parts lie together.
 */
public final class Plateroomprinter {
  private static final int NONE = -1;
  private static final int SIDE = 32;
  private static final int PLATES = 4;
  private static final int MOST_TOKENS = 400;
  private static final int MOST_ITEMS = 40;
  private static final int MOST_NAMES = 10;
  private static final int MOST_ROWS = 12;
  private static final int MOST_COST = 5000;
  private static final int MOST_STATES = 8;
  private static final int MOST_POINTS = 120;
  private static final int MOST_FIGURES = 60;
  private static final int FORMS = 5;
  private static final int ORDERS = 53;
  /** Far above the TOKENS, rounds and steps that any loop here can need. */
  private static final int FAR = 1000000;

  private static final int UNDER = 1;
  private static final int KIND = 2;
  private static final int RANGE = 3;
  private static final int ZERO = 4;
  private static final int NAME = 5;
  private static final int BRACE = 6;
  private static final int DEEP = 7;
  private static final int FULL = 8;
  private static final int POINT = 9;
  private static final int LOOP = 10;
  private static final int BOUND = 11;

  private static final int IS_NUMBER = 0;
  private static final int IS_NAME = 1;
  private static final int IS_PROCEDURE = 2;

  private static final int EVEN = 0;
  private static final int TURNS = 1;
  private static final int[] PAGE_XS = {0, 512, 512, 0};
  private static final int[] PAGE_YS = {0, 0, 512, 512};

  private final Code code = new Code();
  private final World world = new World();
  /** What a RUN with a fault goes back to. */
  private final World before = new World();
  private final Raster raster = new Raster();
  private final Painter painter = new Painter(world, raster);
  private final Engine engine = new Engine(world, code);
  private final Sheet trial = new Sheet();
  private final int[] rowsOne = new int[SIDE];
  private final int[] rowsTwo = new int[SIDE];
  private final int[] rowsThree = new int[SIDE];
  private final int[] partXs = new int[MOST_POINTS];
  private final int[] partYs = new int[MOST_POINTS];
  /** No plate has more RUNS: each number is a dot at least, or the 0 ahead or behind a 99. */
  private final int[] packs = new int[SIDE * SIDE + SIDE];
  private int refused;
  private int faultCode;
  private int faultPlace;
  private int faultOwnPlace;

  public Plateroomprinter() {
    refused = 0;
    faultCode = 0;
    faultPlace = NONE;
    faultOwnPlace = NONE;
  }

  // ---- the program

  public int token(int kind, int number) throws IllegalArgumentException, IllegalStateException {
    if (!isToken(kind, number)) {
      throw new IllegalArgumentException("no such token");
    }
    if (code.size >= MOST_TOKENS) {
      throw new IllegalStateException("the program is full");
    }
    code.append(kind, number);
    return code.size;
  }

  public int three(int kind, int number, int kind2, int number2, int kind3, int number3)
      throws IllegalArgumentException, IllegalStateException {
    if (!isToken(kind, number) || !isToken(kind2, number2) || !isToken(kind3, number3)) {
      throw new IllegalArgumentException("no such token");
    }
    if (code.size > MOST_TOKENS - 3) {
      throw new IllegalStateException("the program is full");
    }
    code.append(kind, number);
    code.append(kind2, number2);
    code.append(kind3, number3);
    return code.size;
  }

  public int drop() throws IllegalStateException {
    if (code.size <= 0) {
      throw new IllegalStateException("the program is empty");
    }
    int kind = code.kindAt(code.base + code.size - 1);
    code.size--;
    return kind;
  }

  public int wipe() {
    int size = code.size;
    code.size = 0;
    return size;
  }

  public int run() {
    before.copyFrom(world);
    // A RUN that ended within an ORDER may have left some.
    painter.takePainted();
    engine.begin();
    int found = engine.seek();
    for (int k = 0; k < FAR && found == 0; k++) {
      found = engine.step();
      if (found == 0 && engine.orderLeft != NONE) {
        found = painter.doOrder(engine.orderLeft, engine.values);
      }
      if (found == 0) {
        found = engine.weigh(painter.takePainted());
      }
      if (found == 0) {
        found = engine.seek();
      }
    }
    if (found > 0) {
      world.copyFrom(before);
      setFault(found, engine.place, engine.ownPlace);
    } else {
      engine.tally();
      code.retire();
      setFault(0, NONE, NONE);
    }
    return faultCode;
  }

  public int fresh() {
    int printed = world.printed;
    world.clear();
    setFault(0, NONE, NONE);
    return printed;
  }

  public int knock() {
    refused++;
    return refused;
  }

  private void setFault(int code, int place, int ownPlace) {
    faultCode = code;
    faultPlace = place;
    faultOwnPlace = ownPlace;
  }

  private static boolean isToken(int kind, int number) {
    switch (kind) {
      case Code.NUMBER:
        return number >= -9999 && number <= 9999;
      case Code.ORDER:
        return number >= 0 && number < ORDERS;
      case Code.SAID:
      case Code.DONE:
        return number >= 0 && number < MOST_NAMES;
      case Code.OPEN:
      case Code.CLOSE:
        return number == 0;
      default:
        return false;
    }
  }

  // ---- program, faults, pile

  public int tokens() {
    return code.size;
  }

  public int tokenAt(int place, int what) throws IndexOutOfBoundsException, IllegalArgumentException {
    if (place < 0 || place >= code.size) {
      throw new IndexOutOfBoundsException("no such place");
    }
    if (what < 0 || what > 1) {
      throw new IllegalArgumentException("what is 0 or 1");
    }
    return what == 0 ? code.kindAt(code.base + place) : code.numberAt(code.base + place);
  }

  public int fault(int what) throws IllegalArgumentException {
    switch (what) {
      case 0:
        return faultCode;
      case 1:
        return faultPlace;
      case 2:
        return faultOwnPlace;
      default:
        throw new IllegalArgumentException("what is 0 to 2");
    }
  }

  public int items() {
    return world.pile.count;
  }

  public int item(int place, int what) throws IndexOutOfBoundsException, IllegalArgumentException {
    if (place < 0 || place >= world.pile.count) {
      throw new IndexOutOfBoundsException("no such place");
    }
    if (what < 0 || what > 1) {
      throw new IllegalArgumentException("what is 0 or 1");
    }
    int at = world.pile.count - 1 - place;
    return what == 0 ? world.pile.sortAt(at) : world.pile.toldAt(at);
  }

  public int name(int name, int what) throws IndexOutOfBoundsException, IllegalArgumentException {
    if (name < 0 || name >= MOST_NAMES) {
      throw new IndexOutOfBoundsException("no such name");
    }
    if (what < 0 || what > 1) {
      throw new IllegalArgumentException("what is 0 or 1");
    }
    return what == 0 ? world.names.sortAt(name) : world.names.toldAt(name);
  }

  public int cost(int what) throws IllegalArgumentException {
    switch (what) {
      case 0:
        return world.costOfAll;
      case 1:
        return world.costOfLast;
      case 2:
        return world.tokensDone;
      default:
        throw new IllegalArgumentException("what is 0 to 2");
    }
  }

  public int done(int order) throws IndexOutOfBoundsException {
    if (order < 0 || order >= ORDERS) {
      throw new IndexOutOfBoundsException("no such order");
    }
    return world.ordersDone[order];
  }

  // ---- state and path

  public int state(int what) throws IllegalArgumentException {
    State now = world.now;
    switch (what) {
      case 0:
        return now.pen;
      case 1:
        return now.cap;
      case 2:
        return now.join;
      case 3:
        return now.size;
      case 4:
      case 5:
      case 6:
      case 7:
        return now.amounts[what - 4];
      case 8:
        return now.pointed ? 1 : 0;
      case 9:
        return now.pointed ? now.x : 0;
      case 10:
        return now.pointed ? now.y : 0;
      case 11:
        return now.path.rings;
      case 12:
        return now.path.points;
      case 13:
        return bitsOf(now.clip, 0);
      case 14:
        return world.keptStates;
      default:
        throw new IllegalArgumentException("what is 0 to 14");
    }
  }

  public int matrix(int entry, int part) throws IndexOutOfBoundsException, IllegalArgumentException {
    if (entry < 0 || entry > 5) {
      throw new IndexOutOfBoundsException("no such entry");
    }
    if (part < 0 || part > 1) {
      throw new IllegalArgumentException("part is 0 or 1");
    }
    return (int) (part == 0 ? world.now.matrix.tops[entry] : world.now.matrix.bottoms[entry]);
  }

  public int ring(int ring, int what) throws IndexOutOfBoundsException, IllegalArgumentException {
    Path path = world.now.path;
    if (ring < 0 || ring >= path.rings) {
      throw new IndexOutOfBoundsException("no such ring");
    }
    if (what < 0 || what > 1) {
      throw new IllegalArgumentException("what is 0 or 1");
    }
    return what == 0 ? path.sizeOf(ring) : path.closed[ring];
  }

  public int point(int ring, int place, int what) throws IndexOutOfBoundsException, IllegalArgumentException {
    Path path = world.now.path;
    if (ring < 0 || ring >= path.rings) {
      throw new IndexOutOfBoundsException("no such ring");
    }
    if (place < 0 || place >= path.sizeOf(ring)) {
      throw new IndexOutOfBoundsException("no such point");
    }
    if (what < 0 || what > 1) {
      throw new IllegalArgumentException("what is 0 or 1");
    }
    int at = path.startOf(ring) + place;
    return what == 0 ? path.xAt(at) : path.yAt(at);
  }

  public int form(int form, int what) throws IndexOutOfBoundsException, IllegalArgumentException {
    if (form < 0 || form >= FORMS) {
      throw new IndexOutOfBoundsException("no such form");
    }
    switch (what) {
      case 0:
        return world.formKept[form];
      case 1:
        return world.forms[form].rings;
      case 2:
        return world.forms[form].points;
      default:
        throw new IllegalArgumentException("what is 0 to 2");
    }
  }

  public boolean has(int x, int y, int rule) throws IndexOutOfBoundsException, IllegalArgumentException {
    if (!isOnPage(x, y)) {
      throw new IndexOutOfBoundsException("no such dot");
    }
    if (!isRule(rule)) {
      throw new IllegalArgumentException("rule is 0 or 1");
    }
    fillPath(0, 0, rule, rowsOne);
    return isSet(rowsOne, x, y);
  }

  public int dots(int rule) throws IllegalArgumentException {
    if (!isRule(rule)) {
      throw new IllegalArgumentException("rule is 0 or 1");
    }
    fillPath(0, 0, rule, rowsOne);
    return bitsOf(rowsOne, 0);
  }

  public int moved(int dx, int dy, int rule) throws IllegalArgumentException {
    if (dx < -40 || dx > 40 || dy < -40 || dy > 40) {
      throw new IllegalArgumentException("moved by -40 to 40");
    }
    if (!isRule(rule)) {
      throw new IllegalArgumentException("rule is 0 or 1");
    }
    fillPath(dx, dy, rule, rowsOne);
    return bitsOf(rowsOne, 0);
  }

  public int inverse() {
    clearRows(rowsOne);
    raster.addPath(world.now.path, 0, 0);
    raster.addRing(PAGE_XS, PAGE_YS, 0, PAGE_XS.length, 0, 0);
    raster.settle(EVEN, rowsOne);
    return bitsOf(rowsOne, 0);
  }

  public int halves(int ring, int from, int to, int what) throws IndexOutOfBoundsException, IllegalArgumentException {
    Path path = world.now.path;
    if (ring < 0 || ring >= path.rings) {
      throw new IndexOutOfBoundsException("no such ring");
    }
    int size = path.sizeOf(ring);
    if (from < 0 || from >= size || to < 0 || to >= size) {
      throw new IndexOutOfBoundsException("no such point");
    }
    if (to <= from || what < 0 || what > 4) {
      throw new IllegalArgumentException("to is above from, what is 0 to 4");
    }
    fillHalves(ring, from, to);
    switch (what) {
      case 0:
        return bitsOf(rowsThree, 0);
      case 1:
        return bitsOf(rowsOne, 0);
      case 2:
        return bitsOf(rowsTwo, 0);
      default:
        return sharedBits(what == 3);
    }
  }

  /** How many dots are in both of rowsOne and rowsTwo, or in just one of them. */
  private int sharedBits(boolean both) {
    int sum = 0;
    for (int y = 0; y < SIDE; y++) {
      sum += Integer.bitCount(both ? rowsOne[y] & rowsTwo[y] : rowsOne[y] ^ rowsTwo[y]);
    }
    return sum;
  }

  /** The first half goes to rowsOne, the second one to rowsTwo, the whole RING to rowsThree. */
  private void fillHalves(int ring, int from, int to) {
    Path path = world.now.path;
    int start = path.startOf(ring);
    int size = path.sizeOf(ring);
    fillPart(start, from, to - from + 1, size, rowsOne);
    fillPart(start, to, size - to + from + 1, size, rowsTwo);
    fillPart(start, 0, size, size, rowsThree);
  }

  /** The RING of so many points from the one on, going round at the end of the row of size points. */
  private void fillPart(int start, int from, int many, int size, int[] rows) {
    Path path = world.now.path;
    int kept = Math.min(many, MOST_POINTS);
    int place = from;
    for (int k = 0; k < kept; k++) {
      partXs[k] = path.xAt(start + place);
      partYs[k] = path.yAt(start + place);
      place++;
      if (place >= size) {
        place = 0;
      }
    }
    clearRows(rows);
    raster.addRing(partXs, partYs, 0, kept, 0, 0);
    raster.settle(EVEN, rows);
  }

  private void fillPath(int dx, int dy, int rule, int[] rows) {
    clearRows(rows);
    raster.addPath(world.now.path, 16 * dx, 16 * dy);
    raster.settle(rule, rows);
  }

  private static boolean isOnPage(int x, int y) {
    return x >= 0 && x < SIDE && y >= 0 && y < SIDE;
  }

  private static boolean isRule(int rule) {
    return rule == EVEN || rule == TURNS;
  }

  private static void clearRows(int[] rows) {
    for (int y = 0; y < rows.length; y++) {
      rows[y] = 0;
    }
  }

  private static boolean isSet(int[] rows, int x, int y) {
    return y >= 0 && y < rows.length && ((rows[y] >>> x) & 1) != 0;
  }

  /** The bits of 32 rows from a place on. */
  private static int bitsOf(int[] rows, int from) {
    int sum = 0;
    for (int y = 0; y < SIDE; y++) {
      if (from >= 0 && from + y < rows.length) {
        sum += Integer.bitCount(rows[from + y]);
      }
    }
    return sum;
  }

  // ---- the page

  public int figures() {
    return world.list.count;
  }

  public int figure(int figure, int what) throws IndexOutOfBoundsException, IllegalArgumentException {
    if (figure < 0 || figure >= world.list.count) {
      throw new IndexOutOfBoundsException("no such figure");
    }
    switch (what) {
      case 0:
        return bitsOf(world.list.rows, figure * SIDE);
      case 1:
        return world.list.sets[figure];
      case 2:
        return world.list.points[figure];
      case 3:
      case 4:
      case 5:
      case 6:
        return world.list.amounts[figure * PLATES + what - 3];
      default:
        throw new IllegalArgumentException("what is 0 to 6");
    }
  }

  public int last(int x, int y) throws IndexOutOfBoundsException {
    if (!isOnPage(x, y)) {
      throw new IndexOutOfBoundsException("no such dot");
    }
    for (int k = world.list.count - 1; k >= 0; k--) {
      if (isSet(world.list.rows, x, k * SIDE + y)) {
        return k;
      }
    }
    return NONE;
  }

  public int dot(int x, int y) throws IndexOutOfBoundsException {
    if (!isOnPage(x, y)) {
      throw new IndexOutOfBoundsException("no such dot");
    }
    return world.sheet.colourOf(x, y);
  }

  public int row(int plate, int y) throws IndexOutOfBoundsException {
    if (plate < 0 || plate >= PLATES || y < 0 || y >= SIDE) {
      throw new IndexOutOfBoundsException("no such row");
    }
    return world.sheet.rows[plate * SIDE + y];
  }

  public int count(int plate) throws IndexOutOfBoundsException {
    if (plate < 0 || plate >= PLATES) {
      throw new IndexOutOfBoundsException("no such plate");
    }
    return bitsOf(world.sheet.rows, plate * SIDE);
  }

  public boolean bands(int height) throws IllegalArgumentException {
    if (height < 1 || height > SIDE) {
      throw new IllegalArgumentException("height is 1 to 32");
    }
    return agreesInBands(height);
  }

  public int runs(int plate) throws IndexOutOfBoundsException {
    if (plate < 0 || plate >= PLATES) {
      throw new IndexOutOfBoundsException("no such plate");
    }
    return pack(plate);
  }

  public int runAt(int plate, int place) throws IndexOutOfBoundsException {
    if (plate < 0 || plate >= PLATES) {
      throw new IndexOutOfBoundsException("no such plate");
    }
    int many = pack(plate);
    if (place < 0 || place >= many || place >= packs.length) {
      throw new IndexOutOfBoundsException("no such place");
    }
    return packs[place];
  }

  public int page(int what) throws IllegalArgumentException {
    switch (what) {
      case 0:
        return world.printed;
      case 1:
      case 2:
      case 3:
      case 4:
        return bitsOf(world.lastSheet.rows, (what - 1) * SIDE);
      case 5:
        return world.lastSheet.coloured();
      default:
        throw new IllegalArgumentException("what is 0 to 5");
    }
  }

  public int lastDot(int x, int y) throws IndexOutOfBoundsException {
    if (!isOnPage(x, y)) {
      throw new IndexOutOfBoundsException("no such dot");
    }
    return world.printed > 0 ? world.lastSheet.colourOf(x, y) : NONE;
  }

  /**
   * DOC.md names the THEOREMS by number but does not tell them; each check
   * here is the law that the promise's words let one expect (see NOTES.md).
   * That each dot of CLIP and of FIGURES is on the page needs no check: they
   * are held as 32 rows of 32 bits.
   */
  public boolean isSound() {
    int y = Math.floorMod(world.costOfAll, SIDE);
    return agreesInBands(1) && agreesInBands(5) && agreesInBands(SIDE)
        && inverse() == SIDE * SIDE - dots(EVEN)
        && movesAlong(y, EVEN) && movesAlong(y, TURNS)
        && halvesAgree() && lastTells(y) && packsAgree();
  }

  public long digest() {
    long d = digestOfProgram(6405L);
    d = digestOfState(d);
    d = digestOfPath(d);
    d = digestOfPage(d);
    return d * 31 + (isSound() ? 1 : 0);
  }

  /** Whether the LIST, painted band by band on an empty page, gives the plates as they are. */
  private boolean agreesInBands(int height) {
    trial.clear();
    for (int band = 0; band * height < SIDE && band < SIDE; band++) {
      int from = band * height;
      for (int k = 0; k < world.list.count; k++) {
        trial.paint(world.list.rows, k * SIDE, world.list.amounts, k * PLATES, from, from + height);
      }
    }
    return trial.agreesWith(world.sheet);
  }

  /** Whether the PATH moved by 3, -2 has the dots of the row y moved so, as far as they are on the page. */
  private boolean movesAlong(int y, int rule) {
    fillPath(0, 0, rule, rowsOne);
    fillPath(3, -2, rule, rowsTwo);
    boolean agrees = true;
    for (int x = 0; x < SIDE; x++) {
      if (isOnPage(x + 3, y - 2) && isSet(rowsOne, x, y) != isSet(rowsTwo, x + 3, y - 2)) {
        agrees = false;
      }
    }
    return agrees;
  }

  /** Whether each RING of four points or more has the dots that are in just one of its halves. */
  private boolean halvesAgree() {
    boolean agrees = true;
    for (int ring = 0; ring < world.now.path.rings; ring++) {
      if (world.now.path.sizeOf(ring) >= 4) {
        fillHalves(ring, 0, 2);
        for (int y = 0; y < SIDE; y++) {
          if ((rowsOne[y] ^ rowsTwo[y]) != rowsThree[y]) {
            agrees = false;
          }
        }
      }
    }
    return agrees;
  }

  /** Whether each dot of the row has the COLOUR that the last FIGURE that has it tells, 0 without one. */
  private boolean lastTells(int y) {
    boolean agrees = true;
    for (int x = 0; x < SIDE; x++) {
      int figure = last(x, y);
      int colour = 0;
      for (int plate = 0; plate < PLATES && figure >= 0 && figure < MOST_FIGURES; plate++) {
        int on = Sheet.screenOf(world.list.amounts[figure * PLATES + plate], plate, y);
        colour |= ((on >>> x) & 1) << plate;
      }
      if (colour != world.sheet.colourOf(x, y)) {
        agrees = false;
      }
    }
    return agrees;
  }

  /** Whether the RUNS of each plate, unpacked, give that plate. */
  private boolean packsAgree() {
    boolean agrees = true;
    for (int plate = 0; plate < PLATES; plate++) {
      boolean complete = unpack(pack(plate), rowsOne);
      for (int y = 0; y < SIDE; y++) {
        if (!complete || rowsOne[y] != world.sheet.rows[plate * SIDE + y]) {
          agrees = false;
        }
      }
    }
    return agrees;
  }

  /** Puts the dots of so many numbers of packs on; answers whether they tell 1024 dots. */
  private boolean unpack(int many, int[] rows) {
    clearRows(rows);
    int dot = 0;
    for (int k = 0; k < many && k < packs.length; k++) {
      int end = dot + packs[k];
      for (int on = dot; k % 2 == 1 && on < end && on < SIDE * SIDE; on++) {
        rows[on / SIDE] |= 1 << (on % SIDE);
      }
      dot = end;
    }
    return dot == SIDE * SIDE;
  }

  /** Writes the RUNS of a plate into packs and answers how many they are. */
  private int pack(int plate) {
    int many = 0;
    int length = 0;
    int on = 0;
    for (int y = 0; y < SIDE; y++) {
      int row = world.sheet.rows[plate * SIDE + y];
      for (int x = 0; x < SIDE; x++) {
        if (((row >>> x) & 1) != on) {
          many = tell(length, many);
          on = 1 - on;
          length = 0;
        }
        length++;
      }
    }
    return tell(length, many);
  }

  /** Writes one number of RUNS behind so many, told in parts if it is above 99. */
  private int tell(int length, int many) {
    int rest = length;
    int at = many;
    for (int k = 0; k < SIDE && rest > 99; k++) {
      if (at >= 0 && at + 1 < packs.length) {
        packs[at] = 99;
        packs[at + 1] = 0;
      }
      at += 2;
      rest -= 99;
    }
    if (at >= 0 && at < packs.length) {
      packs[at] = rest;
    }
    return at + 1;
  }

  private long digestOfProgram(long begun) {
    long d = begun * 31 + tokens();
    for (int k = 0; k < code.size; k++) {
      d = d * 31 + tokenAt(k, 0);
      d = d * 31 + tokenAt(k, 1);
    }
    for (int k = 0; k < 3; k++) {
      d = d * 31 + fault(k);
    }
    d = d * 31 + items();
    for (int k = 0; k < world.pile.count; k++) {
      d = d * 31 + item(k, 0);
      d = d * 31 + item(k, 1);
    }
    for (int k = 0; k < MOST_NAMES; k++) {
      d = d * 31 + name(k, 0);
      d = d * 31 + name(k, 1);
    }
    for (int k = 0; k < 3; k++) {
      d = d * 31 + cost(k);
    }
    for (int k = 0; k < ORDERS; k++) {
      d = d * 31 + done(k);
    }
    return d;
  }

  private long digestOfState(long begun) {
    long d = begun;
    for (int k = 0; k <= 14; k++) {
      d = d * 31 + state(k);
    }
    for (int k = 0; k < 6; k++) {
      d = d * 31 + matrix(k, 0);
      d = d * 31 + matrix(k, 1);
    }
    return d;
  }

  private long digestOfPath(long begun) {
    long d = begun;
    for (int k = 0; k < world.now.path.rings; k++) {
      d = d * 31 + ring(k, 0);
      d = d * 31 + ring(k, 1);
      int size = world.now.path.sizeOf(k);
      for (int n = 0; n < size; n++) {
        d = d * 31 + point(k, n, 0);
        d = d * 31 + point(k, n, 1);
      }
    }
    for (int k = 0; k < FORMS; k++) {
      for (int n = 0; n < 3; n++) {
        d = d * 31 + form(k, n);
      }
    }
    d = d * 31 + dots(EVEN);
    d = d * 31 + dots(TURNS);
    return d * 31 + inverse();
  }

  private long digestOfPage(long begun) {
    long d = begun * 31 + figures();
    for (int k = 0; k < world.list.count; k++) {
      for (int n = 0; n < 7; n++) {
        d = d * 31 + figure(k, n);
      }
    }
    for (int k = 0; k < PLATES; k++) {
      for (int y = 0; y < SIDE; y++) {
        d = d * 31 + row(k, y);
      }
      d = d * 31 + count(k);
      d = d * 31 + runs(k);
    }
    for (int k = 0; k < 6; k++) {
      d = d * 31 + page(k);
    }
    return d;
  }

  /**
   * All TOKENS that were ever in a PROGRAM that ran, and behind them the
   * PROGRAM itself. A PROCEDURE is a place here and a length, so its TOKENS
   * stay where they were written.
   */
  private static final class Code {
    static final int NUMBER = 0;
    static final int ORDER = 1;
    static final int SAID = 2;
    static final int DONE = 3;
    static final int OPEN = 4;
    static final int CLOSE = 5;
    /** 511 calls bring at most three TOKENS each, and a whole PROGRAM must still fit behind them. */
    private static final int ROOM = 2000;

    private final int[] kinds = new int[ROOM];
    private final int[] numbers = new int[ROOM];
    int base;
    int size;

    void append(int kind, int number) {
      int at = base + size;
      if (at >= 0 && at < ROOM) {
        kinds[at] = kind;
        numbers[at] = number;
        size++;
      }
    }

    int kindAt(int at) {
      return at >= 0 && at < ROOM ? kinds[at] : NUMBER;
    }

    int numberAt(int at) {
      return at >= 0 && at < ROOM ? numbers[at] : 0;
    }

    /** The place of the CLOSE that belongs to an OPEN ahead of from, in a row that ends ahead of end. */
    int closeFor(int from, int end) {
      int open = 1;
      int last = Math.min(end, ROOM);
      for (int at = Math.max(0, from); at < last; at++) {
        if (kinds[at] == OPEN) {
          open++;
        } else if (kinds[at] == CLOSE) {
          open--;
          if (open == 0) {
            return at;
          }
        }
      }
      return NONE;
    }

    /** The PROGRAM is empty, and its TOKENS are kept for the PROCEDURES made of them. */
    void retire() {
      base += size;
      size = 0;
      // Only an object that has had far more than its 512 calls begins anew.
      if (base > ROOM - MOST_TOKENS) {
        base = 0;
      }
    }
  }

  /** A row of ITEMS: the PILE, or what the NAMES stand for. */
  private static final class Items {
    private final int most;
    private final int[] sorts;
    private final int[] values;
    private final int[] lengths;
    int count;

    Items(int most) {
      this.most = Math.max(0, most);
      sorts = new int[this.most];
      values = new int[this.most];
      lengths = new int[this.most];
      count = 0;
    }

    void clear(int filled) {
      count = Math.max(0, Math.min(filled, most));
      for (int k = 0; k < most; k++) {
        write(k, NONE, 0, 0);
      }
    }

    void copyFrom(Items other) {
      int many = Math.min(other.count, Math.min(most, other.most));
      count = many;
      for (int k = 0; k < many; k++) {
        write(k, other.sorts[k], other.values[k], other.lengths[k]);
      }
    }

    void write(int at, int sort, int value, int length) {
      if (at >= 0 && at < most) {
        sorts[at] = sort;
        values[at] = value;
        lengths[at] = length;
      }
    }

    int sortAt(int at) {
      return at >= 0 && at < most ? sorts[at] : NONE;
    }

    int valueAt(int at) {
      return at >= 0 && at < most ? values[at] : 0;
    }

    int lengthAt(int at) {
      return at >= 0 && at < most ? lengths[at] : 0;
    }

    /** What the calls tell of an ITEM: of a PROCEDURE how many TOKENS. */
    int toldAt(int at) {
      return sortAt(at) == IS_PROCEDURE ? lengthAt(at) : valueAt(at);
    }

    int put(int sort, int value, int length) {
      if (count < 0 || count >= most) {
        return FULL;
      }
      sorts[count] = sort;
      values[count] = value;
      lengths[count] = length;
      count++;
      return 0;
    }

    int putNumber(long number) {
      if (number < -99999 || number > 99999) {
        return RANGE;
      }
      return put(IS_NUMBER, (int) number, 0);
    }
  }

  /** Six fractions without common divisors, the denominators above 0. */
  private static final class Matrix {
    private static final long MOST = 1000000L;

    final long[] tops = new long[6];
    final long[] bottoms = new long[6];
    /** A sum of fractions: whole + rest / bottom, rest from 0 on and below bottom. */
    private long whole;
    private long rest;
    private long bottom;

    void clear() {
      for (int k = 0; k < 6; k++) {
        tops[k] = k == 0 || k == 3 ? 1 : 0;
        bottoms[k] = 1;
      }
    }

    void copyFrom(Matrix other) {
      for (int k = 0; k < 6; k++) {
        tops[k] = other.tops[k];
        bottoms[k] = other.bottoms[k];
      }
    }

    int move(int x, int y) {
      int fault = moveOne(0, x, y);
      return fault != 0 ? fault : moveOne(1, x, y);
    }

    private int moveOne(int axis, int x, int y) {
      gather(axis, x, y, true);
      long divisor = divisorOf(rest, bottom);
      long under = bottom / divisor;
      // With a denominator beyond the bounds the numerator need not be known, and might not fit.
      if (under > MOST) {
        return RANGE;
      }
      return write(4 + axis, whole * under + rest / divisor, under);
    }

    int scale(int p, int q, int r, int s) {
      if (q == 0 || s == 0) {
        return ZERO;
      }
      if (p == 0 || r == 0) {
        return RANGE;
      }
      for (int k = 0; k < 4; k++) {
        int fault = write(k, tops[k] * (k < 2 ? p : r), bottoms[k] * (k < 2 ? q : s));
        if (fault != 0) {
          return fault;
        }
      }
      return 0;
    }

    void turn(int n) {
      int times = Math.floorMod(n, 4);
      for (int k = 0; k < times; k++) {
        for (int j = 0; j < 2; j++) {
          long top = tops[j];
          long under = bottoms[j];
          tops[j] = tops[j + 2];
          bottoms[j] = bottoms[j + 2];
          tops[j + 2] = -top;
          bottoms[j + 2] = under;
        }
      }
    }

    int slant(int p, int q) {
      if (q == 0) {
        return ZERO;
      }
      for (int k = 0; k < 2; k++) {
        long under = bottoms[k] * q;
        int fault = write(k + 2, tops[k + 2] * under + tops[k] * p * bottoms[k + 2], bottoms[k + 2] * under);
        if (fault != 0) {
          return fault;
        }
      }
      return 0;
    }

    /** FLOOR(16 * (a * x + c * y + e) + 1/2), of the other axis with b, d, f; without e or f if not shifted. */
    long sixteenths(int axis, int x, int y, boolean shifted) {
      gather(axis, x, y, shifted);
      long left = rest;
      long twice = whole;
      for (int k = 0; k < 5; k++) {
        left += left;
        twice += twice;
        if (left >= bottom) {
          left -= bottom;
          twice++;
        }
      }
      return (twice + 1) >> 1;
    }

    /** Whole parts and rests are summed apart, as the numerators of the whole sum would not fit into a long. */
    private void gather(int axis, int x, int y, boolean shifted) {
      int at = axis == 0 ? 0 : 1;
      long first = tops[at] * x;
      long second = tops[at + 2] * y;
      long third = shifted ? tops[at + 4] : 0;
      long underOne = Math.max(1, bottoms[at]);
      long underTwo = Math.max(1, bottoms[at + 2]);
      long underThree = shifted ? Math.max(1, bottoms[at + 4]) : 1;
      whole = Math.floorDiv(first, underOne) + Math.floorDiv(second, underTwo) + Math.floorDiv(third, underThree);
      rest = Math.floorMod(first, underOne) * underTwo * underThree
          + Math.floorMod(second, underTwo) * underOne * underThree
          + Math.floorMod(third, underThree) * underOne * underTwo;
      bottom = underOne * underTwo * underThree;
      for (int k = 0; k < 3 && rest >= bottom; k++) {
        rest -= bottom;
        whole++;
      }
    }

    private int write(int at, long top, long under) {
      long divisor = divisorOf(top, under);
      if (under < 0) {
        divisor = -divisor;
      }
      long reducedTop = top / divisor;
      long reducedUnder = under / divisor;
      if (reducedTop > MOST || reducedTop < -MOST || reducedUnder > MOST) {
        return RANGE;
      }
      if (at >= 0 && at < 6) {
        tops[at] = reducedTop;
        bottoms[at] = reducedUnder;
      }
      return 0;
    }

    /** The greatest common divisor, 1 at least. */
    private static long divisorOf(long one, long other) {
      long a = one < 0 ? -one : one;
      long b = other < 0 ? -other : other;
      for (int k = 0; k < FAR && b > 0; k++) {
        long left = a % b;
        a = b;
        b = left;
      }
      return Math.max(1, a);
    }
  }

  /** RINGS of points; the points of all stand in one row. */
  private static final class Path {
    final int[] xs = new int[MOST_POINTS];
    final int[] ys = new int[MOST_POINTS];
    private final int[] ends = new int[MOST_POINTS];
    final int[] closed = new int[MOST_POINTS];
    int rings;
    int points;

    void clear() {
      rings = 0;
      points = 0;
    }

    void copyFrom(Path other) {
      rings = Math.max(0, Math.min(other.rings, MOST_POINTS));
      points = Math.max(0, Math.min(other.points, MOST_POINTS));
      System.arraycopy(other.xs, 0, xs, 0, points);
      System.arraycopy(other.ys, 0, ys, 0, points);
      System.arraycopy(other.ends, 0, ends, 0, rings);
      System.arraycopy(other.closed, 0, closed, 0, rings);
    }

    /** All RINGS of the other one come behind, moved; the caller has looked whether there is room. */
    void append(Path other, int dx, int dy) {
      int many = other.rings;
      for (int ring = 0; ring < many; ring++) {
        int start = other.startOf(ring);
        int size = other.sizeOf(ring);
        for (int k = 0; k < size; k++) {
          int x = other.xAt(start + k) + dx;
          int y = other.yAt(start + k) + dy;
          if (k == 0) {
            begin(x, y);
          } else {
            add(x, y);
          }
        }
        if (other.closed[ring] != 0) {
          close();
        }
      }
    }

    int startOf(int ring) {
      return ring > 0 && ring < MOST_POINTS ? ends[ring - 1] : 0;
    }

    int sizeOf(int ring) {
      return ring >= 0 && ring < rings && ring < MOST_POINTS ? ends[ring] - startOf(ring) : 0;
    }

    int xAt(int at) {
      return at >= 0 && at < MOST_POINTS ? xs[at] : 0;
    }

    int yAt(int at) {
      return at >= 0 && at < MOST_POINTS ? ys[at] : 0;
    }

    boolean hasRoom(int more) {
      return points + more <= MOST_POINTS;
    }

    boolean endsClosed() {
      return rings > 0 && rings <= MOST_POINTS && closed[rings - 1] != 0;
    }

    void begin(int x, int y) {
      if (rings >= 0 && rings < MOST_POINTS && points < MOST_POINTS) {
        closed[rings] = 0;
        rings++;
        add(x, y);
      }
    }

    void add(int x, int y) {
      if (rings > 0 && rings <= MOST_POINTS && points >= 0 && points < MOST_POINTS) {
        xs[points] = x;
        ys[points] = y;
        points++;
        ends[rings - 1] = points;
      }
    }

    void close() {
      if (rings > 0 && rings <= MOST_POINTS) {
        closed[rings - 1] = 1;
      }
    }
  }

  /** The STATE. */
  private static final class State {
    final Matrix matrix = new Matrix();
    final Path path = new Path();
    final int[] clip = new int[SIDE];
    final int[] amounts = new int[PLATES];
    boolean pointed;
    int x;
    int y;
    int pen;
    int cap;
    int join;
    int size;

    void clear() {
      matrix.clear();
      forgetPath();
      openClip();
      for (int k = 0; k < PLATES; k++) {
        amounts[k] = k == PLATES - 1 ? 16 : 0;
      }
      pen = 1;
      cap = 0;
      join = 0;
      size = 1;
    }

    void copyFrom(State other) {
      matrix.copyFrom(other.matrix);
      path.copyFrom(other.path);
      for (int k = 0; k < SIDE; k++) {
        clip[k] = other.clip[k];
      }
      for (int k = 0; k < PLATES; k++) {
        amounts[k] = other.amounts[k];
      }
      pointed = other.pointed;
      x = other.x;
      y = other.y;
      pen = other.pen;
      cap = other.cap;
      join = other.join;
      size = other.size;
    }

    void openClip() {
      for (int k = 0; k < SIDE; k++) {
        clip[k] = -1;
      }
    }

    void forgetPath() {
      path.clear();
      pointed = false;
      x = 0;
      y = 0;
    }

    void pointTo(int toX, int toY) {
      pointed = true;
      x = toX;
      y = toY;
    }

    /** The POINT is the first point of the last RING, or its last one. */
    void pointToLastRing(boolean first) {
      if (path.rings > 0) {
        int at = first ? path.startOf(path.rings - 1) : path.points - 1;
        pointTo(path.xAt(at), path.yAt(at));
      }
    }
  }

  /** Four plates, each as 32 rows of bits. */
  private static final class Sheet {
    private static final int[] SCREEN = {0, 8, 2, 10, 12, 4, 14, 6, 3, 11, 1, 9, 15, 7, 13, 5};

    final int[] rows = new int[PLATES * SIDE];

    void clear() {
      clearRows(rows);
    }

    void copyFrom(Sheet other) {
      for (int k = 0; k < PLATES * SIDE; k++) {
        rows[k] = other.rows[k];
      }
    }

    boolean agreesWith(Sheet other) {
      for (int k = 0; k < PLATES * SIDE; k++) {
        if (rows[k] != other.rows[k]) {
          return false;
        }
      }
      return true;
    }

    /** PAINTS the rows from the one to ahead of the other of a FIGURE whose rows begin at a place. */
    void paint(int[] dots, int at, int[] amounts, int amountsAt, int from, int to) {
      if (at < 0 || at + SIDE > dots.length || amountsAt < 0 || amountsAt + PLATES > amounts.length) {
        return;
      }
      int last = Math.min(to, SIDE);
      for (int y = Math.max(0, from); y < last; y++) {
        int hit = dots[at + y];
        if (hit != 0) {
          for (int plate = 0; plate < PLATES; plate++) {
            int k = plate * SIDE + y;
            rows[k] = (rows[k] & ~hit) | (hit & screenOf(amounts[amountsAt + plate], plate, y));
          }
        }
      }
    }

    /** The dots of a row that an AMOUNT puts on; the SCREEN comes again with every fourth dot. */
    static int screenOf(int amount, int plate, int y) {
      int four = 0;
      for (int x = 0; x < 4; x++) {
        if (amount > SCREEN[((y + plate) & 3) * 4 + ((x + 2 * plate) & 3)]) {
          four |= 1 << x;
        }
      }
      return four * 0x11111111;
    }

    int colourOf(int x, int y) {
      int colour = 0;
      for (int plate = 0; plate < PLATES; plate++) {
        if (isSet(rows, x, plate * SIDE + y)) {
          colour |= 1 << plate;
        }
      }
      return colour;
    }

    int coloured() {
      int sum = 0;
      for (int y = 0; y < SIDE; y++) {
        sum += Integer.bitCount(rows[y] | rows[SIDE + y] | rows[2 * SIDE + y] | rows[3 * SIDE + y]);
      }
      return sum;
    }
  }

  /** The LIST. A FIGURE's dots never change once it is PAINTED, so they are kept instead of its RINGS and CLIP. */
  private static final class Figures {
    final int[] rows = new int[MOST_FIGURES * SIDE];
    final int[] amounts = new int[MOST_FIGURES * PLATES];
    final int[] sets = new int[MOST_FIGURES];
    final int[] points = new int[MOST_FIGURES];
    int count;

    void copyFrom(Figures other) {
      int many = Math.min(other.count, MOST_FIGURES);
      for (int k = 0; k < many * SIDE; k++) {
        rows[k] = other.rows[k];
      }
      for (int k = 0; k < many * PLATES; k++) {
        amounts[k] = other.amounts[k];
      }
      for (int k = 0; k < many; k++) {
        sets[k] = other.sets[k];
        points[k] = other.points[k];
      }
      count = many;
    }

    int add(int[] dots, int[] ofPlates, int setsOfIt, int pointsOfIt) {
      if (count < 0 || count >= MOST_FIGURES || dots.length < SIDE || ofPlates.length < PLATES) {
        return FULL;
      }
      for (int y = 0; y < SIDE; y++) {
        rows[count * SIDE + y] = dots[y];
      }
      for (int plate = 0; plate < PLATES; plate++) {
        amounts[count * PLATES + plate] = ofPlates[plate];
      }
      sets[count] = setsOfIt;
      points[count] = pointsOfIt;
      count++;
      return 0;
    }
  }

  /** All that a RUN may change and a fault gives back. */
  private static final class World {
    final Items pile = new Items(MOST_ITEMS);
    final Items names = new Items(MOST_NAMES);
    final State now = new State();
    final State[] kept = new State[MOST_STATES];
    int keptStates;
    final Path[] forms = new Path[FORMS];
    final int[] formKept = new int[FORMS];
    final Sheet sheet = new Sheet();
    final Sheet lastSheet = new Sheet();
    final Figures list = new Figures();
    int printed;
    final int[] ordersDone = new int[ORDERS];
    int costOfAll;
    int costOfLast;
    int tokensDone;

    World() {
      for (int k = 0; k < MOST_STATES; k++) {
        kept[k] = new State();
      }
      for (int k = 0; k < FORMS; k++) {
        forms[k] = new Path();
      }
      clear();
    }

    void clear() {
      pile.clear(0);
      names.clear(MOST_NAMES);
      now.clear();
      keptStates = 0;
      for (int k = 0; k < FORMS; k++) {
        forms[k].clear();
        formKept[k] = 0;
      }
      sheet.clear();
      lastSheet.clear();
      list.count = 0;
      printed = 0;
      for (int k = 0; k < ORDERS; k++) {
        ordersDone[k] = 0;
      }
      costOfAll = 0;
      costOfLast = 0;
      tokensDone = 0;
    }

    void copyFrom(World other) {
      pile.copyFrom(other.pile);
      names.copyFrom(other.names);
      now.copyFrom(other.now);
      keptStates = Math.min(other.keptStates, MOST_STATES);
      for (int k = 0; k < keptStates; k++) {
        kept[k].copyFrom(other.kept[k]);
      }
      for (int k = 0; k < FORMS; k++) {
        forms[k].copyFrom(other.forms[k]);
        formKept[k] = other.formKept[k];
      }
      sheet.copyFrom(other.sheet);
      lastSheet.copyFrom(other.lastSheet);
      list.copyFrom(other.list);
      printed = other.printed;
      for (int k = 0; k < ORDERS; k++) {
        ordersDone[k] = other.ordersDone[k];
      }
      costOfAll = other.costOfAll;
      costOfLast = other.costOfLast;
      tokensDone = other.tokensDone;
    }
  }

  /** Tells which dots one set of RINGS has: its EDGES are added one by one, then the set is settled. */
  private static final class Raster {
    /**
     * What the EDGES count that PASS a MIDDLE, at the first dot from the left
     * that they PASS: they PASS all further ones of its row too. By this sum
     * both rules are told, as it is odd just if an odd number of EDGES PASS.
     */
    private final int[] marks = new int[SIDE * SIDE];
    private int top = SIDE;
    private int bottom = -1;

    /** The EDGES of the RING of the points ahead of to, moved. */
    void addRing(int[] xs, int[] ys, int from, int to, int dx, int dy) {
      if (from < 0 || to <= from || to > xs.length || to > ys.length) {
        return;
      }
      int x0 = xs[to - 1] + dx;
      int y0 = ys[to - 1] + dy;
      for (int k = from; k < to; k++) {
        int x1 = xs[k] + dx;
        int y1 = ys[k] + dy;
        if (y0 < y1) {
          addEdge(x0, y0, x1, y1, 1);
        } else if (y1 < y0) {
          addEdge(x1, y1, x0, y0, -1);
        }
        x0 = x1;
        y0 = y1;
      }
    }

    /** An EDGE, told from its upper end on, counts so much in each row whose MIDDLES it can PASS. */
    private void addEdge(int upperX, int upperY, int lowerX, int lowerY, int counts) {
      long rise = (long) lowerY - upperY;
      if (rise <= 0) {
        return;
      }
      long across = (long) lowerX - upperX;
      int first = upperY < 0 ? 0 : (upperY + 7) >> 4;
      int last = lowerY > 16 * SIDE ? SIDE - 1 : ((lowerY + 7) >> 4) - 1;
      if (first > last) {
        return;
      }
      for (int y = first; y <= last && y < SIDE; y++) {
        long over = (16L * y + 8 - upperY) * across + (upperX - 8L) * rise;
        long x = over <= 0 ? 0 : (over + 16 * rise - 1) / (16 * rise);
        if (x < SIDE) {
          marks[y * SIDE + (int) x] += counts;
        }
      }
      top = first < top ? first : top;
      bottom = last > bottom ? last : bottom;
    }

    void addPath(Path path, int dx, int dy) {
      for (int ring = 0; ring < path.rings; ring++) {
        int start = path.startOf(ring);
        addRing(path.xs, path.ys, start, start + path.sizeOf(ring), dx, dy);
      }
    }

    /** Adds the dots of the set to the rows, and begins the next set. */
    void settle(int rule, int[] rows) {
      int last = Math.min(bottom, Math.min(SIDE, rows.length) - 1);
      for (int y = Math.max(0, top); y <= last; y++) {
        int sum = 0;
        for (int x = 0; x < SIDE; x++) {
          sum += marks[y * SIDE + x];
          marks[y * SIDE + x] = 0;
          if (rule == EVEN ? (sum & 1) != 0 : sum != 0) {
            rows[y] |= 1 << x;
          }
        }
      }
      top = SIDE;
      bottom = -1;
    }
  }

  /** Does the ORDERS 21 to 52: STATE, MATRIX, PATHS, FIGURES and pages. */
  private static final class Painter {
    private static final int FARTHEST = 32000;
    /** x, y of the first and of the second end of each STROKE; the last one is that of the digit 1. */
    private static final int[] STROKES = {
      0, 0, 4, 0, 4, 0, 4, 3, 4, 3, 4, 6, 0, 6, 4, 6, 0, 3, 0, 6, 0, 0, 0, 3, 0, 3, 4, 3, 1, 0, 1, 6
    };
    /** The set of STROKES of each digit. */
    private static final int[] DIGITS = {0x3f, 0x80, 0x5b, 0x4f, 0x66, 0x6d, 0x7d, 0x07, 0x7f, 0x6f};

    private final World world;
    private final State now;
    private final Raster raster;
    private final int[] dots = new int[SIDE];
    private int sets;
    private int points;
    /** The dots PAINTED since it was last put to 0. */
    private int painted;
    /** What was reckoned last: a SPOT, or POINT + DELTA. */
    private int spotX;
    private int spotY;
    private final Path strokes = new Path();
    private final int[] cornerXs = new int[4];
    private final int[] cornerYs = new int[4];
    private final int[] hulls = new int[48];
    private final int[] halvings = new int[6];
    private final int[] bendXs = new int[16];
    private final int[] bendYs = new int[16];
    private int bends;

    Painter(World world, Raster raster) {
      this.world = world;
      this.now = world.now;
      this.raster = raster;
    }

    int takePainted() {
      int many = painted;
      painted = 0;
      return many;
    }

    int doOrder(int order, int[] n) {
      switch (order) {
        case 21:
          return save();
        case 22:
          return restore();
        case 23:
          return now.matrix.move(n[0], n[1]);
        case 24:
          return now.matrix.scale(n[0], n[1], n[2], n[3]);
        case 25:
          now.matrix.turn(n[0]);
          return 0;
        case 26:
          return now.matrix.slant(n[0], n[1]);
        case 47:
          return show(n[0], false, 0);
        case 48:
          return show(n[1], true, n[0]);
        case 49:
          return image(n[0]);
        case 50:
          return keep(n[0]);
        case 51:
          return use(n[0], n[1], n[2]);
        case 52:
          return print();
        default:
          return order < 35 ? doPath(order, n) : order < 41 ? doFill(order) : doTool(order, n);
      }
    }

    private int doPath(int order, int[] n) {
      if (order >= 29 && order <= 33 && !now.pointed) {
        return POINT;
      }
      switch (order) {
        case 27:
          now.forgetPath();
          return 0;
        case 28:
          return begin(spot(n[0], n[1]));
        case 29:
          return lengthen(spot(n[0], n[1]));
        case 30:
          return begin(step(n[0], n[1]));
        case 31:
          return lengthen(step(n[0], n[1]));
        case 32:
          return curve(n);
        case 33:
          now.path.close();
          now.pointToLastRing(true);
          return 0;
        case 34:
          return box(n[0], n[1], n[2], n[3]);
        default:
          return 0;
      }
    }

    private int doFill(int order) {
      int fault = 0;
      switch (order) {
        case 35:
          fault = fill(TURNS);
          break;
        case 36:
          fault = fill(EVEN);
          break;
        case 37:
          fault = stroke(now.path);
          break;
        case 38:
          clip(TURNS);
          break;
        case 39:
          clip(EVEN);
          break;
        default:
          now.openClip();
          return 0;
      }
      now.forgetPath();
      return fault;
    }

    private int doTool(int order, int[] n) {
      switch (order) {
        case 41:
          return colour(n[0], n[1], n[2], n[3]);
        case 42:
          return colour(0, 0, 0, n[0]);
        case 43:
          now.pen = n[0];
          return within(n[0], 1, 8);
        case 44:
          now.cap = n[0];
          return within(n[0], 0, 1);
        case 45:
          now.join = n[0];
          return within(n[0], 0, 1);
        case 46:
          now.size = n[0];
          return within(n[0], 1, 8);
        default:
          return 0;
      }
    }

    /** A value that is out of bounds may stand meanwhile: the fault gives all back. */
    private static int within(int n, int from, int to) {
      return n < from || n > to ? RANGE : 0;
    }

    private int save() {
      int at = world.keptStates;
      if (at < 0 || at >= MOST_STATES) {
        return DEEP;
      }
      world.kept[at].copyFrom(now);
      world.keptStates++;
      return 0;
    }

    private int restore() {
      int at = world.keptStates - 1;
      if (at < 0 || at >= MOST_STATES) {
        return UNDER;
      }
      now.copyFrom(world.kept[at]);
      world.keptStates--;
      return 0;
    }

    private int keep(int form) {
      if (form < 0 || form >= FORMS) {
        return RANGE;
      }
      world.forms[form].copyFrom(now.path);
      world.formKept[form] = 1;
      return 0;
    }

    private int use(int x, int y, int form) {
      if (form < 0 || form >= FORMS) {
        return RANGE;
      }
      if (world.formKept[form] == 0) {
        return NAME;
      }
      Path used = world.forms[form];
      for (int k = 0; k < used.points; k++) {
        if (reach(used.xAt(k) + 16L * x, used.yAt(k) + 16L * y) != 0) {
          return RANGE;
        }
      }
      if (!now.path.hasRoom(used.points)) {
        return FULL;
      }
      now.path.append(used, 16 * x, 16 * y);
      if (used.rings > 0) {
        now.pointToLastRing(now.path.endsClosed());
      }
      return 0;
    }

    private int print() {
      world.printed++;
      world.lastSheet.copyFrom(world.sheet);
      world.sheet.clear();
      world.list.count = 0;
      return 0;
    }

    private int colour(int p, int q, int r, int s) {
      now.amounts[0] = p;
      now.amounts[1] = q;
      now.amounts[2] = r;
      now.amounts[3] = s;
      for (int k = 0; k < PLATES; k++) {
        if (within(now.amounts[k], 0, 16) != 0) {
          return RANGE;
        }
      }
      return 0;
    }

    private int spot(int x, int y) {
      return reach(now.matrix.sixteenths(0, x, y, true), now.matrix.sixteenths(1, x, y, true));
    }

    /** POINT + DELTA. */
    private int step(int x, int y) {
      return reach(now.x + now.matrix.sixteenths(0, x, y, false), now.y + now.matrix.sixteenths(1, x, y, false));
    }

    private int reach(long x, long y) {
      if (x < -FARTHEST || x > FARTHEST || y < -FARTHEST || y > FARTHEST) {
        return RANGE;
      }
      spotX = (int) x;
      spotY = (int) y;
      return 0;
    }

    /** A new RING with the place that was reckoned, if it was without a fault. */
    private int begin(int fault) {
      if (fault != 0) {
        return fault;
      }
      if (!now.path.hasRoom(1)) {
        return FULL;
      }
      now.path.begin(spotX, spotY);
      now.pointTo(spotX, spotY);
      return 0;
    }

    /** A further point at the place that was reckoned, if it was without a fault. */
    private int lengthen(int fault) {
      if (fault != 0) {
        return fault;
      }
      bends = 0;
      bend(spotX, spotY);
      return addBends();
    }

    private void bend(int x, int y) {
      if (bends >= 0 && bends < bendXs.length) {
        bendXs[bends] = x;
        bendYs[bends] = y;
        bends++;
      }
    }

    /** Further points come, behind a CLOSED RING in a new one that begins with the POINT. */
    private int addBends() {
      boolean anew = now.path.endsClosed();
      if (!now.path.hasRoom(anew ? bends + 1 : bends)) {
        return FULL;
      }
      if (anew) {
        now.path.begin(now.x, now.y);
      }
      for (int k = 0; k < bends && k < bendXs.length; k++) {
        now.path.add(bendXs[k], bendYs[k]);
      }
      now.pointToLastRing(false);
      return 0;
    }

    private int curve(int[] n) {
      hulls[0] = now.x;
      hulls[4] = now.y;
      for (int k = 0; k < 3; k++) {
        if (spot(n[2 * k], n[2 * k + 1]) != 0) {
          return RANGE;
        }
        hulls[k + 1] = spotX;
        hulls[k + 5] = spotY;
      }
      flatten();
      return addBends();
    }

    /** Halves the curve at hulls[0] till all is FLAT; the halves to come stand there on top of each other. */
    private void flatten() {
      bends = 0;
      halvings[0] = 0;
      int top = 0;
      for (int k = 0; k < FAR && top >= 0; k++) {
        int at = 8 * top;
        if (halvings[top] >= 4 || top >= 5 || (isFlat(at) && isFlat(at + 4))) {
          bend(hulls[at + 3], hulls[at + 7]);
          top--;
        } else {
          split(at, at + 8);
          split(at + 4, at + 12);
          halvings[top]++;
          halvings[top + 1] = halvings[top];
          top++;
        }
      }
    }

    private boolean isFlat(int at) {
      int one = hulls[at] + hulls[at + 2] - 2 * hulls[at + 1];
      int two = hulls[at + 1] + hulls[at + 3] - 2 * hulls[at + 2];
      return one >= -8 && one <= 8 && two >= -8 && two <= 8;
    }

    /** Of four numbers the first half goes to the other place, the second one stays. */
    private void split(int at, int firstAt) {
      int a = (hulls[at] + hulls[at + 1]) >> 1;
      int b = (hulls[at + 1] + hulls[at + 2]) >> 1;
      int c = (hulls[at + 2] + hulls[at + 3]) >> 1;
      int d = (a + b) >> 1;
      int e = (b + c) >> 1;
      int m = (d + e) >> 1;
      hulls[firstAt] = hulls[at];
      hulls[firstAt + 1] = a;
      hulls[firstAt + 2] = d;
      hulls[firstAt + 3] = m;
      hulls[at] = m;
      hulls[at + 1] = e;
      hulls[at + 2] = c;
    }

    private int box(int x, int y, int w, int h) {
      for (int k = 0; k < 4; k++) {
        if (spot(k == 1 || k == 2 ? x + w : x, k > 1 ? y + h : y) != 0) {
          return RANGE;
        }
        setCorner(k, spotX, spotY);
      }
      if (!now.path.hasRoom(4)) {
        return FULL;
      }
      now.path.begin(cornerXs[0], cornerYs[0]);
      for (int k = 1; k < 4; k++) {
        now.path.add(cornerXs[k], cornerYs[k]);
      }
      now.path.close();
      now.pointToLastRing(true);
      return 0;
    }

    private void clip(int rule) {
      clearRows(dots);
      raster.addPath(now.path, 0, 0);
      raster.settle(rule, dots);
      for (int y = 0; y < SIDE; y++) {
        now.clip[y] &= dots[y];
      }
    }

    private int fill(int rule) {
      beginFigure();
      raster.addPath(now.path, 0, 0);
      raster.settle(rule, dots);
      sets = 1;
      points = now.path.points;
      return paintFigure();
    }

    private void beginFigure() {
      clearRows(dots);
      sets = 0;
      points = 0;
    }

    private int paintFigure() {
      for (int y = 0; y < SIDE; y++) {
        dots[y] &= now.clip[y];
      }
      int fault = world.list.add(dots, now.amounts, sets, points);
      if (fault == 0) {
        world.sheet.paint(dots, 0, now.amounts, 0, 0, SIDE);
        painted += bitsOf(dots, 0);
      }
      return fault;
    }

    private void setCorner(int corner, int x, int y) {
      if (corner >= 0 && corner < 4) {
        cornerXs[corner] = x;
        cornerYs[corner] = y;
      }
    }

    /** The RING of the four corners is one more set of the FIGURE. */
    private void addCorners() {
      raster.addRing(cornerXs, cornerYs, 0, 4, 0, 0);
      raster.settle(TURNS, dots);
      sets++;
      points += 4;
    }

    /** PAINTS the FIGURE of the strokes of all RINGS. */
    private int stroke(Path path) {
      beginFigure();
      for (int ring = 0; ring < path.rings; ring++) {
        strokeRing(path, path.startOf(ring), path.sizeOf(ring), ring < MOST_POINTS && path.closed[ring] != 0);
      }
      return paintFigure();
    }

    private void strokeRing(Path path, int start, int size, boolean closed) {
      int bars = closed ? size : size - 1;
      for (int k = 0; k < bars; k++) {
        layBar(path, start + k, k + 1 < size ? start + k + 1 : start);
        addCorners();
      }
      int joined = now.join == 1 ? bars : 0;
      for (int k = closed ? 0 : 1; k < joined; k++) {
        laySquare(path, start + k);
        addCorners();
      }
      if (now.cap == 1 && !closed) {
        laySquare(path, start);
        addCorners();
        laySquare(path, start + size - 1);
        addCorners();
      }
    }

    private void layBar(Path path, int from, int to) {
      int x0 = path.xAt(from);
      int y0 = path.yAt(from);
      int x1 = path.xAt(to);
      int y1 = path.yAt(to);
      boolean flat = Math.abs(x1 - x0) >= Math.abs(y1 - y0);
      int acrossX = flat ? 0 : 8 * now.pen;
      int acrossY = flat ? 8 * now.pen : 0;
      setCorner(0, x0 - acrossX, y0 - acrossY);
      setCorner(1, x1 - acrossX, y1 - acrossY);
      setCorner(2, x1 + acrossX, y1 + acrossY);
      setCorner(3, x0 + acrossX, y0 + acrossY);
    }

    private void laySquare(Path path, int at) {
      int x = path.xAt(at);
      int y = path.yAt(at);
      int h = 8 * now.pen;
      setCorner(0, x - h, y - h);
      setCorner(1, x + h, y - h);
      setCorner(2, x + h, y + h);
      setCorner(3, x - h, y + h);
    }

    private static int widthOf(int digit) {
      return digit == 1 ? 3 : 5;
    }

    private static int digitsOf(int n) {
      int many = 1;
      int rest = n;
      for (int k = 0; k < 9 && rest > 9; k++) {
        rest /= 10;
        many++;
      }
      return many;
    }

    /** The digit of n with so many further ones behind it. */
    private static int digitOf(int n, int behind) {
      int rest = n;
      for (int k = 0; k < behind; k++) {
        rest /= 10;
      }
      return rest % 10;
    }

    /** SHOWS n, or SETS it in a width: what this leaves is shared out between the digits. */
    private int show(int n, boolean inWidth, int width) {
      if (n < 0) {
        return RANGE;
      }
      if (!now.pointed) {
        return POINT;
      }
      int many = digitsOf(n);
      int rest = inWidth ? width - widthOfAll(n, many) : 0;
      if (rest < 0) {
        return RANGE;
      }
      int gaps = many - 1;
      for (int k = 0; k < many; k++) {
        int digit = digitOf(n, gaps - k);
        int fault = draw(digit);
        if (fault == 0) {
          fault = stroke(strokes);
        }
        if (fault != 0) {
          return fault;
        }
        int gap = gaps > 0 && k < gaps ? rest / gaps + (k < rest % gaps ? 1 : 0) : 0;
        if (step(widthOf(digit) * now.size + gap, 0) != 0) {
          return RANGE;
        }
        now.pointTo(spotX, spotY);
      }
      return 0;
    }

    private int widthOfAll(int n, int many) {
      int sum = 0;
      for (int k = 0; k < many; k++) {
        sum += widthOf(digitOf(n, k)) * now.size;
      }
      return sum;
    }

    /** Reckons the STROKES of a digit at the POINT, as OPEN RINGS. */
    private int draw(int digit) {
      int having = digit >= 0 && digit < DIGITS.length ? DIGITS[digit] : 0;
      strokes.clear();
      for (int k = 0; k < STROKES.length / 4; k++) {
        if (((having >> k) & 1) != 0) {
          if (step(STROKES[4 * k] * now.size, STROKES[4 * k + 1] * now.size) != 0) {
            return RANGE;
          }
          strokes.begin(spotX, spotY);
          if (step(STROKES[4 * k + 2] * now.size, STROKES[4 * k + 3] * now.size) != 0) {
            return RANGE;
          }
          strokes.add(spotX, spotY);
        }
      }
      return 0;
    }

    private int image(int bits) {
      if (bits < 0 || bits > 4095) {
        return RANGE;
      }
      if (!now.pointed) {
        return POINT;
      }
      beginFigure();
      for (int k = 0; k < 12; k++) {
        if (((bits >> k) & 1) != 0) {
          for (int j = 0; j < 4; j++) {
            if (step(k % 4 + (j == 1 || j == 2 ? 1 : 0), k / 4 + (j > 1 ? 1 : 0)) != 0) {
              return RANGE;
            }
            setCorner(j, spotX, spotY);
          }
          addCorners();
        }
      }
      return paintFigure();
    }
  }

  /** The rows that are being done, their TOKENS, and the ORDERS 0 to 20. */
  private static final class Engine {
    /**
     * The operands of each ORDER, a hexadecimal digit each, the last one told
     * being the lowest: 1 number, 2 NAME, 3 PROCEDURE, 4 ITEM of any sort.
     */
    private static final int[] OPERANDS = {
      0x11, 0x11, 0x11, 0x11, 0x11, 0x1, 0x11, 0x11, 0x1,
      0x4, 0x4, 0x44, 0x1, 0x0,
      0x24, 0x3, 0x13, 0x133, 0x13, 0x1113, 0x0,
      0x0, 0x0, 0x11, 0x1111, 0x1, 0x11,
      0x0, 0x11, 0x11, 0x11, 0x11, 0x111111, 0x0, 0x1111,
      0x0, 0x0, 0x0, 0x0, 0x0, 0x0,
      0x1111, 0x1, 0x1, 0x1, 0x1, 0x1, 0x1, 0x11, 0x1,
      0x1, 0x111, 0x0
    };
    private static final int ANY = 4;
    private static final int LAST_OF_FLOW = 20;
    private static final int MOST_OPERANDS = 6;
    private static final int NO_LOOP = 0;
    private static final int REPEAT = 1;
    private static final int FOR = 2;

    private final World world;
    private final Code code;
    private final int[] sorts = new int[MOST_OPERANDS];
    final int[] values = new int[MOST_OPERANDS];
    private final int[] lengths = new int[MOST_OPERANDS];
    private final int[] starts = new int[MOST_ROWS];
    private final int[] ends = new int[MOST_ROWS];
    private final int[] nexts = new int[MOST_ROWS];
    /** The TOKEN of each row that is being done. */
    private final int[] ats = new int[MOST_ROWS];
    private final int[] loops = new int[MOST_ROWS];
    private final int[] numbers = new int[MOST_ROWS];
    private final int[] steps = new int[MOST_ROWS];
    private final int[] limits = new int[MOST_ROWS];
    private int rows;
    private int spent;
    private int tokensDone;
    /** The ORDER from 21 on that has its operands and is left to the Painter, otherwise NONE. */
    int orderLeft;
    int place;
    int ownPlace;

    Engine(World world, Code code) {
      this.world = world;
      this.code = code;
    }

    void begin() {
      rows = 0;
      spent = 0;
      tokensDone = 0;
      enter(code.base, code.size);
    }

    void tally() {
      world.costOfAll += spent;
      world.costOfLast = spent;
      world.tokensDone += tokensDone;
    }

    /** Looks for the next TOKEN: 0 if there is one, NONE at the end of all, otherwise a fault. */
    int seek() {
      for (int k = 0; k < FAR && rows > 0 && rows <= MOST_ROWS; k++) {
        int top = rows - 1;
        if (nexts[top] < ends[top]) {
          return 0;
        }
        if (!hasNextRound(top)) {
          rows--;
        } else {
          setPlaces(top - 1);
          numbers[top] += steps[top];
          nexts[top] = starts[top];
          spent++;
          int fault = loops[top] == FOR ? world.pile.putNumber(numbers[top]) : 0;
          if (fault != 0) {
            return fault;
          }
        }
      }
      return NONE;
    }

    private void setPlaces(int row) {
      if (row >= 0 && row < MOST_ROWS) {
        place = ats[0] - starts[0];
        ownPlace = ats[row] - starts[row];
      }
    }

    private boolean hasNextRound(int row) {
      if (row < 0 || row >= MOST_ROWS || loops[row] == NO_LOOP) {
        return false;
      }
      int next = numbers[row] + steps[row];
      return steps[row] > 0 ? next <= limits[row] : next >= limits[row];
    }

    /** Does the next TOKEN of the innermost row, up to its operands if it is an ORDER for the Painter. */
    int step() {
      int top = rows - 1;
      orderLeft = NONE;
      if (top < 0 || top >= MOST_ROWS) {
        return 0;
      }
      int at = nexts[top];
      ats[top] = at;
      nexts[top] = at + 1;
      setPlaces(top);
      spent++;
      tokensDone++;
      switch (code.kindAt(at)) {
        case Code.NUMBER:
          return world.pile.put(IS_NUMBER, code.numberAt(at), 0);
        case Code.SAID:
          return world.pile.put(IS_NAME, code.numberAt(at), 0);
        case Code.DONE:
          return doName(code.numberAt(at));
        case Code.OPEN:
          return open(top);
        case Code.ORDER:
          return doOrder(code.numberAt(at));
        default:
          return BRACE;
      }
    }

    /** Behind a TOKEN: BOUND if the COST, with the dots PAINTED, is too high. */
    int weigh(int painted) {
      spent += painted;
      return spent > MOST_COST ? BOUND : 0;
    }

    private int doName(int name) {
      int sort = world.names.sortAt(name);
      if (sort == NONE) {
        return NAME;
      }
      int value = world.names.valueAt(name);
      int length = world.names.lengthAt(name);
      return sort == IS_PROCEDURE ? enter(value, length) : world.pile.put(sort, value, length);
    }

    private int open(int row) {
      if (row < 0 || row >= MOST_ROWS) {
        return BRACE;
      }
      int start = nexts[row];
      int close = code.closeFor(start, ends[row]);
      if (close == NONE) {
        return BRACE;
      }
      nexts[row] = close + 1;
      return world.pile.put(IS_PROCEDURE, start, close - start);
    }

    /** A row more, not yet a loop. */
    private int enter(int start, int length) {
      if (rows < 0 || rows >= MOST_ROWS) {
        return DEEP;
      }
      starts[rows] = start;
      ends[rows] = start + length;
      nexts[rows] = start;
      ats[rows] = start;
      loops[rows] = NO_LOOP;
      rows++;
      return 0;
    }

    private int doOrder(int order) {
      if (order < 0 || order >= ORDERS) {
        return RANGE;
      }
      int fault = take(OPERANDS[order]);
      if (fault != 0) {
        return fault;
      }
      world.ordersDone[order]++;
      if (order > LAST_OF_FLOW) {
        orderLeft = order;
        return 0;
      }
      return order < 9 ? doNumbers(order, values[0], values[1]) : doFlow(order);
    }

    /** Takes operands from the PILE; the first one told comes to the place 0. */
    private int take(int operands) {
      int many = 0;
      for (int k = 0; k < MOST_OPERANDS; k++) {
        if ((operands >> (4 * k)) != 0) {
          many++;
        }
      }
      Items pile = world.pile;
      for (int k = 0; k < many; k++) {
        int sort = (operands >> (4 * k)) & 15;
        int top = pile.count - 1;
        if (top < 0) {
          return UNDER;
        }
        if (sort != ANY && pile.sortAt(top) != sort - 1) {
          return KIND;
        }
        sorts[many - 1 - k] = pile.sortAt(top);
        values[many - 1 - k] = pile.valueAt(top);
        lengths[many - 1 - k] = pile.lengthAt(top);
        pile.count = top;
      }
      return 0;
    }

    private int doNumbers(int order, int a, int b) {
      Items pile = world.pile;
      switch (order) {
        case 0:
          return pile.putNumber((long) a + b);
        case 1:
          return pile.putNumber((long) a - b);
        case 2:
          return pile.putNumber((long) a * b);
        case 3:
          return b == 0 ? ZERO : pile.putNumber(a / b);
        case 4:
          return b == 0 ? ZERO : pile.putNumber(Math.floorMod(a, b));
        case 5:
          return pile.putNumber(-a);
        case 6:
          return pile.putNumber(a == b ? 1 : 0);
        case 7:
          return pile.putNumber(a < b ? 1 : 0);
        default:
          return pile.putNumber(a == 0 ? 1 : 0);
      }
    }

    private int doFlow(int order) {
      switch (order) {
        case 9:
          putOperand(0);
          return putOperand(0);
        case 10:
          return 0;
        case 11:
          putOperand(1);
          return putOperand(0);
        case 12:
          return index(values[0]);
        case 13:
          return world.pile.putNumber(world.pile.count);
        case 14:
          world.names.write(values[0], sorts[1], values[1], lengths[1]);
          return 0;
        case 15:
          return enter(values[0], lengths[0]);
        case 16:
          return values[0] != 0 ? enter(values[1], lengths[1]) : 0;
        case 17:
          return values[0] != 0 ? enter(values[1], lengths[1]) : enter(values[2], lengths[2]);
        case 18:
          return values[0] < 0 || values[0] > 99 ? RANGE : loop(REPEAT, 1, 1, values[0], 1);
        case 19:
          return values[1] == 0 ? RANGE : loop(FOR, values[0], values[1], values[2], 3);
        default:
          return exit();
      }
    }

    private int putOperand(int operand) {
      if (operand < 0 || operand >= MOST_OPERANDS) {
        return 0;
      }
      return world.pile.put(sorts[operand], values[operand], lengths[operand]);
    }

    private int index(int n) {
      Items pile = world.pile;
      if (n < 0) {
        return RANGE;
      }
      if (n >= pile.count) {
        return UNDER;
      }
      int at = pile.count - 1 - n;
      return pile.put(pile.sortAt(at), pile.valueAt(at), pile.lengthAt(at));
    }

    /** A loop over the numbers from the one to the limit; its PROCEDURE is the operand told. */
    private int loop(int kind, int from, int step, int limit, int operand) {
      if ((step > 0 ? from > limit : from < limit) || operand < 0 || operand >= MOST_OPERANDS) {
        return 0;
      }
      int top = rows;
      int fault = enter(values[operand], lengths[operand]);
      if (fault != 0 || top < 0 || top >= MOST_ROWS) {
        return fault;
      }
      loops[top] = kind;
      numbers[top] = from;
      steps[top] = step;
      limits[top] = limit;
      spent++;
      return kind == FOR ? world.pile.putNumber(from) : 0;
    }

    private int exit() {
      for (int row = Math.min(rows, MOST_ROWS) - 1; row > 0; row--) {
        if (loops[row] != NO_LOOP) {
          rows = row;
          return 0;
        }
      }
      return LOOP;
    }
  }
}
