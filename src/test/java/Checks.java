import java.util.Arrays;

/** What the tests by hand share: the counting of wrong answers, and kernels to start with. */
abstract class Checks {
  static final int PRIVATE = 0;
  static final int SHARED = 1;
  static final int CODE = 2;

  static final int ABSENT = 0;
  static final int FRAME = 1;
  static final int POOL = 2;
  static final int SLOTS = 3;

  static final int BIG = Integer.MAX_VALUE;
  static final int SMALL = Integer.MIN_VALUE;
  static final int[] OFF_PROCESS = {-1, 8, BIG, SMALL};
  static final int[] OFF_PAGE = {-1, 16, BIG, SMALL};
  static final int[] OFF_WORD = {-1, 128, BIG, SMALL};
  static final int[] OFF_COUNT = {0, 17, -1, BIG, SMALL};

  static final Class<?> INDEX = IndexOutOfBoundsException.class;
  static final Class<?> ARGUMENT = IllegalArgumentException.class;
  static final Class<?> STATE = IllegalStateException.class;
  static final Class<?> ENDED = UnsupportedOperationException.class;

  private static String tested = "";
  private static int tests;
  private static int wrong;
  private static int checks;

  interface Call {
    void make();
  }

  /** A test of its own: an exception that nothing awaits is its fault, not the next one's. */
  static void test(String name, Call test) {
    tested = name;
    tests++;
    int before = checks;
    try {
      test.make();
    } catch (RuntimeException e) {
      tell("threw " + e + " at " + Arrays.toString(e.getStackTrace()));
    }
    if (checks == before) tell("looked at nothing");
  }

  static void due(String what, int got, int want) {
    checks++;
    if (got != want) tell(what + " answered " + got + ", due is " + want);
  }

  static void due(String what, int[] got, int... want) {
    checks++;
    if (!Arrays.equals(got, want)) tell(what + " answered " + Arrays.toString(got) + ", due is " + Arrays.toString(want));
  }

  /** The exact class: an exception of the machine's own is a wrong answer too. */
  static void dueThrow(String what, Class<?> want, Call call) {
    checks++;
    Class<?> got = null;
    try {
      call.make();
    } catch (RuntimeException e) {
      got = e.getClass();
    }
    if (got != want) tell(what + " threw " + got + ", due is " + want);
  }

  /** An exception, behind which all that the kernel tells is as it was. */
  static void dueRefusal(String what, Class<?> want, SheetKernel x, Call call) {
    int[] before = allOf(x);
    dueThrow(what, want, call);
    checks++;
    if (!Arrays.equals(before, allOf(x))) tell(what + " left something changed");
  }

  private static void tell(String what) {
    wrong++;
    System.out.println(tested + ": " + what);
  }

  static void finish() {
    System.out.println(wrong == 0
        ? checks + " answers of " + tests + " tests are as due" : wrong + " answers are not as due");
    if (wrong != 0) System.exit(1);
  }

  // ---- what a kernel tells

  static int[] allOf(SheetKernel x) {
    int[] all = new int[1000];
    int n = 0;
    for (int p = 0; p < 8; p++) {
      for (int w = 0; w <= 12; w++) all[n++] = x.about(p, w);
      for (int g = 0; g < 16; g++) {
        for (int w = 0; w <= 5; w++) all[n++] = x.page(p, g, w);
      }
    }
    for (int k = -1; k < 10; k++) all[n++] = x.frame(k);
    for (int k = -1; k < 24; k++) all[n++] = x.slots(k);
    for (int w = 0; w <= 3; w++) all[n++] = x.pool(w);
    all[n++] = x.broken();
    return Arrays.copyOf(all, n);
  }

  static int[] pageOf(SheetKernel x, int process, int page) {
    int[] told = new int[6];
    for (int w = 0; w < 6; w++) told[w] = x.page(process, page, w);
    return told;
  }

  static int[] framesOf(SheetKernel x) {
    int[] told = new int[10];
    for (int k = 0; k < 10; k++) told[k] = x.frame(k);
    return told;
  }

  static int[] faultsOf(SheetKernel x, int process) {
    return new int[] {x.about(process, 7), x.about(process, 8), x.about(process, 9)};
  }

  static int[] wordsOf(SheetKernel x, int process, int page) {
    int[] words = new int[8];
    for (int i = 0; i < 8; i++) words[i] = x.read(process, 8 * page + i);
    return words;
  }

  // ---- what the tests start with

  static SheetKernel withProcesses(int many) {
    SheetKernel x = new SheetKernel();
    for (int i = 0; i < many; i++) x.spawn();
    return x;
  }

  static SheetKernel withArea(int pages, int kind) {
    SheetKernel x = withProcesses(1);
    x.area(0, 0, pages, kind);
    return x;
  }

  /** Three runs of 5 bytes and one of 2: 17 in all, so that it just does not pack. */
  static void fill(SheetKernel x, int process, int page) {
    for (int i = 0; i < 3; i++) x.load(process, 8 * page + i, filled(page, i));
  }

  static int filled(int page, int place) {
    return 1000003 * (8 * page + place + 1);
  }

  static void fill(SheetKernel x, int process, int page, int count) {
    for (int i = page; i < page + count; i++) fill(x, process, i);
  }

  /** Eight runs of 2 bytes: 16 in all, so that it just packs. */
  static void fillPacking(SheetKernel x, int process, int page) {
    for (int i = 0; i < 7; i++) x.load(process, 8 * page + i, page + 1 + i);
  }

  static void failSlots(SheetKernel x, int first, int last) {
    for (int i = first; i <= last; i++) x.slot(i, 1);
  }

  static void failAllSlots(SheetKernel x) {
    failSlots(x, 0, 23);
  }

  static int word(int what, int r, int s, int n) {
    return what << 24 | r << 22 | s << 20 | (n & 0xFFFF);
  }

  static SheetKernel withCode(int... words) {
    SheetKernel x = withArea(2, CODE);
    for (int i = 0; i < words.length; i++) x.load(0, i, words[i]);
    return x;
  }

  /**
   * Process 0 with eleven pages that do not pack, written in turn. All frames were USED when page 10 came:
   * the hand took the marks of 0, 1 and 2, those of 3 to 6 went ahead of it, and frame 3 was emptied.
   * So page 3 is in slot 0 (and 1, if the process is VALUABLE), page 10 in frame 3, and the hand at 4.
   */
  static SheetKernel withPageInSlots(boolean valuable, int kind) {
    SheetKernel x = withArea(16, kind);
    x.valuable(0, valuable);
    fill(x, 0, 0, 11);
    return x;
  }

  /** The same, but that page 3 packs: it is in the bytes 0 to 3 of the arena. */
  static SheetKernel withPageInPool(int kind) {
    SheetKernel x = withArea(16, kind);
    fill(x, 0, 0, 3);
    x.load(0, 24, 5);
    fill(x, 0, 4, 7);
    return x;
  }

  /**
   * Sixteen pages of 16 bytes, written in turn: the pages 3 to 6 fill the arena, 7 and 8 are in the slots
   * 0 and 1, the pages 10 to 15 are in their frames 3 to 8, and the hand is at frame 9, which has page 9.
   */
  static SheetKernel withFullArena() {
    SheetKernel x = withArea(16, PRIVATE);
    for (int g = 0; g < 16; g++) fillPacking(x, 0, g);
    return x;
  }
}
