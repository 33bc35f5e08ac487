/** What the document says of each promise: ordinary inputs, the edges that it names, and wrong inputs. */
public final class PromisesTest extends Checks {
  public static void main(String[] args) {
    test("promise 1", PromisesTest::newObject);
    test("promise 2", PromisesTest::spawn);
    test("promise 3", PromisesTest::area);
    test("promise 4", PromisesTest::share);
    test("promise 5", PromisesTest::free);
    test("promise 6", PromisesTest::fork);
    test("promise 7", PromisesTest::exit);
    test("promise 8", PromisesTest::read);
    test("promise 9", PromisesTest::write);
    test("promise 9, copies", PromisesTest::copies);
    test("promise 10", PromisesTest::load);
    test("promise 11", PromisesTest::run);
    test("promise 12", PromisesTest::slot);
    test("promise 12, LOST", PromisesTest::lostSlots);
    test("promise 13", PromisesTest::valuable);
    test("promise 14", PromisesTest::tick);
    test("promise 15", PromisesTest::about);
    test("promise 16", PromisesTest::page);
    test("promise 17", PromisesTest::frame);
    test("promise 17, OUT OF MEMORY", PromisesTest::outOfMemory);
    test("promise 18", PromisesTest::slots);
    test("promise 19", PromisesTest::pool);
    test("promise 20", PromisesTest::broken);
    finish();
  }

  // ---- the promises

  private static void newObject() {
    SheetKernel x = new SheetKernel();
    due("NONE", SheetKernel.NONE, -1);
    for (int p = 0; p < 8; p++) {
      for (int w = 0; w <= 12; w++) due("about", x.about(p, w), 0);
      for (int w = 0; w <= 5; w++) due("page", x.page(p, 0, w), -1);
      int process = p;
      dueThrow("exit", INDEX, () -> x.exit(process));
    }
    due("free frames", x.frame(-1), 10);
    for (int k = 0; k < 10; k++) due("frame", x.frame(k), 0);
    due("free slots", x.slots(-1), 24);
    for (int k = 0; k < 24; k++) due("slot", x.slots(k), 0);
    due("bytes", x.pool(0), 0);
    due("packed", x.pool(1), 0);
    due("row", x.pool(2), 64);
    due("hand", x.pool(3), 0);
    due("broken", x.broken(), 0);
  }

  private static void spawn() {
    SheetKernel x = new SheetKernel();
    for (int p = 0; p < 8; p++) {
      due("spawn", x.spawn(), p);
      due("lives", x.about(p, 1), 1);
    }
    dueThrow("spawn the ninth", STATE, x::spawn);
    x.area(3, 0, 2, PRIVATE);
    x.write(3, 0, word(1, 2, 0, 9));
    x.run(3, 1);
    x.valuable(3, true);
    x.exit(5);
    x.exit(3);
    due("lowest", x.spawn(), 3);
    for (int w = 0; w <= 12; w++) due("about a new one, " + w, x.about(3, w), w == 1 ? 1 : 0);
    for (int g = 0; g < 16; g++) due("page of a new one", x.page(3, g, 0), -1);
    due("next", x.spawn(), 5);
    dueThrow("all live again", STATE, x::spawn);
  }

  private static void area() {
    SheetKernel x = withProcesses(2);
    x.area(0, 2, 3, CODE);
    x.area(0, 15, 1, SHARED);
    x.area(1, 0, 16, PRIVATE);
    due("unmapped", x.page(0, 1, 0), -1);
    due("first", x.page(0, 2, 0), 2);
    due("last", x.page(0, 4, 0), 2);
    due("behind", x.page(0, 5, 0), -1);
    due("edge", x.page(0, 15, 0), 1);
    due("all", x.about(1, 10), 16);
    due("absent", x.page(0, 2, 1), 0);
    due("own sheets", x.page(0, 2, 3), 1);
    due("no frame yet", x.frame(-1), 10);
    for (int p : OFF_PROCESS) dueThrow("process", INDEX, () -> x.area(p, 0, 0, 9));
    dueThrow("lives not", INDEX, () -> x.area(2, 0, 0, 9));
    for (int g : OFF_PAGE) dueThrow("page", INDEX, () -> x.area(0, g, 0, 9));
    for (int c : OFF_COUNT) dueThrow("count", ARGUMENT, () -> x.area(0, 2, c, 0));
    for (int k : new int[] {-1, 3, BIG, SMALL}) dueThrow("kind", ARGUMENT, () -> x.area(0, 2, 1, k));
    dueThrow("mapped", STATE, () -> x.area(0, 2, 1, 0));
    dueThrow("last is mapped", STATE, () -> x.area(0, 0, 3, 0));
    dueThrow("none such", STATE, () -> x.area(0, 14, 16, 0));
    due("nothing changed", x.about(0, 10), 4);
  }

  private static void share() {
    SheetKernel x = withProcesses(3);
    x.area(0, 0, 4, SHARED);
    x.area(0, 4, 1, PRIVATE);
    x.area(0, 5, 1, CODE);
    x.share(1, 8, 0, 1, 3);
    due("kind", x.page(1, 8, 0), SHARED);
    due("mappings", x.page(0, 1, 3), 2);
    due("left out", x.page(0, 0, 3), 1);
    due("behind", x.page(1, 11, 0), -1);
    x.write(1, 80, 5);
    due("the same words", x.read(0, 24), 5);
    x.write(0, 25, 6);
    due("and back", x.read(1, 81), 6);
    due("one fault a sheet and process", x.about(1, 7), 1);
    due("none for one in a frame", x.about(0, 7), 0);
    x.share(0, 12, 0, 3, 1);
    due("the same process", x.read(0, 96), 5);
    due("three mappings", x.page(0, 12, 3), 3);
    for (int p : OFF_PROCESS) {
      dueThrow("process", INDEX, () -> x.share(p, 0, 0, 0, 0));
      dueThrow("other", INDEX, () -> x.share(1, 0, p, 0, 0));
    }
    dueThrow("process lives not", INDEX, () -> x.share(5, 0, 0, 0, 0));
    dueThrow("other lives not", INDEX, () -> x.share(1, 0, 5, 0, 0));
    for (int g : OFF_PAGE) {
      dueThrow("page", INDEX, () -> x.share(1, g, 0, 0, 0));
      dueThrow("other page", INDEX, () -> x.share(1, 0, 0, g, 0));
    }
    for (int c : OFF_COUNT) dueThrow("count", ARGUMENT, () -> x.share(1, 8, 0, 15, c));
    dueThrow("mapped", STATE, () -> x.share(1, 7, 0, 0, 2));
    dueThrow("none such", STATE, () -> x.share(1, 15, 0, 0, 2));
    dueThrow("private", STATE, () -> x.share(1, 0, 0, 3, 2));
    dueThrow("code", STATE, () -> x.share(1, 0, 0, 5, 1));
    dueThrow("unmapped", STATE, () -> x.share(1, 0, 0, 6, 1));
    dueThrow("none such of other", STATE, () -> x.share(1, 0, 0, 15, 2));
    dueThrow("its own target", STATE, () -> x.share(0, 6, 0, 0, 7));
    due("nothing changed", x.about(1, 10), 3);
    mappingLimit();
  }

  private static void mappingLimit() {
    SheetKernel x = withProcesses(3);
    x.area(0, 0, 1, SHARED);
    for (int i = 1; i < 16; i++) x.share(0, i, 0, 0, 1);
    x.share(1, 0, 0, 0, 3);
    due("nineteen", x.page(0, 0, 3), 19);
    dueThrow("two of one sheet", STATE, () -> x.share(2, 0, 0, 0, 2));
    due("nothing changed", x.about(2, 10), 0);
    x.share(2, 0, 1, 2, 1);
    due("twenty", x.page(0, 0, 3), 20);
    dueThrow("twenty-one", STATE, () -> x.share(2, 1, 0, 0, 1));
    x.free(1, 0, 1);
    x.share(2, 1, 0, 0, 1);
    due("twenty again", x.page(2, 1, 3), 20);
    due("broken", x.broken(), 0);
  }

  private static void free() {
    SheetKernel x = withProcesses(2);
    x.area(0, 0, 3, SHARED);
    x.share(1, 0, 0, 0, 1);
    x.write(0, 0, 5);
    x.write(0, 8, 6);
    x.free(0, 0, 2);
    due("unmapped", x.page(0, 0, 0), -1);
    due("left", x.page(0, 2, 0), SHARED);
    due("one mapping less", x.page(1, 0, 3), 1);
    due("frame of the gone one", x.frame(1), 0);
    due("the other stays", x.read(1, 0), 5);
    x.area(0, 1, 1, SHARED);
    due("a new sheet is absent", x.page(0, 1, 1), 0);
    due("and in no frame", x.page(0, 1, 2), -1);
    due("all its words are 0", x.read(0, 8), 0);
    x.area(0, 14, 2, SHARED);
    x.free(0, 14, 2);
    due("up to the last page", x.about(0, 10), 2);
    for (int p : OFF_PROCESS) dueThrow("process", INDEX, () -> x.free(p, 0, 0));
    dueThrow("lives not", INDEX, () -> x.free(2, 0, 0));
    for (int g : OFF_PAGE) dueThrow("page", INDEX, () -> x.free(0, g, 0));
    for (int c : OFF_COUNT) dueThrow("count", ARGUMENT, () -> x.free(0, 0, c));
    dueThrow("unmapped", STATE, () -> x.free(0, 0, 1));
    dueThrow("last unmapped", STATE, () -> x.free(0, 1, 3));
    dueThrow("none such", STATE, () -> x.free(0, 15, 2));
    due("nothing changed", x.about(0, 10), 2);
    freeElsewhere();
  }

  private static void freeElsewhere() {
    SheetKernel x = withArea(16, PRIVATE);
    x.write(0, 0, 7);
    fill(x, 0, 1, 13);
    // The hand empties frames 3, 4, 5 and 6, the pages 3 to 6, all to slots.
    due("in a slot", x.page(0, 3, 1), 3);
    due("taken", x.slots(0), 1);
    x.free(0, 3, 1);
    due("slot is free", x.slots(0), 0);
    due("broken", x.broken(), 0);
    SheetKernel y = withArea(16, PRIVATE);
    for (int i = 0; i < 12; i++) y.write(0, 8 * i, i);
    due("in the pool", y.page(0, 3, 1), 2);
    due("bytes", y.pool(0), 8);
    y.free(0, 3, 1);
    due("bytes are free", y.pool(0), 4);
    due("packed", y.pool(1), 1);
    due("broken", y.broken(), 0);
  }

  private static void fork() {
    SheetKernel x = withCode(word(1, 1, 0, 7), word(1, 2, 0, -3));
    x.area(0, 4, 1, PRIVATE);
    x.area(0, 5, 1, SHARED);
    x.write(0, 32, 1);
    x.valuable(0, true);
    x.run(0, 2);
    due("fork", x.fork(0), 1);
    due("counter", x.about(1, 2), 2);
    due("register 1", x.about(1, 4), 7);
    due("register 2", x.about(1, 5), -3);
    due("not valuable", x.about(1, 12), 0);
    due("valuable still", x.about(0, 12), 1);
    due("faults", x.about(1, 7), 0);
    for (int g = 0; g < 16; g++) {
      due("kind", x.page(1, g, 0), x.page(0, g, 0));
      due("mappings", x.page(1, g, 3), g < 2 || g == 4 || g == 5 ? 2 : -1);
    }
    x.write(0, 40, 4);
    due("shared stays shared", x.read(1, 40), 4);
    x.write(0, 32, 2);
    due("private is copied", x.read(1, 32), 1);
    for (int p : OFF_PROCESS) dueThrow("process", INDEX, () -> x.fork(p));
    dueThrow("lives not", INDEX, () -> x.fork(2));
    for (int p = 2; p < 8; p++) due("fork", x.fork(1), p);
    dueThrow("all live", STATE, () -> x.fork(0));
    SheetKernel y = withArea(1, SHARED);
    for (int i = 1; i < 10; i++) y.share(0, i, 0, 0, 1);
    y.spawn();
    y.share(1, 0, 0, 0, 1);
    dueThrow("more than 20", STATE, () -> y.fork(0));
    due("none made", y.about(2, 1), 0);
    y.exit(1);
    due("ten more", y.fork(0), 1);
    due("twenty", y.page(0, 0, 3), 20);
    dueThrow("has 20", STATE, () -> y.fork(1));
    due("of another sheet", y.spawn(), 2);
    due("fork of one without pages", y.fork(2), 3);
  }

  private static void exit() {
    SheetKernel x = withArea(4, PRIVATE);
    x.write(0, 0, 5);
    x.valuable(0, true);
    x.fork(0);
    x.exit(0);
    due("reason", x.about(0, 0), 4);
    due("lives", x.about(0, 1), 0);
    due("faults are told still", x.about(0, 7), 1);
    due("pages", x.about(0, 10), 0);
    due("valuable", x.about(0, 12), 0);
    due("page", x.page(0, 0, 0), -1);
    due("the other has it", x.page(1, 0, 3), 1);
    due("word", x.read(1, 0), 5);
    x.exit(1);
    due("all is free", x.frame(-1), 10);
    dueThrow("twice", INDEX, () -> x.exit(1));
    for (int p : OFF_PROCESS) dueThrow("process", INDEX, () -> x.exit(p));
    due("broken", x.broken(), 0);
  }

  private static void read() {
    SheetKernel x = withArea(16, PRIVATE);
    due("absent", x.read(0, 127), 0);
    due("place", x.page(0, 15, 1), 1);
    due("frame", x.frame(0), 3);
    due("fault", x.about(0, 7), 1);
    x.write(0, 0, SMALL);
    due("least", x.read(0, 0), SMALL);
    due("no more faults", x.about(0, 7), 2);
    for (int p : OFF_PROCESS) dueThrow("process", INDEX, () -> x.read(p, 0));
    for (int a : OFF_WORD) dueThrow("word", INDEX, () -> x.read(0, a));
    dueThrow("lives not", INDEX, () -> x.read(1, 0));
    x.free(0, 3, 1);
    dueThrow("refused", STATE, () -> x.read(0, 31));
    dueThrow("refused", STATE, () -> x.read(0, 24));
    SheetKernel y = withCode(9);
    due("code is read", y.read(0, 0), 9);
    SheetKernel z = withArea(16, PRIVATE);
    for (int i = 0; i < 11; i++) z.read(0, 8 * i);
    due("what was only read has no slots, but packs", z.page(0, 3, 1), 2);
    due("bytes", z.pool(0), 2);
    readFromPool();
    readFromSlots();
  }

  private static void readFromPool() {
    SheetKernel x = withArea(16, PRIVATE);
    for (int i = 0; i < 10; i++) x.write(0, 8 * i + 1, 200 + i);
    // All are USED: the marks of 0, 1, 2 go by the hand, those of 3 to 6 ahead of it.
    x.read(0, 80);
    due("page 3 is packed", x.page(0, 3, 1), 2);
    due("first byte", x.page(0, 3, 2), 0);
    due("its frame is page 10's", x.page(0, 10, 2), 3);
    due("bytes", x.pool(0), 7);
    due("hand", x.pool(3), 4);
    int[] marks = {5, 5, 5, 3, 5, 5, 5, 7, 7, 7};
    for (int k = 0; k < 10; k++) due("frame " + k, x.frame(k), marks[k]);
    due("word", x.read(0, 25), 203);
    due("fault of kind 1", x.about(0, 8), 1);
    due("not of kind 0", x.about(0, 7), 11);
    due("page 4 is packed behind page 3's bytes", x.page(0, 4, 2), 7);
    due("page 3's are free", x.pool(0), 7);
    due("frame", x.page(0, 3, 2), 4);
    due("not CHANGED", x.frame(4), 3);
  }

  private static void readFromSlots() {
    SheetKernel x = withArea(16, PRIVATE);
    fill(x, 0, 0, 11);
    due("page 3 is in a slot", x.page(0, 3, 1), 3);
    due("slot", x.page(0, 3, 2), 0);
    due("word", x.read(0, 24), 25000075);
    due("fault of kind 2", x.about(0, 9), 1);
    due("in a frame", x.page(0, 3, 1), 1);
    due("the slot stays", x.page(0, 3, 5), 0);
    due("taken", x.slots(0), 1);
    due("page 4 came to the next", x.page(0, 4, 2), 1);
    due("frame", x.page(0, 3, 2), 4);
    due("not CHANGED", x.frame(4), 3);
    // Until the hand comes to frame 4 again: it needs no new slot then.
    for (int g = 11; g < 16; g++) fill(x, 0, g);
    for (int g = 4; g < 9; g++) x.read(0, 8 * g);
    due("back in its slot", x.page(0, 3, 1), 3);
    due("the same one", x.page(0, 3, 2), 0);
    due("broken", x.broken(), 0);
  }

  private static void write() {
    SheetKernel x = withArea(16, PRIVATE);
    x.write(0, 127, BIG);
    due("word", x.read(0, 127), BIG);
    due("others", x.read(0, 126), 0);
    due("frame", x.frame(0), 7);
    due("fault", x.about(0, 7), 1);
    for (int p : OFF_PROCESS) dueThrow("process", INDEX, () -> x.write(p, 0, 1));
    for (int a : OFF_WORD) dueThrow("word", INDEX, () -> x.write(0, a, 1));
    dueThrow("lives not", INDEX, () -> x.write(1, 0, 1));
    x.free(0, 3, 1);
    dueThrow("unmapped", STATE, () -> x.write(0, 24, 1));
    x.area(0, 3, 1, CODE);
    dueThrow("code", STATE, () -> x.write(0, 24, 1));
    due("no touch", x.page(0, 3, 1), 0);
    due("no fault", x.about(0, 7), 1);
    SheetKernel y = withArea(16, PRIVATE);
    fill(y, 0, 0, 11);
    y.read(0, 24);
    due("its slot", y.page(0, 3, 5), 0);
    y.write(0, 24, 5);
    due("slot is free again", y.page(0, 3, 5), -1);
    due("free", y.slots(0), 0);
    due("changed", y.frame(y.page(0, 3, 2)), 7);
  }

  private static void copies() {
    SheetKernel x = withArea(2, PRIVATE);
    x.write(0, 1, 5);
    x.fork(0);
    x.read(1, 1);
    due("reading copies not", x.page(1, 0, 3), 2);
    x.write(1, 2, 6);
    due("the copy's frame", x.page(1, 0, 2), 1);
    due("the same words", x.read(1, 1), 5);
    due("old one is as it was", x.read(0, 2), 0);
    due("copy is USED and CHANGED", x.frame(1), 7);
    due("fault of kind 0", x.about(1, 7), 1);
    due("mappings", x.page(0, 0, 3), 1);
    x.write(1, 8, 1);
    due("of an absent one: one fault", x.about(1, 7), 2);
    due("the old one stays absent", x.page(0, 1, 1), 0);
    x.write(0, 0, 3);
    due("one mapping: no copy", x.page(0, 0, 2), 0);
    due("no fault", x.about(0, 7), 1);
    copyAmongFullFrames();
    copyFromPool();
    copyOfTheLost();
  }

  private static void copyAmongFullFrames() {
    SheetKernel x = withArea(10, PRIVATE);
    fill(x, 0, 0, 10);
    x.fork(0);
    x.write(1, 0, 5);
    // The hand leaves frame 0 alone, takes the marks of 1 and 2, and empties 3.
    due("copy", x.page(1, 0, 2), 3);
    due("old one", x.page(0, 0, 2), 0);
    due("page 3", x.page(0, 3, 1), 3);
    int[] marks = {7, 5, 5, 7, 5, 5, 5, 7, 7, 7};
    for (int k = 0; k < 10; k++) due("frame " + k, x.frame(k), marks[k]);
    due("hand", x.pool(3), 4);
    // The hand goes from 4 to 5, and 7 is 2 beyond: it keeps its marks.
    x.write(1, 56, 6);
    due("copy", x.page(1, 7, 2), 4);
    due("frame 7", x.frame(7), 7);
    due("faults", x.about(1, 7), 2);
    due("broken", x.broken(), 0);
  }

  private static void copyFromPool() {
    SheetKernel x = withArea(16, PRIVATE);
    for (int i = 0; i < 11; i++) x.write(0, 8 * i, i + 1);
    due("page 3 is packed", x.page(0, 3, 1), 2);
    x.fork(0);
    x.write(1, 25, 9);
    due("fault of kind 1", x.about(1, 8), 1);
    due("and of kind 0", x.about(1, 7), 1);
    due("old one is in a frame", x.page(0, 3, 1), 1);
    due("frame", x.page(0, 3, 2), 4);
    due("not CHANGED, USED", x.frame(4), 3);
    due("copy", x.page(1, 3, 2), 5);
    due("CHANGED", x.frame(5), 7);
    due("word", x.read(1, 24), 4);
    due("old word", x.read(0, 25), 0);
  }

  private static void copyOfTheLost() {
    SheetKernel x = withArea(16, PRIVATE);
    fill(x, 0, 0, 11);
    x.fork(0);
    x.slot(0, 2);
    dueThrow("lost", ENDED, () -> x.write(1, 24, 1));
    due("reason", x.about(1, 0), 2);
    due("no fault of kind 2", x.about(1, 9), 0);
    due("nor of kind 0", x.about(1, 7), 0);
    due("it is lost still", x.slots(0), 1);
    dueThrow("for the other too", ENDED, () -> x.read(0, 24));
    due("all is free", x.slots(-1), 24);
    due("frames", x.frame(-1), 10);
  }

  private static void load() {
    SheetKernel x = withProcesses(1);
    x.area(0, 0, 1, CODE);
    x.area(0, 1, 1, PRIVATE);
    x.area(0, 2, 1, SHARED);
    for (int g = 0; g < 3; g++) {
      x.load(0, 8 * g, 4 + g);
      due("word", x.read(0, 8 * g), 4 + g);
      due("frame", x.frame(g), 7);
    }
    x.fork(0);
    for (int g = 0; g < 3; g++) x.load(1, 8 * g, 70 + g);
    due("code is copied", x.read(0, 0), 4);
    due("private too", x.read(0, 8), 5);
    due("shared is not", x.read(0, 16), 72);
    due("faults", x.about(1, 7), 2);
    due("code it stays", x.page(1, 0, 0), CODE);
    for (int p : OFF_PROCESS) dueThrow("process", INDEX, () -> x.load(p, 0, 1));
    for (int a : OFF_WORD) dueThrow("word", INDEX, () -> x.load(0, a, 1));
    dueThrow("lives not", INDEX, () -> x.load(2, 0, 1));
    dueThrow("unmapped", STATE, () -> x.load(0, 24, 1));
    SheetKernel y = withArea(16, CODE);
    fill(y, 0, 0, 11);
    y.slot(0, 2);
    dueThrow("lost", ENDED, () -> y.load(0, 24, 1));
  }

  private static void run() {
    SheetKernel x = withCode(
        word(1, 0, 0, 3), word(1, 1, 0, -32768), word(4, 2, 0, 32767), word(4, 2, 2, 1),
        word(3, 2, 0, 61), word(2, 3, 0, 61), word(4, 0, 3, -1), word(1, 0, 0, 0) | 0xF0000,
        word(5, 0, 0, 77), word(5, 1, 0, 12), 0, 0,
        word(5, 1, 0, -5));
    x.area(0, 8, 1, PRIVATE);
    due("no step", x.run(0, 0), 0);
    due("no touch", x.about(0, 7), 2);
    due("steps", x.run(0, 4), 4);
    due("counter", x.about(0, 2), 4);
    due("register 0", x.about(0, 3), 3);
    due("register 1", x.about(0, 4), -32768);
    due("register 2", x.about(0, 5), 2 * (32767 + 3) + 1);
    x.run(0, 2);
    due("stored", x.read(0, 64), 65541);
    due("fetched", x.about(0, 6), 65541);
    x.run(0, 2);
    due("bits left out", x.about(0, 3), 0);
    x.run(0, 1);
    due("no jump", x.about(0, 2), 9);
    x.run(0, 1);
    due("jump", x.about(0, 2), 12);
    x.run(0, 1);
    due("jump below 0", x.about(0, 2), -5);
    due("the step of the end counts", x.run(0, 200), 1);
    due("reason", x.about(0, 0), 3);
    due("counter", x.about(0, 2), 0);
    dueThrow("lives not", INDEX, () -> x.run(0, 201));
    x.spawn();
    for (int n : new int[] {-1, 201, BIG, SMALL}) dueThrow("n", ARGUMENT, () -> x.run(0, n));
    for (int p : OFF_PROCESS) dueThrow("process", INDEX, () -> x.run(p, 1));
    SheetKernel y = withCode(word(1, 0, 0, 1), word(5, 0, 0, 1));
    due("all steps", y.run(0, 200), 200);
    runToEnds();
    runForks();
    runOutOfMemory();
  }

  private static void runToEnds() {
    ends("told", 4, 1, word(0, 3, 3, -1));
    ends("another word", 3, 1, word(7, 0, 0, 0));
    ends("another word", 3, 1, -1);
    ends("unmapped word", 3, 1, word(2, 0, 0, 16));
    ends("word below 0", 3, 1, word(2, 0, 0, -1));
    ends("word 128", 3, 1, word(2, 0, 0, 128));
    ends("code is not written", 3, 1, word(3, 0, 0, 0));
    ends("unmapped counter", 3, 3, word(1, 0, 0, 1), word(5, 0, 0, 16));
    SheetKernel x = withProcesses(1);
    x.area(0, 15, 1, PRIVATE);
    x.area(0, 0, 1, CODE);
    x.load(0, 0, word(1, 0, 0, 1));
    x.load(0, 1, word(5, 0, 0, 127));
    x.write(0, 127, word(1, 1, 0, 1));
    due("private is run too", x.run(0, 3), 3);
    due("counter", x.about(0, 2), 128);
    due("beyond the last word", x.run(0, 9), 1);
    due("reason", x.about(0, 0), 3);
  }

  private static void ends(String what, int reason, int steps, int... words) {
    SheetKernel x = withCode(words);
    due(what + ", steps", x.run(0, 100), steps);
    due(what + ", reason", x.about(0, 0), reason);
  }

  private static void runForks() {
    SheetKernel x = withCode(word(6, 2, 0, 0), word(1, 0, 0, 1), word(5, 0, 0, 0));
    due("steps", x.run(0, 1), 1);
    due("number", x.about(0, 5), 1);
    due("in the new one", x.about(1, 5), -2);
    due("counter", x.about(1, 2), 1);
    x.run(0, 18);
    for (int p = 2; p < 8; p++) due("lives", x.about(p, 1), 1);
    due("seventh", x.about(0, 5), 7);
    x.run(0, 3);
    due("none", x.about(0, 5), -1);
    due("lives", x.about(0, 1), 1);
    SheetKernel y = withCode(word(6, 1, 0, 0));
    y.area(0, 2, 1, SHARED);
    for (int i = 3; i < 13; i++) y.share(0, i, 0, 2, 1);
    y.run(0, 1);
    due("too many mappings", y.about(0, 4), -1);
    due("none made", y.about(1, 1), 0);
  }

  private static void runOutOfMemory() {
    SheetKernel x = withProcesses(2);
    failAllSlots(x);
    x.area(0, 0, 1, CODE);
    x.load(0, 0, word(2, 0, 0, 8));
    x.area(0, 1, 1, SHARED);
    x.area(1, 0, 9, SHARED);
    fill(x, 0, 0);
    x.load(0, 0, word(2, 0, 0, 8));
    fill(x, 1, 0, 9);
    due("full", x.frame(-1), 0);
    due("the step counts", x.run(0, 5), 1);
    due("reason", x.about(0, 0), 1);
    due("the other lives", x.about(1, 1), 1);
    due("fault is counted", x.about(0, 7), 2);
  }

  private static void slot() {
    SheetKernel x = withArea(16, PRIVATE);
    x.slot(0, 1);
    due("not noticed yet", x.slots(0), 0);
    x.slot(1, 2);
    due("nothing to lose", x.slots(1), 0);
    fill(x, 0, 0, 11);
    due("noticed", x.slots(0), 2);
    due("the next", x.page(0, 3, 2), 1);
    due("taken", x.slots(1), 1);
    due("its word is there", x.read(0, 24), 25000075);
    x.slot(0, 2);
    due("bad stays", x.slots(0), 2);
    x.slot(0, 1);
    due("bad stays", x.slots(0), 2);
    x.slot(0, 0);
    due("good again", x.slots(0), 0);
    x.slot(1, 1);
    due("taken stays", x.slots(1), 1);
    fill(x, 0, 11);
    due("good is used", x.slots(0), 1);
    for (int k : new int[] {-1, 24, BIG, SMALL}) dueThrow("slot", INDEX, () -> x.slot(k, 9));
    for (int h : new int[] {-1, 3, BIG, SMALL}) dueThrow("how", ARGUMENT, () -> x.slot(0, h));
  }

  private static void lostSlots() {
    SheetKernel x = withArea(16, PRIVATE);
    fill(x, 0, 0, 11);
    x.slot(0, 2);
    due("taken still", x.slots(0), 1);
    x.slot(0, 0);
    due("not lost any more", x.read(0, 24), 25000075);
    SheetKernel y = withArea(16, PRIVATE);
    y.valuable(0, true);
    fill(y, 0, 0, 11);
    due("lower", y.page(0, 3, 2), 0);
    due("other", y.page(0, 3, 4), 1);
    y.slot(0, 2);
    due("the other is there", y.read(0, 24), 25000075);
    due("fault", y.about(0, 9), 1);
    due("its slot now", y.page(0, 3, 5), 1);
    due("one only", y.page(0, 3, 4), -1);
    // Page 4 went while slot 0 was taken still.
    due("page 4", y.page(0, 4, 2), 2);
    due("lost one is free", y.slots(0), 0);
    y.read(0, 88);
    due("page 5 has it now", y.page(0, 5, 2), 0);
    due("and has not lost it", y.read(0, 40), 41000123);
    SheetKernel z = withArea(16, PRIVATE);
    z.valuable(0, true);
    fill(z, 0, 0, 11);
    z.slot(1, 2);
    z.read(0, 24);
    due("lower stays", z.page(0, 3, 5), 0);
    due("other is free", z.slots(1), 0);
    due("one only", z.page(0, 3, 4), -1);
    z.slot(0, 2);
    due("in a frame its words are there", z.read(0, 24), 25000075);
    SheetKernel w = withArea(16, PRIVATE);
    w.valuable(0, true);
    fill(w, 0, 0, 11);
    w.slot(0, 2);
    w.slot(1, 2);
    dueThrow("both", ENDED, () -> w.read(0, 24));
    due("reason", w.about(0, 0), 2);
    due("no fault", w.about(0, 9), 0);
    due("broken", w.broken(), 0);
  }

  private static void valuable() {
    SheetKernel x = withArea(16, PRIVATE);
    x.valuable(0, true);
    due("is", x.about(0, 12), 1);
    x.valuable(0, false);
    due("is not", x.about(0, 12), 0);
    fill(x, 0, 0, 11);
    due("one slot", x.slots(-1), 23);
    x.valuable(0, true);
    fill(x, 0, 11);
    due("two more", x.slots(-1), 21);
    for (int p : OFF_PROCESS) dueThrow("process", INDEX, () -> x.valuable(p, true));
    dueThrow("lives not", INDEX, () -> x.valuable(1, true));
    SheetKernel y = withArea(11, PRIVATE);
    y.fork(0);
    y.valuable(1, true);
    fill(y, 0, 0, 11);
    due("not by pages that were copied", y.slots(-1), 23);
    SheetKernel z = withArea(11, SHARED);
    z.fork(0);
    z.valuable(1, true);
    z.slot(1, 1);
    z.slot(2, 1);
    fill(z, 0, 0, 11);
    due("by another's mapping", z.page(0, 3, 4), 3);
    due("bad on the way", z.slots(1), 2);
    SheetKernel w = withArea(16, PRIVATE);
    w.valuable(0, true);
    for (int k = 1; k < 24; k++) w.slot(k, 1);
    fill(w, 0, 0, 11);
    due("no second one", w.page(0, 3, 4), -1);
    due("the first", w.page(0, 3, 2), 0);
    due("all bad", w.slots(-1), 0);
  }

  private static void tick() {
    SheetKernel x = withArea(16, PRIVATE);
    for (int i = 0; i < 7; i++) x.read(0, 8 * i);
    x.tick();
    due("three are free", x.pool(3), 0);
    due("marks stay", x.frame(0), 3);
    x.read(0, 56);
    x.tick();
    due("two are free", x.pool(3), 4);
    for (int k = 0; k < 7; k++) due("mark " + k, x.frame(k), 1);
    due("mark 7", x.frame(7), 3);
    x.tick();
    due("none is emptied", x.frame(-1), 2);
    due("hand", x.pool(3), 8);
    due("mark 7", x.frame(7), 1);
    for (int i = 0; i < 4; i++) x.read(0, 8 * i);
    x.tick();
    due("round", x.pool(3), 2);
    int[] marks = {1, 1, 1, 1};
    for (int k = 0; k < 4; k++) due("mark " + k, x.frame(k), marks[k]);
  }

  private static void about() {
    SheetKernel x = withCode(word(1, 0, 0, 10), word(1, 1, 0, 11), word(1, 2, 0, 12), word(1, 3, 0, 13));
    x.area(0, 4, 3, PRIVATE);
    x.area(0, 8, 2, SHARED);
    x.run(0, 4);
    x.read(0, 32);
    x.write(0, 40, 1);
    x.read(0, 64);
    x.valuable(0, true);
    int[] told = {0, 1, 4, 10, 11, 12, 13, 4, 0, 0, 7, 2, 1};
    for (int w = 0; w <= 12; w++) due("about " + w, x.about(0, w), told[w]);
    for (int w : new int[] {-1, 13, BIG, SMALL}) {
      due("what", x.about(0, w), -1);
      due("what of none", x.about(1, w), -1);
    }
    for (int p : OFF_PROCESS) for (int w = 0; w <= 12; w++) due("number", x.about(p, w), -1);
    x.exit(0);
    int[] behind = {4, 0, 0, 0, 0, 0, 0, 4, 0, 0, 0, 0, 0};
    for (int w = 0; w <= 12; w++) due("about the ended " + w, x.about(0, w), behind[w]);
    x.spawn();
    x.area(0, 0, 1, PRIVATE);
    x.fork(0);
    x.exit(0);
    due("fork by the same number", x.fork(1), 0);
    due("reason", x.about(0, 0), 0);
    due("faults", x.about(0, 7), 0);
  }

  private static void page() {
    SheetKernel x = withArea(16, PRIVATE);
    x.valuable(0, true);
    int[] absent = {0, 0, -1, 1, -1, -1};
    for (int w = 0; w < 6; w++) due("absent " + w, x.page(0, 0, w), absent[w]);
    x.write(0, 0, 1);
    int[] framed = {0, 1, 0, 1, -1, -1};
    for (int w = 0; w < 6; w++) due("framed " + w, x.page(0, 0, w), framed[w]);
    fill(x, 0, 1, 2);
    x.write(0, 24, 1);
    x.write(0, 32, 300);
    fill(x, 0, 5, 8);
    // Emptied by now: the frames 3 (packed, 4 bytes), 4 (packed, 5 bytes) and 5.
    int[][] due = {{0, 2, 0, 1, -1, -1}, {0, 2, 4, 1, -1, -1}, {0, 3, 0, 1, 1, -1}};
    for (int g = 0; g < 3; g++) {
      for (int w = 0; w < 6; w++) due("page " + (3 + g) + " " + w, x.page(0, 3 + g, w), due[g][w]);
    }
    x.read(0, 40);
    int[] both = {0, 1, 6, 1, 1, 0};
    for (int w = 0; w < 6; w++) due("framed with slots " + w, x.page(0, 5, w), both[w]);
    for (int w : new int[] {-1, 6, BIG, SMALL}) due("what", x.page(0, 0, w), -1);
    for (int g : OFF_PAGE) due("page", x.page(0, g, 0), -1);
    for (int p : OFF_PROCESS) due("process", x.page(p, 0, 0), -1);
    for (int w = -1; w < 7; w++) due("lives not", x.page(1, 0, w), -1);
    x.free(0, 0, 1);
    for (int w = -1; w < 7; w++) due("unmapped", x.page(0, 0, w), -1);
  }

  private static void frame() {
    SheetKernel x = withArea(16, PRIVATE);
    for (int k : new int[] {-2, 10, BIG, SMALL}) due("another one", x.frame(k), -1);
    x.read(0, 0);
    x.write(0, 8, 1);
    due("read", x.frame(0), 3);
    due("written", x.frame(1), 7);
    due("free", x.frame(2), 0);
    due("how many", x.frame(-1), 8);
    x.free(0, 0, 1);
    due("free again", x.frame(0), 0);
    x.read(0, 16);
    due("the lowest free one", x.page(0, 2, 2), 0);
    due("without the old marks", x.frame(0), 3);
    for (int g = 3; g < 11; g++) x.write(0, 8 * g, 1);
    x.tick();
    due("not USED", x.frame(0), 1);
    due("not USED, CHANGED", x.frame(1), 5);
    x.read(0, 16);
    due("USED again", x.frame(0), 3);
    x.write(0, 8, 2);
    due("USED again", x.frame(1), 7);
  }

  private static void outOfMemory() {
    SheetKernel x = withProcesses(3);
    failAllSlots(x);
    for (int p = 0; p < 3; p++) x.area(p, 0, 8, PRIVATE);
    fill(x, 0, 0, 4);
    fill(x, 1, 0, 4);
    fill(x, 2, 0, 2);
    x.write(2, 16, 7);
    due("of two the higher", x.about(1, 0), 1);
    due("the other lives", x.about(0, 1), 1);
    due("its frame", x.page(2, 2, 2), 4);
    due("frames", x.frame(-1), 3);
    due("the hand went round twice", x.pool(3), 0);
    for (int k = 0; k < 4; k++) due("marks", x.frame(k), 5);
    due("bad ones", x.slots(-1), 0);
    due("broken", x.broken(), 0);
    SheetKernel y = withProcesses(2);
    failAllSlots(y);
    y.area(0, 0, 16, PRIVATE);
    y.area(1, 0, 4, PRIVATE);
    fill(y, 1, 0, 4);
    fill(y, 0, 0, 6);
    dueThrow("itself", ENDED, () -> y.write(0, 48, 1));
    due("reason", y.about(0, 0), 1);
    due("fault is counted", y.about(0, 7), 7);
    due("frames", y.frame(-1), 6);
    sharedOutOfMemory();
    copyOutOfMemory();
  }

  private static void sharedOutOfMemory() {
    SheetKernel x = withProcesses(3);
    failAllSlots(x);
    x.area(0, 0, 6, SHARED);
    x.area(1, 0, 6, CODE);
    x.area(2, 0, 3, PRIVATE);
    fill(x, 0, 0, 5);
    fill(x, 1, 0, 5);
    dueThrow("none has private ones: the one that touches", ENDED, () -> x.read(0, 40));
    due("reason", x.about(0, 0), 1);
    due("code counts not", x.about(1, 1), 1);
    due("nor absent ones", x.about(2, 1), 1);
    due("frames", x.frame(-1), 5);
  }

  private static void copyOutOfMemory() {
    SheetKernel x = withArea(10, PRIVATE);
    failAllSlots(x);
    fill(x, 0, 0, 10);
    x.fork(0);
    // Both have ten: 1 ends first, then 0 goes on with the copy though the sheet is its alone by then.
    dueThrow("0 has the most, once 1 has ended", ENDED, () -> x.write(0, 0, 1));
    due("reason of 1", x.about(1, 0), 1);
    due("reason of 0", x.about(0, 0), 1);
    due("fault", x.about(0, 7), 11);
    due("frames", x.frame(-1), 10);
    SheetKernel y = withArea(6, PRIVATE);
    failAllSlots(y);
    fill(y, 0, 0, 6);
    y.fork(0);
    y.area(1, 6, 4, PRIVATE);
    fill(y, 1, 6, 4);
    y.write(0, 0, 9);
    due("1 ended", y.about(1, 0), 1);
    due("the copy is in the lowest free frame", y.page(0, 0, 2), 6);
    due("the old one is gone", y.frame(0), 0);
    due("word", y.read(0, 0), 9);
    due("the others", y.read(0, 1), 2000006);
    due("broken", y.broken(), 0);
  }

  private static void slots() {
    SheetKernel x = withArea(16, PRIVATE);
    for (int k : new int[] {-2, 24, BIG, SMALL}) due("another one", x.slots(k), -1);
    x.slot(1, 1);
    due("failing ones are free until then", x.slots(-1), 24);
    fill(x, 0, 0, 12);
    due("taken", x.slots(0), 1);
    due("bad", x.slots(1), 2);
    due("taken", x.slots(2), 1);
    due("free", x.slots(3), 0);
    due("how many", x.slots(-1), 21);
    x.exit(0);
    due("bad stays", x.slots(-1), 23);
  }

  private static void pool() {
    for (int w : new int[] {-1, 4, BIG, SMALL}) due("what", new SheetKernel().pool(w), -1);
    int[] zeros = {0, 0, 0, 0, 0, 0, 0, 0};
    packs("a run", zeros, 2);
    packs("edge of one byte", new int[] {127, 127, 127, 127, -128, -128, -128, -128}, 4);
    packs("beyond it", new int[] {128, 128, 128, 128, -129, -129, -129, -129}, 6);
    packs("edge of two bytes", new int[] {32767, 32767, 0, 0, 0, 0, -32768, 1}, 10);
    packs("beyond it", new int[] {32768, 32768, 0, 0, 0, 0, -32769, -32769}, 12);
    packs("eight small ones", new int[] {1, 2, 3, 4, 5, 6, 7, 8}, 16);
    packs("runs apart", new int[] {1, 2, 1, 2, 1, 2, 1, 2}, 16);
    packs("seventeen", new int[] {1, 2, 3, 4, 5, 6, 7, 800}, 0);
    arenaRows();
  }

  /** Page 3 is the first that the hand empties. */
  private static void packs(String what, int[] words, int bytes) {
    SheetKernel x = withArea(16, PRIVATE);
    for (int g = 0; g < 10; g++) {
      for (int i = 0; i < 8; i++) x.write(0, 8 * g + i, words[i]);
    }
    x.write(0, 80, 1);
    due(what + ", bytes", x.pool(0), bytes);
    due(what + ", sheets", x.pool(1), bytes > 0 ? 1 : 0);
    due(what + ", row", x.pool(2), 64 - bytes);
    due(what + ", place", x.page(0, 3, 1), bytes > 0 ? 2 : 3);
    for (int i = 0; i < 8; i++) due(what + ", word", x.read(0, 24 + i), words[i]);
  }

  private static void arenaRows() {
    SheetKernel x = withArea(16, PRIVATE);
    for (int g = 0; g < 16; g++) {
      for (int i = 0; i < 7; i++) x.write(0, 8 * g + i, g + i);
    }
    // The pages 3 to 8 were emptied in turn, 16 bytes each: four of them fill the arena.
    due("full", x.pool(0), 64);
    due("sheets", x.pool(1), 4);
    due("no row", x.pool(2), 0);
    due("page 6", x.page(0, 6, 2), 48);
    due("no room: a slot", x.page(0, 7, 1), 3);
    x.free(0, 6, 1);
    x.free(0, 4, 1);
    due("rows", x.pool(2), 16);
    due("bytes", x.pool(0), 32);
    x.area(0, 4, 1, PRIVATE);
    // Frame 9 is next: 16 bytes go to the lower of the two rows.
    x.read(0, 32);
    due("page 9", x.page(0, 9, 2), 16);
    due("hand", x.pool(3), 0);
    due("broken", x.broken(), 0);
  }

  private static void broken() {
    SheetKernel y = withProcesses(1);
    for (int i = 0; i < 20; i++) {
      y.area(0, 0, 16, PRIVATE);
      y.write(0, 8 * (i % 16), i);
      y.free(0, 0, 16);
    }
    y.area(0, 0, 16, PRIVATE);
    for (int g = 0; g < 16; g++) y.write(0, 8 * g, 1000003 * g);
    due("sheets are used again", y.broken(), 0);
    SheetKernel x = withProcesses(3);
    x.valuable(1, true);
    for (int p = 0; p < 3; p++) {
      x.area(p, 0, 4, PRIVATE);
      x.area(p, 4, 2, SHARED);
    }
    x.share(1, 12, 0, 4, 2);
    for (int i = 0; i < 300; i++) {
      x.load(i % 3, i * 7 % 48, i * (i % 5 == 0 ? 1000003 : 1));
      if (i % 60 == 30) x.exit(x.fork(i % 3));
      if (i % 9 == 0) x.slot(i % 24, i % 2);
      due("broken", x.broken(), 0);
    }
  }
}
