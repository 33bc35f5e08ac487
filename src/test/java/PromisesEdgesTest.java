/** A test of its own for each sentence of the promises 1 to 20 that names a boundary case; it bears the sentence's words. */
public final class PromisesEdgesTest extends Checks {
  public static void main(String[] args) {
    processes();
    pages();
    words();
    disk();
    told();
    finish();
  }

  private static void processes() {
    test("1: no process lives", PromisesEdgesTest::noProcess);
    test("1: frames, arena and slots are free", PromisesEdgesTest::allFree);
    test("1: NONE = -1", PromisesEdgesTest::none);
    test("2: the lowest number that does not live", PromisesEdgesTest::lowestNumber);
    test("2: without pages", PromisesEdgesTest::withoutPages);
    test("2: all live", PromisesEdgesTest::allLive);
    test("6: the new one's number", PromisesEdgesTest::forkNumber);
    test("6: there is none", PromisesEdgesTest::noFork);
    test("7: a process ends, for reason 4", PromisesEdgesTest::exitReason);
    test("7: no such process that lives", PromisesEdgesTest::exitTwice);
    test("13: whether a process is VALUABLE", PromisesEdgesTest::valuable);
  }

  private static void pages() {
    test("3: pages from one on, so many", PromisesEdgesTest::areaPages);
    test("3: to new sheets", PromisesEdgesTest::areaSheets);
    test("3: count is not 1 .. 16", PromisesEdgesTest::areaCount);
    test("3: no such kind", PromisesEdgesTest::areaKind);
    test("3: a page is mapped", PromisesEdgesTest::areaMapped);
    test("3: or there is none such", PromisesEdgesTest::areaBeyond);
    test("4: as SHARED, to the sheets of other's pages", PromisesEdgesTest::sharePages);
    test("4: count is not 1 .. 16", PromisesEdgesTest::shareCount);
    test("4: a page of it is mapped", PromisesEdgesTest::shareMapped);
    test("4: a page of it: there is none such", PromisesEdgesTest::shareBeyond);
    test("4: one of other is not mapped as SHARED", PromisesEdgesTest::shareOtherKinds);
    test("4: one of other: there is none such", PromisesEdgesTest::shareOtherBeyond);
    test("4: a sheet would have more than 20 mappings", PromisesEdgesTest::shareTooMany);
    test("4: both may be the same process", PromisesEdgesTest::shareWithItself);
    test("5: pages from one on are unmapped", PromisesEdgesTest::freePages);
    test("5: count is not 1 .. 16", PromisesEdgesTest::freeCount);
    test("5: one is not mapped", PromisesEdgesTest::freeUnmapped);
    test("5: or there is none such", PromisesEdgesTest::freeBeyond);
  }

  private static void words() {
    test("8: the word at an address", PromisesEdgesTest::readWords);
    test("8: REFUSED", PromisesEdgesTest::readRefused);
    test("9: the word at an address becomes v", PromisesEdgesTest::writeWords);
    test("9: REFUSED", PromisesEdgesTest::writeRefused);
    test("10: the same, but also for CODE", PromisesEdgesTest::loadCode);
    test("10: which counts as PRIVATE in that", PromisesEdgesTest::loadCopies);
    test("10: REFUSED", PromisesEdgesTest::loadRefused);
    test("11: at most n steps: how many were made", PromisesEdgesTest::runSteps);
    test("11: n is not 0 .. 200", PromisesEdgesTest::runNumber);
  }

  private static void disk() {
    test("12: no such slot, another how", PromisesEdgesTest::slotWrong);
    test("12: a BAD one is free then", PromisesEdgesTest::slotMended);
    test("12: what is in one is not LOST any more", PromisesEdgesTest::slotFoundAgain);
    test("12: as good as any again, ahead of its failing", PromisesEdgesTest::slotGoodAhead);
    test("12: it fails at writing from now on", PromisesEdgesTest::slotFails);
    test("12: what it holds is LOST (nothing, if it is not taken)", PromisesEdgesTest::slotNothingLost);
    test("14: fewer than 3 frames are free", PromisesEdgesTest::tickFree);
    test("14: the hand goes over 4 frames", PromisesEdgesTest::tickFour);
    test("14: but empties none", PromisesEdgesTest::tickEmptiesNone);
    test("14: round behind 9", PromisesEdgesTest::tickRound);
  }

  private static void told() {
    test("15: what 0 .. 12", PromisesEdgesTest::aboutAll);
    test("15: faults of the one that lived latest by that number", PromisesEdgesTest::aboutLatest);
    test("15: NONE for another what, or number", PromisesEdgesTest::aboutNone);
    test("15: 2 to 6, 10 to 12 are 0 if it lives not", PromisesEdgesTest::aboutEnded);
    test("16: its kind, or NONE", PromisesEdgesTest::pageKind);
    test("16: where its sheet is", PromisesEdgesTest::pagePlaces);
    test("16: its mappings", PromisesEdgesTest::pageMappings);
    test("16: its other slot; its slot when it is in a frame", PromisesEdgesTest::pageSlots);
    test("16: NONE if there is none such, and for another what", PromisesEdgesTest::pageNone);
    test("17: how many are free (-1)", PromisesEdgesTest::frameCount);
    test("17: 0 free, else 1, and 2 if USED, and 4 if CHANGED", PromisesEdgesTest::frameMarks);
    test("17: NONE for another one", PromisesEdgesTest::frameNone);
    test("18: how many are free (-1), 0 free, 1 taken, 2 BAD", PromisesEdgesTest::slotStates);
    test("18: NONE for another one", PromisesEdgesTest::slotsNone);
    test("19: bytes, sheets, longest row", PromisesEdgesTest::poolTold);
    test("19: the frame of the hand", PromisesEdgesTest::poolHand);
    test("19: NONE for another what", PromisesEdgesTest::poolNone);
    test("20: all are so", PromisesEdgesTest::nothingBroken);
  }

  // ---- processes

  private static void noProcess() {
    SheetKernel x = new SheetKernel();
    for (int p = 0; p < 8; p++) {
      for (int w = 0; w <= 12; w++) due("about", x.about(p, w), 0);
      for (int g = 0; g < 16; g++) due("page", pageOf(x, p, g), -1, -1, -1, -1, -1, -1);
      int process = p;
      dueRefusal("exit", INDEX, x, () -> x.exit(process));
    }
  }

  private static void allFree() {
    SheetKernel x = new SheetKernel();
    due("frames", x.frame(-1), 10);
    due("each", framesOf(x), 0, 0, 0, 0, 0, 0, 0, 0, 0, 0);
    due("slots", x.slots(-1), 24);
    for (int k = 0; k < 24; k++) due("slot", x.slots(k), 0);
    due("bytes", x.pool(0), 0);
    due("sheets", x.pool(1), 0);
    due("row", x.pool(2), 64);
    due("hand", x.pool(3), 0);
    due("broken", x.broken(), 0);
    x.tick();
    due("a tick does nothing", x.pool(3), 0);
  }

  private static void none() {
    due("NONE", SheetKernel.NONE, -1);
  }

  private static void lowestNumber() {
    SheetKernel x = new SheetKernel();
    for (int p = 0; p < 8; p++) due("in turn", x.spawn(), p);
    x.exit(7);
    x.exit(4);
    x.exit(0);
    due("lowest", x.spawn(), 0);
    due("next", x.spawn(), 4);
    due("last", x.spawn(), 7);
  }

  private static void withoutPages() {
    SheetKernel x = withArea(16, PRIVATE);
    x.write(0, 0, 5);
    x.valuable(0, true);
    x.exit(0);
    due("the same number", x.spawn(), 0);
    for (int g = 0; g < 16; g++) due("page", pageOf(x, 0, g), -1, -1, -1, -1, -1, -1);
    for (int w = 0; w <= 12; w++) due("about " + w, x.about(0, w), w == 1 ? 1 : 0);
  }

  private static void allLive() {
    SheetKernel x = withProcesses(7);
    due("the eighth", x.spawn(), 7);
    dueRefusal("the ninth", STATE, x, x::spawn);
    x.exit(3);
    due("again", x.spawn(), 3);
    dueRefusal("all again", STATE, x, x::spawn);
  }

  private static void forkNumber() {
    SheetKernel x = withProcesses(3);
    x.exit(1);
    due("lowest", x.fork(2), 1);
    due("next", x.fork(2), 3);
    due("of one without pages", x.about(3, 10), 0);
  }

  private static void noFork() {
    SheetKernel x = withProcesses(8);
    for (int p = 0; p < 8; p++) {
      int process = p;
      dueRefusal("all live", STATE, x, () -> x.fork(process));
    }
    SheetKernel y = withArea(1, SHARED);
    for (int i = 1; i < 11; i++) y.share(0, i, 0, 0, 1);
    dueRefusal("eleven and eleven", STATE, y, () -> y.fork(0));
    y.free(0, 10, 1);
    due("ten and ten", y.fork(0), 1);
  }

  private static void exitReason() {
    SheetKernel x = withArea(16, PRIVATE);
    fill(x, 0, 0, 12);
    x.exit(0);
    due("reason", x.about(0, 0), 4);
    due("frames", x.frame(-1), 10);
    due("slots", x.slots(-1), 24);
    due("bytes", x.pool(0), 0);
    due("the hand stays", x.pool(3), 5);
    due("broken", x.broken(), 0);
  }

  private static void exitTwice() {
    SheetKernel x = withProcesses(2);
    x.exit(1);
    dueRefusal("twice", INDEX, x, () -> x.exit(1));
    for (int p : OFF_PROCESS) dueRefusal("number " + p, INDEX, x, () -> x.exit(p));
    due("reason stays", x.about(1, 0), 4);
  }

  private static void valuable() {
    SheetKernel x = withProcesses(2);
    x.valuable(1, true);
    x.valuable(1, true);
    due("is", x.about(1, 12), 1);
    due("the other is not", x.about(0, 12), 0);
    x.valuable(1, false);
    due("is not", x.about(1, 12), 0);
    x.valuable(1, true);
    x.exit(1);
    due("one that ended is not", x.about(1, 12), 0);
    dueRefusal("nor becomes it", INDEX, x, () -> x.valuable(1, true));
    x.spawn();
    due("nor the next by that number", x.about(1, 12), 0);
    for (int p : OFF_PROCESS) dueRefusal("number " + p, INDEX, x, () -> x.valuable(p, false));
  }

  // ---- pages

  private static int mapped(SheetKernel x, int process) {
    int bits = 0;
    for (int g = 0; g < 16; g++) if (x.page(process, g, 0) != -1) bits |= 1 << g;
    return bits;
  }

  private static void areaPages() {
    SheetKernel x = withProcesses(4);
    x.area(0, 0, 1, PRIVATE);
    due("the first", mapped(x, 0), 0x0001);
    x.area(0, 15, 1, PRIVATE);
    due("the last", mapped(x, 0), 0x8001);
    x.area(0, 1, 14, CODE);
    due("all between", mapped(x, 0), 0xFFFF);
    x.area(1, 0, 16, SHARED);
    due("all", mapped(x, 1), 0xFFFF);
    x.area(2, 14, 2, SHARED);
    due("up to the last", mapped(x, 2), 0xC000);
    due("kind of the first", x.page(2, 14, 0), SHARED);
    due("and of the last", x.page(2, 15, 0), SHARED);
    due("another process", mapped(x, 3), 0);
  }

  private static void areaSheets() {
    SheetKernel x = withArea(2, SHARED);
    due("its own", pageOf(x, 0, 0), SHARED, ABSENT, -1, 1, -1, -1);
    due("its own", pageOf(x, 0, 1), SHARED, ABSENT, -1, 1, -1, -1);
    x.write(0, 0, 5);
    due("the other's word", x.read(0, 8), 0);
    SheetKernel y = withProcesses(8);
    for (int p = 0; p < 8; p++) y.area(p, 0, 16, PRIVATE);
    for (int p = 0; p < 8; p++) due("as many as there are pages", y.about(p, 10), 16);
    for (int p = 0; p < 8; p++) y.write(p, 127, p);
    for (int p = 0; p < 8; p++) due("all are different", y.read(p, 127), p);
    due("broken", y.broken(), 0);
  }

  private static void areaCount() {
    SheetKernel x = withProcesses(1);
    for (int c : OFF_COUNT) dueRefusal("count " + c, ARGUMENT, x, () -> x.area(0, 0, c, PRIVATE));
    dueRefusal("count 17 of the last page", ARGUMENT, x, () -> x.area(0, 15, 17, PRIVATE));
    x.area(0, 0, 16, PRIVATE);
    due("16", x.about(0, 10), 16);
  }

  private static void areaKind() {
    SheetKernel x = withProcesses(1);
    for (int k : new int[] {-1, 3, BIG, SMALL}) dueRefusal("kind " + k, ARGUMENT, x, () -> x.area(0, 0, 1, k));
  }

  private static void areaMapped() {
    SheetKernel x = withProcesses(1);
    x.area(0, 6, 1, SHARED);
    dueRefusal("the only one", STATE, x, () -> x.area(0, 6, 1, PRIVATE));
    dueRefusal("the first", STATE, x, () -> x.area(0, 6, 5, PRIVATE));
    dueRefusal("the last", STATE, x, () -> x.area(0, 2, 5, PRIVATE));
    dueRefusal("one between", STATE, x, () -> x.area(0, 0, 16, PRIVATE));
    x.area(0, 2, 4, PRIVATE);
    x.area(0, 7, 4, PRIVATE);
    due("up to it, and behind it", mapped(x, 0), 0x07FC);
  }

  private static void areaBeyond() {
    SheetKernel x = withProcesses(1);
    dueRefusal("page 16", STATE, x, () -> x.area(0, 15, 2, PRIVATE));
    dueRefusal("page 16", STATE, x, () -> x.area(0, 1, 16, PRIVATE));
    dueRefusal("page 30", STATE, x, () -> x.area(0, 15, 16, PRIVATE));
  }

  private static void sharePages() {
    SheetKernel x = withProcesses(3);
    x.area(0, 0, 16, SHARED);
    x.share(1, 14, 0, 0, 2);
    due("up to the last page", mapped(x, 1), 0xC000);
    x.share(1, 0, 0, 14, 2);
    due("of the last pages", mapped(x, 1), 0xC003);
    x.share(2, 0, 0, 0, 16);
    due("all", mapped(x, 2), 0xFFFF);
    for (int g = 0; g < 16; g++) x.write(0, 8 * g, 100 + g);
    due("sheet of 0", x.read(1, 112), 100);
    due("sheet of 1", x.read(1, 120), 101);
    due("sheet of 14", x.read(1, 0), 114);
    due("sheet of 15", x.read(1, 8), 115);
    for (int g = 0; g < 16; g++) due("sheet of " + g, x.read(2, 8 * g), 100 + g);
    due("kind", x.page(1, 15, 0), SHARED);
    due("mappings", x.page(0, 0, 3), 3);
    due("mappings", x.page(0, 2, 3), 2);
  }

  private static void shareCount() {
    SheetKernel x = withProcesses(2);
    x.area(0, 0, 16, SHARED);
    for (int c : OFF_COUNT) dueRefusal("count " + c, ARGUMENT, x, () -> x.share(1, 0, 0, 0, c));
    dueRefusal("17 of the last pages", ARGUMENT, x, () -> x.share(1, 15, 0, 15, 17));
    x.share(1, 0, 0, 0, 16);
    due("16", x.about(1, 10), 16);
  }

  private static void shareMapped() {
    SheetKernel x = withProcesses(2);
    x.area(0, 0, 16, SHARED);
    x.area(1, 6, 1, PRIVATE);
    dueRefusal("the only one", STATE, x, () -> x.share(1, 6, 0, 0, 1));
    dueRefusal("the first", STATE, x, () -> x.share(1, 6, 0, 0, 3));
    dueRefusal("the last", STATE, x, () -> x.share(1, 4, 0, 0, 3));
    x.share(1, 4, 0, 0, 2);
    x.share(1, 7, 0, 0, 2);
    due("up to it, and behind it", mapped(x, 1), 0x01F0);
  }

  private static void shareBeyond() {
    SheetKernel x = withProcesses(2);
    x.area(0, 0, 16, SHARED);
    dueRefusal("page 16", STATE, x, () -> x.share(1, 15, 0, 0, 2));
    dueRefusal("page 16", STATE, x, () -> x.share(1, 1, 0, 0, 16));
  }

  private static void shareOtherKinds() {
    SheetKernel x = withProcesses(2);
    x.area(0, 0, 2, SHARED);
    x.area(0, 2, 1, PRIVATE);
    x.area(0, 4, 1, CODE);
    dueRefusal("PRIVATE", STATE, x, () -> x.share(1, 0, 0, 2, 1));
    dueRefusal("the last is PRIVATE", STATE, x, () -> x.share(1, 0, 0, 0, 3));
    dueRefusal("CODE", STATE, x, () -> x.share(1, 0, 0, 4, 1));
    dueRefusal("unmapped", STATE, x, () -> x.share(1, 0, 0, 3, 1));
    x.share(1, 0, 0, 0, 2);
    x.free(0, 0, 1);
    dueRefusal("unmapped now", STATE, x, () -> x.share(1, 8, 0, 0, 1));
    x.share(0, 0, 1, 0, 1);
    due("back from the other", x.page(0, 0, 3), 2);
  }

  private static void shareOtherBeyond() {
    SheetKernel x = withProcesses(2);
    x.area(0, 0, 16, SHARED);
    dueRefusal("page 16", STATE, x, () -> x.share(1, 0, 0, 15, 2));
    dueRefusal("page 16", STATE, x, () -> x.share(1, 0, 0, 1, 16));
  }

  private static void shareTooMany() {
    SheetKernel x = withProcesses(3);
    x.area(0, 0, 2, SHARED);
    for (int i = 2; i < 16; i++) x.share(0, i, 0, 0, 1);
    x.share(1, 0, 0, 2, 3);
    due("18", x.page(0, 0, 3), 18);
    dueRefusal("three more at once", STATE, x, () -> x.share(2, 0, 0, 2, 3));
    dueRefusal("three more, and one of another sheet", STATE, x, () -> x.share(2, 0, 0, 0, 4));
    x.share(2, 0, 0, 0, 3);
    due("two more at once, and one of another sheet", x.page(0, 0, 3), 20);
    due("the other sheet", x.page(0, 1, 3), 2);
    dueRefusal("one more", STATE, x, () -> x.share(2, 8, 0, 0, 1));
    x.share(2, 8, 0, 1, 1);
    due("the other sheet", x.page(0, 1, 3), 3);
    x.exit(1);
    due("17", x.page(0, 0, 3), 17);
    x.share(2, 9, 0, 2, 3);
    due("20", x.page(0, 0, 3), 20);
    due("broken", x.broken(), 0);
  }

  private static void shareWithItself() {
    SheetKernel x = withArea(8, SHARED);
    x.share(0, 8, 0, 0, 8);
    due("all", x.about(0, 10), 16);
    x.write(0, 127, 5);
    due("the same sheet", x.read(0, 63), 5);
    SheetKernel y = withArea(4, SHARED);
    dueRefusal("onto itself", STATE, y, () -> y.share(0, 0, 0, 0, 1));
    dueRefusal("over its end", STATE, y, () -> y.share(0, 4, 0, 2, 3));
    dueRefusal("over its start", STATE, y, () -> y.share(0, 3, 0, 0, 2));
    y.share(0, 4, 0, 0, 4);
    y.share(0, 8, 0, 4, 1);
    due("of one that was shared", y.page(0, 0, 3), 3);
  }

  private static void freePages() {
    SheetKernel x = withArea(16, PRIVATE);
    x.free(0, 0, 1);
    due("the first", mapped(x, 0), 0xFFFE);
    x.free(0, 15, 1);
    due("the last", mapped(x, 0), 0x7FFE);
    x.free(0, 3, 2);
    due("two", mapped(x, 0), 0x7FE6);
    SheetKernel y = withArea(16, PRIVATE);
    fill(y, 0, 0, 16);
    y.free(0, 0, 16);
    due("all", mapped(y, 0), 0);
    due("frames", y.frame(-1), 10);
    due("slots", y.slots(-1), 24);
    due("it lives", y.about(0, 1), 1);
    due("faults stay", y.about(0, 7), 16);
  }

  private static void freeCount() {
    SheetKernel x = withArea(16, PRIVATE);
    for (int c : OFF_COUNT) dueRefusal("count " + c, ARGUMENT, x, () -> x.free(0, 0, c));
    dueRefusal("17 of the last page", ARGUMENT, x, () -> x.free(0, 15, 17));
    x.free(0, 0, 16);
    due("16", x.about(0, 10), 0);
  }

  private static void freeUnmapped() {
    SheetKernel x = withArea(16, PRIVATE);
    x.free(0, 6, 1);
    dueRefusal("the only one", STATE, x, () -> x.free(0, 6, 1));
    dueRefusal("the first", STATE, x, () -> x.free(0, 6, 3));
    dueRefusal("the last", STATE, x, () -> x.free(0, 4, 3));
    dueRefusal("one between", STATE, x, () -> x.free(0, 0, 16));
    x.free(0, 4, 2);
    x.free(0, 7, 2);
    due("up to it, and behind it", mapped(x, 0), 0xFE0F);
  }

  private static void freeBeyond() {
    SheetKernel x = withArea(16, PRIVATE);
    dueRefusal("page 16", STATE, x, () -> x.free(0, 15, 2));
    dueRefusal("page 16", STATE, x, () -> x.free(0, 1, 16));
  }

  // ---- words and instructions

  private static void readWords() {
    SheetKernel x = withArea(16, SHARED);
    for (int a : new int[] {0, 7, 8, 120, 127}) {
      due("absent", x.read(0, a), 0);
      x.write(0, a, a + 1);
    }
    for (int a : new int[] {0, 7, 8, 120, 127}) due("written", x.read(0, a), a + 1);
    due("beside them", x.read(0, 1) + x.read(0, 9) + x.read(0, 126), 0);
    for (int a : OFF_WORD) dueRefusal("word " + a, INDEX, x, () -> x.read(0, a));
  }

  private static void readRefused() {
    SheetKernel x = withProcesses(1);
    dueRefusal("unmapped", STATE, x, () -> x.read(0, 0));
    dueRefusal("unmapped", STATE, x, () -> x.read(0, 127));
    x.area(0, 0, 1, CODE);
    due("CODE is read", x.read(0, 7), 0);
    dueRefusal("the next page", STATE, x, () -> x.read(0, 8));
  }

  private static void writeWords() {
    SheetKernel x = withArea(16, PRIVATE);
    for (int v : new int[] {0, -1, 1, BIG, SMALL}) {
      x.write(0, 0, v);
      x.write(0, 127, v);
      due("first", x.read(0, 0), v);
      due("last", x.read(0, 127), v);
    }
    for (int a : OFF_WORD) dueRefusal("word " + a, INDEX, x, () -> x.write(0, a, 1));
  }

  private static void writeRefused() {
    SheetKernel x = withProcesses(1);
    x.area(0, 0, 1, PRIVATE);
    x.area(0, 1, 1, CODE);
    x.write(0, 7, 1);
    dueRefusal("CODE", STATE, x, () -> x.write(0, 8, 1));
    dueRefusal("CODE", STATE, x, () -> x.write(0, 15, 1));
    dueRefusal("unmapped", STATE, x, () -> x.write(0, 16, 1));
    due("the words", wordsOf(x, 0, 1), 0, 0, 0, 0, 0, 0, 0, 0);
  }

  private static void loadCode() {
    SheetKernel x = withProcesses(1);
    for (int k = 0; k < 3; k++) {
      x.area(0, 5 * k, 1, k);
      x.load(0, 40 * k, SMALL + k);
      x.load(0, 40 * k + 7, BIG - k);
      due("words", wordsOf(x, 0, 5 * k), SMALL + k, 0, 0, 0, 0, 0, 0, BIG - k);
      due("CHANGED", x.frame(k), 7);
    }
    due("faults", faultsOf(x, 0), 3, 0, 0);
    for (int a : OFF_WORD) dueRefusal("word " + a, INDEX, x, () -> x.load(0, a, 1));
  }

  private static void loadCopies() {
    SheetKernel x = withArea(1, CODE);
    x.load(0, 0, 5);
    x.fork(0);
    x.load(1, 0, 6);
    due("two mappings: a copy", x.page(1, 0, 2), 1);
    due("of the same kind", x.page(1, 0, 0), CODE);
    due("fault", faultsOf(x, 1), 1, 0, 0);
    due("the old word", x.read(0, 0), 5);
    x.load(0, 0, 7);
    due("one mapping: none", x.page(0, 0, 2), 0);
    due("no fault", faultsOf(x, 0), 1, 0, 0);
    SheetKernel y = withPageInSlots(false, CODE);
    y.fork(0);
    y.load(1, 24, 6);
    due("from slots", faultsOf(y, 1), 1, 0, 1);
    due("the old word", y.read(0, 24), filled(3, 0));
    SheetKernel z = withArea(1, SHARED);
    z.fork(0);
    z.load(1, 0, 6);
    due("SHARED: none", z.read(0, 0), 6);
  }

  private static void loadRefused() {
    SheetKernel x = withProcesses(1);
    x.area(0, 3, 1, CODE);
    dueRefusal("unmapped", STATE, x, () -> x.load(0, 23, 1));
    dueRefusal("unmapped", STATE, x, () -> x.load(0, 32, 1));
    x.load(0, 24, 1);
    due("CODE is loaded", x.read(0, 24), 1);
  }

  private static void runSteps() {
    SheetKernel x = withCode(word(1, 0, 0, 1), word(5, 0, 0, 0));
    for (int n : new int[] {0, 1, 2, 199, 200}) due("steps", x.run(0, n), n);
    due("402 steps: even", x.about(0, 2), 0);
    SheetKernel y = withCode(word(1, 0, 0, 1), word(1, 0, 0, 1), 0);
    due("it ends ahead of n", y.run(0, 200), 3);
    SheetKernel z = withCode(word(1, 0, 0, 1), word(1, 0, 0, 1), 0);
    due("it ends with n", z.run(0, 3), 3);
    due("ended", z.about(0, 1), 0);
    SheetKernel w = withCode(word(1, 0, 0, 1), word(1, 0, 0, 1), 0);
    due("n comes first", w.run(0, 2), 2);
    due("lives", w.about(0, 1), 1);
    due("no step, no end", w.run(0, 0), 0);
    due("lives", w.about(0, 1), 1);
  }

  private static void runNumber() {
    SheetKernel x = withCode(word(1, 0, 0, 1), word(5, 0, 0, 0));
    for (int n : new int[] {-1, 201, BIG, SMALL}) dueRefusal("n " + n, ARGUMENT, x, () -> x.run(0, n));
    due("0", x.run(0, 0), 0);
    due("200", x.run(0, 200), 200);
  }

  // ---- the disk and the clock

  private static void slotWrong() {
    SheetKernel x = withPageInSlots(false, PRIVATE);
    for (int k : new int[] {-1, 24, BIG, SMALL}) {
      for (int how = 0; how < 3; how++) {
        int h = how;
        dueRefusal("slot " + k, INDEX, x, () -> x.slot(k, h));
      }
    }
    for (int h : new int[] {-1, 3, BIG, SMALL}) {
      dueRefusal("how " + h, ARGUMENT, x, () -> x.slot(0, h));
      dueRefusal("how " + h, ARGUMENT, x, () -> x.slot(23, h));
    }
    for (int how = 0; how < 3; how++) x.slot(23, how);
    due("slot 23 is free", x.slots(23), 0);
  }

  private static void slotMended() {
    SheetKernel x = withArea(16, PRIVATE);
    x.slot(0, 1);
    fill(x, 0, 0, 11);
    due("BAD", x.slots(0), 2);
    x.slot(0, 0);
    due("free", x.slots(0), 0);
    x.read(0, 88);
    due("and used", x.page(0, 4, 2), 0);
    due("taken", x.slots(0), 1);
    due("its word", x.read(0, 32), filled(4, 0));
  }

  private static void slotFoundAgain() {
    SheetKernel x = withPageInSlots(false, PRIVATE);
    x.slot(0, 2);
    x.slot(0, 0);
    due("taken", x.slots(0), 1);
    due("word", x.read(0, 24), filled(3, 0));
    due("it stays its slot", x.page(0, 3, 5), 0);
  }

  private static void slotGoodAhead() {
    SheetKernel x = withArea(16, PRIVATE);
    x.slot(0, 1);
    x.slot(0, 0);
    fill(x, 0, 0, 11);
    due("used", x.page(0, 3, 2), 0);
    x.slot(0, 1);
    x.slot(0, 0);
    x.free(0, 3, 1);
    x.read(0, 88);
    due("used again", x.page(0, 4, 2), 0);
  }

  private static void slotFails() {
    SheetKernel x = withPageInSlots(false, PRIVATE);
    x.slot(0, 1);
    due("what is in one stays", x.slots(0), 1);
    x.free(0, 9, 1);
    due("and is there", x.read(0, 24), filled(3, 0));
    x.free(0, 3, 1);
    due("free, until it is written", x.slots(0), 0);
    x.area(0, 3, 1, PRIVATE);
    x.read(0, 24);
    x.read(0, 88);
    due("BAD", x.slots(0), 2);
    due("the next one", x.page(0, 4, 2), 1);
    x.slot(0, 1);
    due("BAD still", x.slots(0), 2);
    x.slot(0, 2);
    due("BAD still", x.slots(0), 2);
  }

  private static void slotNothingLost() {
    SheetKernel x = withArea(16, PRIVATE);
    x.slot(0, 2);
    x.slot(1, 1);
    fill(x, 0, 0, 11);
    due("page 3", x.page(0, 3, 2), 0);
    x.read(0, 88);
    due("page 4", x.page(0, 4, 2), 2);
    due("slot 1", x.slots(1), 2);
    x.slot(1, 2);
    x.slot(1, 0);
    x.read(0, 96);
    due("page 5", x.page(0, 5, 2), 1);
    due("it was free", x.read(0, 24), filled(3, 0));
    due("it was BAD", x.read(0, 40), filled(5, 0));
    due("lives", x.about(0, 1), 1);
  }

  private static void tickFree() {
    int[] due = {4, 4, 4, 0, 0, 0, 0, 0, 0, 0, 0};
    for (int free = 0; free <= 10; free++) {
      SheetKernel x = withArea(16, PRIVATE);
      for (int g = 0; g < 10 - free; g++) x.read(0, 8 * g);
      x.tick();
      due("hand, with " + free + " free ones", x.pool(3), due[free]);
      due("frames", x.frame(-1), free);
    }
  }

  private static void tickFour() {
    SheetKernel x = withArea(10, PRIVATE);
    for (int g = 0; g < 10; g++) x.write(0, 8 * g, 1);
    x.tick();
    due("hand", x.pool(3), 4);
    due("the marks of four, and of those 2 beyond", framesOf(x), 5, 5, 5, 5, 5, 5, 5, 7, 7, 7);
    SheetKernel y = withArea(8, PRIVATE);
    for (int g = 0; g < 8; g++) y.read(0, 8 * g);
    y.tick();
    due("with two free ones", framesOf(y), 1, 1, 1, 1, 1, 1, 1, 3, 0, 0);
  }

  private static void tickEmptiesNone() {
    SheetKernel x = withArea(10, PRIVATE);
    for (int g = 0; g < 10; g++) x.read(0, 8 * g);
    for (int i = 1; i <= 6; i++) {
      x.tick();
      due("hand", x.pool(3), 4 * i % 10);
    }
    due("none is free", x.frame(-1), 0);
    due("no bytes", x.pool(0), 0);
    due("no slots", x.slots(-1), 24);
    due("no marks", framesOf(x), 1, 1, 1, 1, 1, 1, 1, 1, 1, 1);
    due("no faults", faultsOf(x, 0), 10, 0, 0);
  }

  private static void tickRound() {
    SheetKernel x = withArea(10, PRIVATE);
    for (int g = 0; g < 10; g++) x.read(0, 8 * g);
    x.tick();
    for (int g = 0; g < 10; g++) x.read(0, 8 * g);
    x.tick();
    due("4 to 7 by the hand, 7 to 0 ahead", framesOf(x), 1, 3, 3, 3, 1, 1, 1, 1, 1, 1);
    due("hand", x.pool(3), 8);
    for (int g = 0; g < 10; g++) x.read(0, 8 * g);
    x.tick();
    due("8 to 1 by the hand, 1 to 4 ahead", framesOf(x), 1, 1, 1, 1, 1, 3, 3, 3, 1, 1);
    due("hand", x.pool(3), 2);
  }

  // ---- what is told

  private static void aboutAll() {
    SheetKernel x = withCode(word(1, 0, 0, 10), word(1, 1, 0, 11), word(1, 2, 0, 12), word(1, 3, 0, 13));
    x.area(0, 4, 3, PRIVATE);
    x.area(0, 8, 2, SHARED);
    x.run(0, 4);
    x.read(0, 32);
    x.write(0, 40, 1);
    x.read(0, 64);
    x.valuable(0, true);
    int[] due = {0, 1, 4, 10, 11, 12, 13, 4, 0, 0, 7, 2, 1};
    for (int w = 0; w <= 12; w++) due("about " + w, x.about(0, w), due[w]);
    SheetKernel y = withPageInSlots(false, PRIVATE);
    due("PRIVATE ones in a slot count", y.about(0, 11), 11);
    SheetKernel z = withPageInPool(PRIVATE);
    due("and in the pool", z.about(0, 11), 11);
  }

  private static void aboutLatest() {
    SheetKernel x = withPageInPool(PRIVATE);
    x.read(0, 24);
    // Frame 4 was emptied for it, to slot 0; then frame 5 for that.
    x.read(0, 32);
    due("each kind", faultsOf(x, 0), 11, 1, 1);
    x.exit(0);
    due("told still", faultsOf(x, 0), 11, 1, 1);
    x.spawn();
    due("anew", faultsOf(x, 0), 0, 0, 0);
    x.area(0, 0, 1, PRIVATE);
    x.read(0, 0);
    x.spawn();
    x.exit(0);
    due("told still", faultsOf(x, 0), 1, 0, 0);
    x.fork(1);
    due("anew by a fork", faultsOf(x, 0), 0, 0, 0);
  }

  private static void aboutNone() {
    SheetKernel x = withProcesses(8);
    x.exit(3);
    for (int w : new int[] {-1, 13, BIG, SMALL}) {
      for (int p = 0; p < 8; p++) due("what " + w, x.about(p, w), -1);
    }
    for (int p : OFF_PROCESS) {
      for (int w = -1; w <= 13; w++) due("number " + p, x.about(p, w), -1);
    }
  }

  private static void aboutEnded() {
    SheetKernel x = withCode(word(1, 0, 0, 10), word(1, 1, 0, 11), word(1, 2, 0, 12), word(1, 3, 0, 13), 0);
    x.area(0, 4, 3, PRIVATE);
    x.read(0, 32);
    x.valuable(0, true);
    due("steps", x.run(0, 9), 5);
    int[] due = {4, 0, 0, 0, 0, 0, 0, 2, 0, 0, 0, 0, 0};
    for (int w = 0; w <= 12; w++) due("about " + w, x.about(0, w), due[w]);
    for (int w = 0; w <= 12; w++) due("of one that never lived " + w, x.about(7, w), 0);
  }

  private static void pageKind() {
    SheetKernel x = withProcesses(1);
    for (int k = 0; k < 3; k++) x.area(0, 5 * k, 1, k);
    int[] due = {0, -1, -1, -1, -1, 1, -1, -1, -1, -1, 2, -1, -1, -1, -1, -1};
    for (int g = 0; g < 16; g++) due("page " + g, x.page(0, g, 0), due[g]);
    x.free(0, 10, 1);
    due("unmapped", x.page(0, 10, 0), -1);
  }

  private static void pagePlaces() {
    SheetKernel x = withArea(16, PRIVATE);
    due("ABSENT", pageOf(x, 0, 0), 0, ABSENT, -1, 1, -1, -1);
    x.write(0, 0, 1);
    due("frame 0", pageOf(x, 0, 0), 0, FRAME, 0, 1, -1, -1);
    fill(x, 0, 1, 2);
    x.write(0, 24, 1);
    x.write(0, 32, 300);
    fill(x, 0, 5, 8);
    // Emptied by now, in turn: the frames 3 (4 bytes), 4 (5 bytes) and 5.
    due("first byte 0", pageOf(x, 0, 3), 0, POOL, 0, 1, -1, -1);
    due("first byte 4", pageOf(x, 0, 4), 0, POOL, 4, 1, -1, -1);
    due("slot 0", pageOf(x, 0, 5), 0, SLOTS, 0, 1, -1, -1);
    due("frame 9", pageOf(x, 0, 9), 0, FRAME, 9, 1, -1, -1);
  }

  private static void pageMappings() {
    SheetKernel x = withArea(2, SHARED);
    due("one", x.page(0, 0, 3), 1);
    x.share(0, 2, 0, 0, 1);
    due("two", x.page(0, 0, 3), 2);
    x.fork(0);
    due("four", x.page(1, 2, 3), 4);
    due("two", x.page(1, 1, 3), 2);
    x.exit(0);
    due("two", x.page(1, 0, 3), 2);
    x.free(1, 0, 1);
    due("one", x.page(1, 2, 3), 1);
  }

  private static void pageSlots() {
    SheetKernel x = withPageInSlots(true, PRIVATE);
    due("in slots: both", pageOf(x, 0, 3), 0, SLOTS, 0, 1, 1, -1);
    x.read(0, 24);
    due("in a frame: both", pageOf(x, 0, 3), 0, FRAME, 4, 1, 1, 0);
    x.write(0, 24, 1);
    due("in a frame: none", pageOf(x, 0, 3), 0, FRAME, 4, 1, -1, -1);
    SheetKernel y = withPageInSlots(false, PRIVATE);
    due("in slots: one", pageOf(y, 0, 3), 0, SLOTS, 0, 1, -1, -1);
    y.read(0, 24);
    due("in a frame: one", pageOf(y, 0, 3), 0, FRAME, 4, 1, -1, 0);
  }

  private static void pageNone() {
    SheetKernel x = withArea(15, PRIVATE);
    for (int w : new int[] {-1, 6, BIG, SMALL}) due("what " + w, x.page(0, 0, w), -1);
    for (int w = -1; w <= 6; w++) {
      for (int g : OFF_PAGE) due("page " + g, x.page(0, g, w), -1);
      for (int p : OFF_PROCESS) due("process " + p, x.page(p, 0, w), -1);
      due("unmapped", x.page(0, 15, w), -1);
      due("lives not", x.page(1, 0, w), -1);
    }
    x.exit(0);
    for (int w = -1; w <= 6; w++) due("ended", x.page(0, 0, w), -1);
  }

  private static void frameCount() {
    SheetKernel x = withArea(11, PRIVATE);
    for (int g = 0; g < 11; g++) {
      due("free", x.frame(-1), g < 10 ? 10 - g : 0);
      x.read(0, 8 * g);
    }
    due("none", x.frame(-1), 0);
    x.exit(0);
    due("all", x.frame(-1), 10);
  }

  private static void frameMarks() {
    SheetKernel x = withArea(10, PRIVATE);
    for (int g = 0; g < 9; g++) {
      if (g % 2 == 0) x.read(0, 8 * g);
      else x.write(0, 8 * g, 1);
    }
    due("read and written", framesOf(x), 3, 7, 3, 7, 3, 7, 3, 7, 3, 0);
    x.tick();
    x.tick();
    due("not USED", framesOf(x), 1, 5, 1, 5, 1, 5, 1, 5, 1, 0);
    x.read(0, 8);
    x.write(0, 0, 1);
    due("USED again", framesOf(x), 7, 7, 1, 5, 1, 5, 1, 5, 1, 0);
    x.free(0, 1, 1);
    due("free", x.frame(1), 0);
    x.read(0, 72);
    due("the old marks are gone", x.frame(1), 3);
  }

  private static void frameNone() {
    SheetKernel x = withArea(10, PRIVATE);
    for (int g = 0; g < 10; g++) x.read(0, 8 * g);
    for (int k : new int[] {-2, 10, BIG, SMALL}) due("frame " + k, x.frame(k), -1);
    due("frame 9", x.frame(9), 3);
  }

  private static void slotStates() {
    SheetKernel x = withArea(16, PRIVATE);
    due("all", x.slots(-1), 24);
    x.slot(1, 1);
    due("one that fails is free until then", x.slots(-1), 24);
    fill(x, 0, 0, 12);
    int[] due = {1, 2, 1, 0};
    for (int k = 0; k < 4; k++) due("slot " + k, x.slots(k), due[k]);
    due("neither taken nor BAD", x.slots(-1), 21);
    x.slot(0, 2);
    due("a LOST one is taken", x.slots(0), 1);
    x.exit(0);
    due("but the BAD one", x.slots(-1), 23);
  }

  private static void slotsNone() {
    SheetKernel x = new SheetKernel();
    for (int k : new int[] {-2, 24, BIG, SMALL}) due("slot " + k, x.slots(k), -1);
    due("slot 23", x.slots(23), 0);
  }

  private static void poolTold() {
    SheetKernel x = withFullArena();
    due("full", x.pool(0), 64);
    due("sheets", x.pool(1), 4);
    due("row", x.pool(2), 0);
    x.free(0, 4, 1);
    due("48", x.pool(0), 48);
    due("three", x.pool(1), 3);
    due("row", x.pool(2), 16);
    x.free(0, 6, 1);
    due("rows apart", x.pool(2), 16);
    x.free(0, 5, 1);
    due("one row, to the end", x.pool(2), 48);
    x.free(0, 3, 1);
    due("all", x.pool(2), 64);
    due("none", x.pool(0), 0);
    due("none", x.pool(1), 0);
  }

  private static void poolHand() {
    SheetKernel x = withArea(16, PRIVATE);
    due("at first", x.pool(3), 0);
    for (int g = 0; g < 16; g++) x.write(0, 8 * g, 1);
    due("behind frame 8", x.pool(3), 9);
    x.read(0, 24);
    due("behind frame 9", x.pool(3), 0);
    x.exit(0);
    due("an end leaves it", x.pool(3), 0);
  }

  private static void poolNone() {
    SheetKernel x = new SheetKernel();
    for (int w : new int[] {-1, 4, BIG, SMALL}) due("what " + w, x.pool(w), -1);
  }

  private static void nothingBroken() {
    due("a new object", new SheetKernel().broken(), 0);
    due("a full arena", withFullArena().broken(), 0);
    SheetKernel x = withPageInSlots(true, PRIVATE);
    due("two slots", x.broken(), 0);
    x.fork(0);
    due("a fork", x.broken(), 0);
    x.write(1, 24, 1);
    due("a copy", x.broken(), 0);
    x.slot(0, 2);
    x.read(0, 24);
    due("a LOST one", x.broken(), 0);
    x.exit(0);
    due("an end", x.broken(), 0);
    x.free(1, 0, 16);
    due("all unmapped", x.broken(), 0);
    SheetKernel y = withProcesses(8);
    for (int p = 0; p < 8; p++) y.area(p, 0, 16, SHARED);
    due("128 sheets", y.broken(), 0);
    for (int p = 0; p < 8; p++) y.exit(p);
    due("none", y.broken(), 0);
  }
}
