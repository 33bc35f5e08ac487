/** A test of its own for each sentence of the document's Terms that names a boundary case; it bears the sentence's words. */
public final class TermsEdgesTest extends Checks {
  public static void main(String[] args) {
    processesAndSheets();
    framesPoolAndSlots();
    touching();
    copying();
    finding();
    emptying();
    ending();
    instructions();
    forking();
    finish();
  }

  private static void processesAndSheets() {
    test("at most 512 calls after it has been made", TermsEdgesTest::lastCall);
    test("PROCESSES 0 .. 7", TermsEdgesTest::processNumbers);
    test("a process that lives has 16 pages", TermsEdgesTest::sixteenPages);
    test("word address 8 * page + place, 0 .. 127", TermsEdgesTest::addresses);
    test("each UNMAPPED or MAPPED by a KIND", TermsEdgesTest::kinds);
    test("four registers, a COUNTER, all 0 at first", TermsEdgesTest::zeroRegisters);
    test("a sheet has 8 words, 0 at first", TermsEdgesTest::zeroWords);
    test("counts its MAPPINGS, at most 20", TermsEdgesTest::mostMappings);
    test("without any it is gone, with all that it had", TermsEdgesTest::goneSheets);
    test("ABSENT (never touched: all words are 0)", TermsEdgesTest::absent);
  }

  private static void framesPoolAndSlots() {
    test("FRAMES 0 .. 9", TermsEdgesTest::tenFrames);
    test("a sheet in a frame that is not CHANGED may have its slots still", TermsEdgesTest::slotsStill);
    test("1 byte and 1, 2 or 4 more", TermsEdgesTest::bytesOfWords);
    test("each longest run of equal words", TermsEdgesTest::runsOfWords);
    test("packs if that is at most 16 bytes in all", TermsEdgesTest::mostPacked);
    test("an ARENA of 64 bytes", TermsEdgesTest::fullArena);
    test("the lowest ones that are not taken", TermsEdgesTest::lowestBytes);
    test("in one row", TermsEdgesTest::oneRow);
    test("SLOTS 0 .. 23", TermsEdgesTest::allSlots);
    test("the last slot", TermsEdgesTest::lastSlot);
    test("a slot may FAIL at writing: BAD, noticed at once", TermsEdgesTest::failingSlot);
    test("LOST (until it is free): by a write", TermsEdgesTest::lostUntilWritten);
    test("LOST (until it is free): by an end", TermsEdgesTest::lostUntilEnded);
  }

  private static void touching() {
    test("it must be mapped: else REFUSED", TermsEdgesTest::refusedUnmapped);
    test("and not CODE when it is to be written", TermsEdgesTest::refusedCode);
    test("from ABSENT a fault of kind 0", TermsEdgesTest::faultOfAbsent);
    test("from the pool of kind 1", TermsEdgesTest::faultOfPool);
    test("its bytes are free behind the frame's being found", TermsEdgesTest::bytesFreeBehind);
    test("from slots of kind 2 (they stay its slots)", TermsEdgesTest::faultOfSlots);
    test("but one that is LOST, which is free then", TermsEdgesTest::lostOneOfTwo);
    test("if all of its slots are LOST, the process ENDS", TermsEdgesTest::allLost);
    test("ahead of all else (no fault is counted)", TermsEdgesTest::lostAheadOfAll);
    test("REFUSED comes ahead of LOST", TermsEdgesTest::refusedAheadOfLost);
    test("a fault is counted ahead of what it needs", TermsEdgesTest::faultAhead);
    test("the frame is USED then", TermsEdgesTest::usedThen);
    test("when written, CHANGED, and the slots are free again", TermsEdgesTest::writtenFreesSlots);
  }

  private static void copying() {
    test("to write a PRIVATE page with more than one mapping", TermsEdgesTest::copyOfTwo);
    test("SHARED pages are not copied", TermsEdgesTest::noCopyOfShared);
    test("brought in a frame if it is not ABSENT", TermsEdgesTest::copyOfAbsent);
    test("counted behind the other one: from the pool", TermsEdgesTest::copyFromPool);
    test("counted behind the other one: from slots", TermsEdgesTest::copyFromSlots);
    test("the hand goes on over the old one's frame: USED", TermsEdgesTest::handOverUsed);
    test("the hand goes on over the old one's frame: not USED", TermsEdgesTest::handOverUnused);
    test("which keeps its marks: 2 beyond the hand", TermsEdgesTest::keptBeyond);
    test("it counts among the 20", TermsEdgesTest::keptCounts);
    test("if the process ends on the way: bringing in", TermsEdgesTest::endBringingIn);
    test("if the process ends on the way: copying", TermsEdgesTest::endCopying);
    test("a copy of what is LOST", TermsEdgesTest::copyOfLost);
    test("the other mapping's process ends on the way", TermsEdgesTest::otherEndsCopying);
  }

  private static void finding() {
    test("a frame is found: the lowest free one", TermsEdgesTest::lowestFree);
    test("the HAND (at frame 0 at first)", TermsEdgesTest::firstHand);
    test("USED: the mark goes; else emptied and taken", TermsEdgesTest::handTakesMarks);
    test("behind 9 comes 0; 2 beyond that (modulo 10)", TermsEdgesTest::handRound);
    test("found in the second round of the hand", TermsEdgesTest::foundThirteenth);
    test("after 20 frames without one OUT OF MEMORY", TermsEdgesTest::twentyFrames);
    test("if it is not the one that touches, all begins anew", TermsEdgesTest::beginsAnew);
    test("anew, and again", TermsEdgesTest::beginsAnewTwice);
    test("anew, until none is left", TermsEdgesTest::beginsAnewToTheLast);
    test("anew, by slots that are free now", TermsEdgesTest::beginsAnewWithSlots);
    test("else nothing more is done", TermsEdgesTest::nothingMore);
  }

  private static void emptying() {
    test("(1) to its slots, though it packs", TermsEdgesTest::slotsAheadOfPool);
    test("(1) to its slots, though they are LOST", TermsEdgesTest::toLostSlots);
    test("(2) to the pool, if it PACKS and there is room", TermsEdgesTest::toPool);
    test("(2) to the pool, though VALUABLE", TermsEdgesTest::valuableToPool);
    test("(3) to a slot, the lowest one that is free", TermsEdgesTest::lowestSlot);
    test("(3) again and again, while it fails at writing", TermsEdgesTest::againAndAgain);
    test("(3) a second one, if a process with a mapping is VALUABLE", TermsEdgesTest::secondSlot);
    test("a mapping by any page of any process", TermsEdgesTest::anyMapping);
    test("(3) the second one likewise", TermsEdgesTest::secondLikewise);
    test("(3) a second one, if there is one", TermsEdgesTest::noSecond);
    test("if there is none at all it can't", TermsEdgesTest::cant);
  }

  private static void ending() {
    test("who ends: the most PRIVATE pages", TermsEdgesTest::mostPages);
    test("of several the highest number", TermsEdgesTest::highestNumber);
    test("whose sheets are not ABSENT", TermsEdgesTest::absentCountNot);
    test("SHARED and CODE count not", TermsEdgesTest::othersCountNot);
    test("if no process has any, it is the one that touches", TermsEdgesTest::noneHasAny);
    test("lives no more; its pages are unmapped", TermsEdgesTest::livesNoMore);
    test("its REASON: 0 if it lives, or never did", TermsEdgesTest::reasons);
    test("its REASON is told until its number is used again", TermsEdgesTest::reasonUntil);
  }

  private static void instructions() {
    test("the highest 8 bits what", TermsEdgesTest::whatBits);
    test("2 bits r, 2 bits s, 4 that are left out", TermsEdgesTest::registerBits);
    test("n, a number from -32768 to 32767", TermsEdgesTest::numberEdges);
    test("a STEP reads the word at the counter (a touch)", TermsEdgesTest::stepTouches);
    test("the counter goes on by one", TermsEdgesTest::counterGoesOn);
    test("2: the word at address s + n", TermsEdgesTest::fetchEdges);
    test("3: the word at s + n becomes r", TermsEdgesTest::storeEdges);
    test("3: a touch to write, that may copy", TermsEdgesTest::storeCopies);
    test("4: r becomes r + s + n, wrapping around", TermsEdgesTest::sumWraps);
    test("5: if r is not 0", TermsEdgesTest::jumps);
    test("6: the new number, or -1 without one; in that one -2", TermsEdgesTest::forkInstruction);
    test("if a touch is refused, the process ends (3)", TermsEdgesTest::refusedSteps);
    test("or it is another word", TermsEdgesTest::otherWords);
    test("the step at which a process ends counts", TermsEdgesTest::lastStepCounts);
    test("(also by OUT OF MEMORY)", TermsEdgesTest::lastStepByMemory);
  }

  private static void forking() {
    test("the lowest number that does not live", TermsEdgesTest::lowestNumber);
    test("the same registers and counter, not VALUABLE", TermsEdgesTest::sameRegisters);
    test("the same sheet by the same kind", TermsEdgesTest::sameSheets);
    test("there is none if all 8 live", TermsEdgesTest::allEightLive);
    test("or a sheet has 20 mappings", TermsEdgesTest::hasTwenty);
    test("(or would come to more)", TermsEdgesTest::wouldComeToMore);
    test("exceptions, in this order", TermsEdgesTest::orderOfExceptions);
    test("only the last one leaves something changed", TermsEdgesTest::onlyTheLast);
    test("UnsupportedOperationException: the process, not another one", TermsEdgesTest::anotherEnded);
  }

  // ---- processes and sheets

  private static void lastCall() {
    SheetKernel x = withArea(16, PRIVATE);
    for (int i = 0; i < 255; i++) {
      x.write(0, i * 5 % 128, 1000003 * i);
      due("read", x.read(0, i * 5 % 128), 1000003 * i);
    }
    SheetKernel y = withCode(word(1, 0, 0, 1), word(5, 0, 0, 0));
    for (int i = 4; i < 512; i++) due("run", y.run(0, 200), 200);
  }

  private static void processNumbers() {
    SheetKernel x = withProcesses(8);
    for (int p : new int[] {0, 7}) {
      x.area(p, 0, 3, SHARED);
      x.write(p, 0, p + 1);
      x.load(p, 1, p + 2);
      x.free(p, 2, 1);
      x.valuable(p, true);
      due("read", x.read(p, 1), p + 2);
      due("run", x.run(p, 0), 0);
      due("about", x.about(p, 12), 1);
      due("page", x.page(p, 0, 0), SHARED);
    }
    x.share(0, 8, 7, 0, 1);
    x.share(7, 8, 0, 0, 1);
    due("of 7", x.read(0, 64), 8);
    due("of 0", x.read(7, 64), 1);
    x.exit(7);
    due("fork", x.fork(0), 7);
    for (int p : OFF_PROCESS) refusesProcess(x, p);
    x.exit(7);
    refusesProcess(x, 7);
    x.exit(0);
    refusesProcess(x, 0);
  }

  private static void refusesProcess(SheetKernel x, int p) {
    String which = " of " + p;
    dueRefusal("area" + which, INDEX, x, () -> x.area(p, 12, 1, PRIVATE));
    dueRefusal("share" + which, INDEX, x, () -> x.share(p, 12, 1, 0, 1));
    dueRefusal("share from" + which, INDEX, x, () -> x.share(1, 12, p, 0, 1));
    dueRefusal("free" + which, INDEX, x, () -> x.free(p, 0, 1));
    dueRefusal("fork" + which, INDEX, x, () -> x.fork(p));
    dueRefusal("exit" + which, INDEX, x, () -> x.exit(p));
    dueRefusal("read" + which, INDEX, x, () -> x.read(p, 0));
    dueRefusal("write" + which, INDEX, x, () -> x.write(p, 0, 1));
    dueRefusal("load" + which, INDEX, x, () -> x.load(p, 0, 1));
    dueRefusal("run" + which, INDEX, x, () -> x.run(p, 1));
    dueRefusal("valuable" + which, INDEX, x, () -> x.valuable(p, true));
  }

  private static void sixteenPages() {
    SheetKernel x = withArea(16, PRIVATE);
    due("mapped", x.about(0, 10), 16);
    due("last", x.page(0, 15, 0), PRIVATE);
    due("behind the last", x.page(0, 16, 0), -1);
    due("ahead of the first", x.page(0, -1, 0), -1);
    x.free(0, 15, 1);
    x.area(0, 15, 1, SHARED);
    due("last again", x.page(0, 15, 0), SHARED);
    for (int g : OFF_PAGE) {
      dueRefusal("area " + g, INDEX, x, () -> x.area(0, g, 1, PRIVATE));
      dueRefusal("free " + g, INDEX, x, () -> x.free(0, g, 1));
      dueRefusal("share " + g, INDEX, x, () -> x.share(0, g, 0, 15, 1));
      dueRefusal("share from " + g, INDEX, x, () -> x.share(0, 15, 0, g, 1));
    }
  }

  private static void addresses() {
    SheetKernel x = withArea(16, PRIVATE);
    x.write(0, 7, 5);
    due("page 0", x.page(0, 0, 1), FRAME);
    due("page 1", x.page(0, 1, 1), ABSENT);
    x.write(0, 8, 6);
    due("page 1", x.page(0, 1, 1), FRAME);
    x.write(0, 127, 7);
    due("page 15", x.page(0, 15, 1), FRAME);
    due("words of 0", wordsOf(x, 0, 0), 0, 0, 0, 0, 0, 0, 0, 5);
    due("words of 1", wordsOf(x, 0, 1), 6, 0, 0, 0, 0, 0, 0, 0);
    due("words of 15", wordsOf(x, 0, 15), 0, 0, 0, 0, 0, 0, 0, 7);
    for (int a : OFF_WORD) {
      dueRefusal("read " + a, INDEX, x, () -> x.read(0, a));
      dueRefusal("write " + a, INDEX, x, () -> x.write(0, a, 1));
      dueRefusal("load " + a, INDEX, x, () -> x.load(0, a, 1));
    }
  }

  private static void kinds() {
    SheetKernel x = withProcesses(1);
    due("unmapped", pageOf(x, 0, 0), -1, -1, -1, -1, -1, -1);
    for (int k = 0; k < 3; k++) {
      x.area(0, k, 1, k);
      due("kind", x.page(0, k, 0), k);
    }
    due("mapped", x.about(0, 10), 3);
  }

  private static void zeroRegisters() {
    SheetKernel x = withProcesses(1);
    for (int w = 2; w <= 6; w++) due("at first", x.about(0, w), 0);
    x.area(0, 0, 1, PRIVATE);
    for (int r = 0; r < 4; r++) x.write(0, r, word(1, r, 0, 7 + r));
    x.run(0, 4);
    for (int r = 0; r < 4; r++) due("register", x.about(0, 3 + r), 7 + r);
    x.exit(0);
    x.spawn();
    for (int w = 2; w <= 6; w++) due("of a new one by that number", x.about(0, w), 0);
  }

  private static void zeroWords() {
    SheetKernel x = withArea(1, PRIVATE);
    for (int i = 0; i < 8; i++) x.write(0, i, i + 1);
    x.free(0, 0, 1);
    x.area(0, 0, 1, PRIVATE);
    due("behind one in a frame", wordsOf(x, 0, 0), 0, 0, 0, 0, 0, 0, 0, 0);
    SheetKernel y = withPageInPool(PRIVATE);
    y.free(0, 3, 1);
    y.area(0, 3, 1, PRIVATE);
    due("behind one in the pool", wordsOf(y, 0, 3), 0, 0, 0, 0, 0, 0, 0, 0);
    SheetKernel z = withPageInSlots(false, PRIVATE);
    z.free(0, 3, 1);
    z.area(0, 3, 1, PRIVATE);
    due("behind one in a slot", wordsOf(z, 0, 3), 0, 0, 0, 0, 0, 0, 0, 0);
  }

  private static void mostMappings() {
    SheetKernel x = withProcesses(3);
    x.area(0, 0, 1, SHARED);
    for (int i = 1; i < 16; i++) x.share(0, i, 0, 0, 1);
    due("sixteen", x.page(0, 0, 3), 16);
    x.share(1, 0, 0, 0, 4);
    due("twenty", x.page(0, 0, 3), 20);
    due("of each page", x.page(1, 3, 3), 20);
    dueRefusal("one more", STATE, x, () -> x.share(2, 0, 1, 0, 1));
    x.free(0, 7, 1);
    due("nineteen", x.page(0, 0, 3), 19);
    x.share(2, 0, 1, 0, 1);
    due("twenty again", x.page(2, 0, 3), 20);
    due("broken", x.broken(), 0);
  }

  private static void goneSheets() {
    SheetKernel x = withArea(1, SHARED);
    x.write(0, 0, 5);
    x.share(0, 1, 0, 0, 1);
    x.free(0, 0, 1);
    due("one mapping is left", x.frame(0), 7);
    due("words", x.read(0, 8), 5);
    x.free(0, 1, 1);
    due("its frame is free", x.frame(0), 0);
    due("ten are", x.frame(-1), 10);
    SheetKernel y = withPageInPool(PRIVATE);
    due("bytes", y.pool(0), 4);
    y.free(0, 3, 1);
    due("its bytes are free", y.pool(0), 0);
    due("no sheet", y.pool(1), 0);
    SheetKernel z = withPageInSlots(true, PRIVATE);
    due("slots", z.slots(-1), 22);
    z.free(0, 3, 1);
    due("its slots are free", z.slots(-1), 24);
    SheetKernel w = withPageInSlots(true, PRIVATE);
    w.read(0, 24);
    due("in a frame, with slots", pageOf(w, 0, 3), 0, FRAME, 4, 1, 1, 0);
    w.free(0, 3, 1);
    due("frame", w.frame(4), 0);
    due("lower slot", w.slots(0), 0);
    due("other slot", w.slots(1), 0);
    due("broken", w.broken(), 0);
  }

  private static void absent() {
    SheetKernel x = withArea(3, CODE);
    due("at first", pageOf(x, 0, 0), CODE, ABSENT, -1, 1, -1, -1);
    dueThrow("refused", STATE, () -> x.write(0, 0, 1));
    due("no touch", x.page(0, 0, 1), ABSENT);
    due("read", x.read(0, 7), 0);
    due("touched to be read", x.page(0, 0, 1), FRAME);
    x.load(0, 8, 0);
    due("touched to be written, though by 0", x.page(0, 1, 1), FRAME);
    due("the third", x.page(0, 2, 1), ABSENT);
  }

  // ---- frames, pool and slots

  private static void tenFrames() {
    SheetKernel x = withArea(16, PRIVATE);
    for (int g = 0; g < 10; g++) {
      due("free", x.frame(g), 0);
      due("how many", x.frame(-1), 10 - g);
      x.read(0, 8 * g);
      due("frame", x.page(0, g, 2), g);
    }
    due("none is free", x.frame(-1), 0);
    x.read(0, 80);
    due("the eleventh sheet has another's", x.page(0, 10, 2), 3);
    due("which packs", x.page(0, 3, 1), POOL);
    due("frame 10", x.frame(10), -1);
  }

  private static void slotsStill() {
    SheetKernel x = withPageInSlots(false, PRIVATE);
    x.read(0, 24);
    due("in a frame", pageOf(x, 0, 3), 0, FRAME, 4, 1, -1, 0);
    due("not CHANGED", x.frame(4), 3);
    due("taken", x.slots(0), 1);
    x.read(0, 25);
    due("still", x.page(0, 3, 5), 0);
  }

  /** Page 3 is the first that the hand empties. */
  private static void packs(String what, int bytes, int... words) {
    SheetKernel x = withArea(16, PRIVATE);
    for (int g = 0; g < 10; g++) {
      for (int i = 0; i < 8; i++) x.write(0, 8 * g + i, words[i]);
    }
    x.read(0, 80);
    due(what + ", place", x.page(0, 3, 1), bytes > 0 ? POOL : SLOTS);
    due(what + ", bytes", x.pool(0), bytes);
    due(what + ", row", x.pool(2), 64 - bytes);
    due(what + ", words", wordsOf(x, 0, 3), words);
  }

  private static void packsEqual(int bytes, int... words) {
    for (int w : words) packs("eight times " + w, bytes, w, w, w, w, w, w, w, w);
  }

  private static void bytesOfWords() {
    packsEqual(2, 0, 1, -1, 127, -128);
    packsEqual(3, 128, -129, 255, 256, 32767, -32768);
    packsEqual(5, 32768, -32769, 65535, 65536, BIG, SMALL);
  }

  private static void runsOfWords() {
    packs("two runs", 4, 1, 1, 1, 1, 2, 2, 2, 2);
    packs("the last word is another", 4, 1, 1, 1, 1, 1, 1, 1, 2);
    packs("the first word is another", 4, 1, 2, 2, 2, 2, 2, 2, 2);
    packs("equal words that are apart", 6, 1, 1, 1, 2, 2, 1, 1, 1);
    packs("no run but of one", 16, 1, 2, 1, 2, 1, 2, 1, 2);
    packs("runs of each size", 10, 5, 5, 500, 500, 500, 50000, 50000, 50000);
  }

  private static void mostPacked() {
    packs("15", 15, 70000, 70000, 70000, 80000, 80000, 80000, 90000, 90000);
    packs("16, of eight runs", 16, 1, 2, 3, 4, 5, 6, 7, 8);
    packs("16, of four runs", 16, 70000, 80000, 300, 300, 400, 400, 400, 400);
    packs("17, of eight runs", 0, 1, 2, 3, 4, 5, 6, 7, 800);
    packs("17, of four runs", 0, 70000, 80000, 90000, 0, 0, 0, 0, 0);
    packs("40", 0, SMALL, BIG, SMALL, BIG, SMALL, BIG, SMALL, BIG);
  }

  private static void fullArena() {
    SheetKernel x = withFullArena();
    due("bytes", x.pool(0), 64);
    due("sheets", x.pool(1), 4);
    due("no row", x.pool(2), 0);
    for (int g = 3; g < 7; g++) due("first byte", x.page(0, g, 2), 16 * (g - 3));
    due("no room for the next", x.page(0, 7, 1), SLOTS);
    x.free(0, 6, 1);
    due("row", x.pool(2), 16);
    x.area(0, 6, 1, PRIVATE);
    x.read(0, 48);
    due("room for just 16 bytes, up to byte 63", x.page(0, 9, 2), 48);
    due("full again", x.pool(2), 0);
    due("broken", x.broken(), 0);
  }

  private static void lowestBytes() {
    SheetKernel x = withFullArena();
    x.free(0, 5, 2);
    x.free(0, 3, 1);
    due("longest row", x.pool(2), 32);
    x.area(0, 3, 1, PRIVATE);
    x.read(0, 24);
    due("the lower row, though the other is longer", pageOf(x, 0, 9), 0, POOL, 0, 1, -1, -1);
    due("longest row", x.pool(2), 32);
    due("bytes", x.pool(0), 32);
  }

  private static void oneRow() {
    SheetKernel x = withArea(16, PRIVATE);
    for (int g = 0; g < 10; g++) {
      // The pages 3 and 5 take 8 bytes each, the page between them 16, all others of the first ones too.
      int runs = g == 3 || g == 5 ? 4 : 8;
      for (int i = 0; i < runs - 1; i++) x.write(0, 8 * g + i, g + 1 + i);
    }
    for (int g = 10; g < 15; g++) x.read(0, 8 * g);
    due("bytes", x.pool(0), 64);
    due("page 5", x.page(0, 5, 2), 24);
    due("page 7", x.page(0, 7, 2), 48);
    x.free(0, 3, 1);
    x.free(0, 5, 1);
    due("16 bytes are free", x.pool(0), 48);
    due("but not in one row", x.pool(2), 8);
    x.read(0, 120);
    due("so page 8 goes to a slot", pageOf(x, 0, 8), 0, SLOTS, 0, 1, -1, -1);
  }

  private static SheetKernel withAllSlotsTaken() {
    SheetKernel x = withProcesses(3);
    for (int p = 0; p < 3; p++) x.area(p, 0, 16, PRIVATE);
    fill(x, 0, 0, 16);
    fill(x, 1, 0, 16);
    fill(x, 2, 0, 2);
    return x;
  }

  private static void allSlots() {
    SheetKernel x = withAllSlotsTaken();
    due("none is free", x.slots(-1), 0);
    for (int k = 0; k < 24; k++) due("taken", x.slots(k), 1);
    for (int p = 0; p < 3; p++) due("lives", x.about(p, 1), 1);
    due("slot 24", x.slots(24), -1);
    x.write(2, 16, 1);
    due("one sheet more is too many", x.about(1, 0), 1);
    due("broken", x.broken(), 0);
  }

  private static void lastSlot() {
    SheetKernel x = withArea(16, PRIVATE);
    failSlots(x, 0, 22);
    fill(x, 0, 0, 11);
    due("page 3", pageOf(x, 0, 3), 0, SLOTS, 23, 1, -1, -1);
    due("slot 22", x.slots(22), 2);
    due("slot 23", x.slots(23), 1);
    due("none is free", x.slots(-1), 0);
    due("lives", x.about(0, 1), 1);
  }

  private static void failingSlot() {
    SheetKernel x = withArea(16, PRIVATE);
    x.slot(0, 1);
    fill(x, 0, 0, 10);
    due("not BAD ahead of the first time", x.slots(0), 0);
    due("free", x.slots(-1), 24);
    x.read(0, 80);
    due("BAD", x.slots(0), 2);
    due("noticed at once: the next one has it", x.page(0, 3, 2), 1);
    due("free", x.slots(-1), 22);
    due("nothing is lost", x.read(0, 24), filled(3, 0));
    x.exit(0);
    due("BAD for good", x.slots(0), 2);
    due("free", x.slots(-1), 23);
  }

  private static void lostUntilWritten() {
    SheetKernel x = withPageInSlots(false, PRIVATE);
    x.read(0, 24);
    x.slot(0, 2);
    x.write(0, 24, 9000000);
    due("free", x.slots(0), 0);
    x.read(0, 88);
    // Frame 5 was the next to be emptied.
    due("taken anew", pageOf(x, 0, 5), 0, SLOTS, 0, 1, -1, -1);
    due("not LOST", x.read(0, 40), filled(5, 0));
  }

  private static void lostUntilEnded() {
    SheetKernel x = withPageInSlots(false, PRIVATE);
    x.slot(0, 2);
    x.exit(0);
    due("free", x.slots(0), 0);
    x.spawn();
    x.area(0, 0, 16, PRIVATE);
    // The hand is at 4 still: 4, 5 and 6 lose their marks to it, and 7 is emptied.
    fill(x, 0, 0, 11);
    due("taken anew", pageOf(x, 0, 7), 0, SLOTS, 0, 1, -1, -1);
    due("not LOST", x.read(0, 56), filled(7, 0));
  }

  // ---- touching

  private static void refusedUnmapped() {
    SheetKernel x = withProcesses(1);
    x.area(0, 4, 1, PRIVATE);
    for (int a : new int[] {0, 31, 40, 127}) {
      dueRefusal("read " + a, STATE, x, () -> x.read(0, a));
      dueRefusal("write " + a, STATE, x, () -> x.write(0, a, 1));
      dueRefusal("load " + a, STATE, x, () -> x.load(0, a, 1));
    }
    x.read(0, 32);
    x.write(0, 39, 1);
    x.free(0, 4, 1);
    dueRefusal("unmapped again", STATE, x, () -> x.read(0, 32));
  }

  private static void refusedCode() {
    SheetKernel x = withArea(1, CODE);
    dueRefusal("write", STATE, x, () -> x.write(0, 0, 1));
    x.load(0, 0, 5);
    dueRefusal("write one in a frame", STATE, x, () -> x.write(0, 7, 1));
    due("read", x.read(0, 0), 5);
    x.fork(0);
    dueRefusal("write one with two mappings", STATE, x, () -> x.write(1, 0, 1));
  }

  private static void faultOfAbsent() {
    SheetKernel x = withArea(2, PRIVATE);
    due("at first", faultsOf(x, 0), 0, 0, 0);
    x.read(0, 0);
    due("read", faultsOf(x, 0), 1, 0, 0);
    x.write(0, 8, 1);
    due("written", faultsOf(x, 0), 2, 0, 0);
    x.read(0, 8);
    x.write(0, 0, 1);
    due("in a frame: none", faultsOf(x, 0), 2, 0, 0);
  }

  private static void faultOfPool() {
    SheetKernel x = withPageInPool(PRIVATE);
    due("word", x.read(0, 24), 5);
    due("faults", faultsOf(x, 0), 11, 1, 0);
    due("page", pageOf(x, 0, 3), 0, FRAME, 4, 1, -1, -1);
    due("not CHANGED", x.frame(4), 3);
    due("bytes", x.pool(0), 0);
    due("sheets", x.pool(1), 0);
  }

  private static void bytesFreeBehind() {
    SheetKernel x = withFullArena();
    x.read(0, 24);
    due("page 9 found no room", pageOf(x, 0, 9), 0, SLOTS, 2, 1, -1, -1);
    due("then page 3's bytes are free", x.pool(2), 16);
    due("bytes", x.pool(0), 48);
    due("page 3", pageOf(x, 0, 3), 0, FRAME, 9, 1, -1, -1);
  }

  private static void faultOfSlots() {
    SheetKernel x = withPageInSlots(true, PRIVATE);
    due("word", x.read(0, 25), filled(3, 1));
    due("faults", faultsOf(x, 0), 11, 0, 1);
    due("page", pageOf(x, 0, 3), 0, FRAME, 4, 1, 1, 0);
    due("they stay", x.slots(0) + x.slots(1), 2);
  }

  private static void lostOneOfTwo() {
    for (int k = 0; k < 2; k++) {
      SheetKernel x = withPageInSlots(true, PRIVATE);
      x.slot(k, 2);
      due("taken still", x.slots(k), 1);
      due("in slots", pageOf(x, 0, 3), 0, SLOTS, 0, 1, 1, -1);
      due("word", x.read(0, 24), filled(3, 0));
      due("page", pageOf(x, 0, 3), 0, FRAME, 4, 1, -1, 1 - k);
      due("the LOST one is free", x.slots(k), 0);
      due("the other is not", x.slots(1 - k), 1);
      due("page 4 went ahead of that", x.page(0, 4, 2), 2);
      due("faults", faultsOf(x, 0), 11, 0, 1);
    }
  }

  private static void allLost() {
    SheetKernel x = withPageInSlots(false, PRIVATE);
    x.slot(0, 2);
    dueThrow("read", ENDED, () -> x.read(0, 24));
    due("reason", x.about(0, 0), 2);
    due("all is free", x.slots(-1), 24);
    SheetKernel y = withPageInSlots(true, PRIVATE);
    y.slot(0, 2);
    y.slot(1, 2);
    dueThrow("write", ENDED, () -> y.write(0, 24, 1));
    due("reason", y.about(0, 0), 2);
    SheetKernel z = withPageInSlots(false, CODE);
    z.load(0, 0, word(2, 0, 0, 24));
    z.slot(0, 2);
    due("step", z.run(0, 9), 1);
    due("reason", z.about(0, 0), 2);
  }

  private static void lostAheadOfAll() {
    SheetKernel x = withPageInSlots(false, SHARED);
    x.spawn();
    x.share(1, 0, 0, 3, 1);
    x.slot(0, 2);
    int[] frames = framesOf(x);
    dueThrow("read", ENDED, () -> x.read(1, 0));
    due("faults", faultsOf(x, 1), 0, 0, 0);
    due("hand", x.pool(3), 4);
    due("frames", framesOf(x), frames);
    due("slot", x.slots(0), 1);
    due("the other lives", x.about(0, 1), 1);
    due("page", pageOf(x, 0, 3), SHARED, SLOTS, 0, 1, -1, -1);
  }

  private static void refusedAheadOfLost() {
    SheetKernel x = withPageInSlots(false, CODE);
    x.slot(0, 2);
    dueRefusal("write", STATE, x, () -> x.write(0, 24, 1));
    dueThrow("load", ENDED, () -> x.load(0, 24, 1));
  }

  private static void faultAhead() {
    SheetKernel x = withPageInPool(PRIVATE);
    failAllSlots(x);
    dueThrow("from ABSENT", ENDED, () -> x.read(0, 88));
    due("faults", faultsOf(x, 0), 12, 0, 0);
    SheetKernel y = withPageInPool(PRIVATE);
    failAllSlots(y);
    dueThrow("from the pool", ENDED, () -> y.read(0, 24));
    due("faults", faultsOf(y, 0), 11, 1, 0);
    SheetKernel z = withPageInSlots(false, PRIVATE);
    failAllSlots(z);
    dueThrow("from slots", ENDED, () -> z.read(0, 24));
    due("faults", faultsOf(z, 0), 11, 0, 1);
  }

  private static void usedThen() {
    SheetKernel x = withArea(10, PRIVATE);
    for (int g = 0; g < 10; g++) x.read(0, 8 * g);
    due("brought in", framesOf(x), 3, 3, 3, 3, 3, 3, 3, 3, 3, 3);
    x.tick();
    x.tick();
    due("no marks", framesOf(x), 1, 1, 1, 1, 1, 1, 1, 1, 1, 1);
    x.read(0, 0);
    x.write(0, 79, 1);
    due("in a frame already", framesOf(x), 3, 1, 1, 1, 1, 1, 1, 1, 1, 7);
  }

  private static void writtenFreesSlots() {
    SheetKernel x = withPageInSlots(true, PRIVATE);
    x.read(0, 24);
    x.write(0, 31, 1);
    due("page", pageOf(x, 0, 3), 0, FRAME, 4, 1, -1, -1);
    due("CHANGED", x.frame(4), 7);
    due("lower", x.slots(0), 0);
    due("other", x.slots(1), 0);
    SheetKernel y = withPageInSlots(true, PRIVATE);
    y.write(0, 24, 1);
    due("at once", pageOf(y, 0, 3), 0, FRAME, 4, 1, -1, -1);
    due("words", wordsOf(y, 0, 3), 1, filled(3, 1), filled(3, 2), 0, 0, 0, 0, 0);
    due("two of page 4's are taken", y.slots(-1), 22);
    due("page 4", y.page(0, 4, 2), 2);
  }

  // ---- copying

  private static void copyOfTwo() {
    SheetKernel x = withArea(1, PRIVATE);
    x.write(0, 0, 5);
    x.write(0, 7, 6);
    due("one mapping: none", faultsOf(x, 0), 1, 0, 0);
    x.fork(0);
    x.read(0, 0);
    due("not to be read", x.page(0, 0, 3), 2);
    x.write(0, 1, 9);
    due("the writer's", pageOf(x, 0, 0), PRIVATE, FRAME, 1, 1, -1, -1);
    due("the other's", pageOf(x, 1, 0), PRIVATE, FRAME, 0, 1, -1, -1);
    due("words", wordsOf(x, 0, 0), 5, 9, 0, 0, 0, 0, 0, 6);
    due("words of the other", wordsOf(x, 1, 0), 5, 0, 0, 0, 0, 0, 0, 6);
    due("fault", faultsOf(x, 0), 2, 0, 0);
    due("CHANGED", x.frame(1), 7);
    x.write(1, 1, 8);
    due("one mapping: none", x.page(1, 0, 2), 0);
    due("no fault", faultsOf(x, 1), 0, 0, 0);
  }

  private static void noCopyOfShared() {
    SheetKernel x = withArea(1, SHARED);
    x.fork(0);
    x.write(0, 0, 5);
    x.load(1, 1, 6);
    due("mappings", x.page(0, 0, 3), 2);
    due("words", wordsOf(x, 0, 0), 5, 6, 0, 0, 0, 0, 0, 0);
    due("frames", x.frame(-1), 9);
  }

  private static void copyOfAbsent() {
    SheetKernel x = withArea(1, PRIVATE);
    x.fork(0);
    x.write(1, 3, 5);
    due("one fault", faultsOf(x, 1), 1, 0, 0);
    due("the copy", pageOf(x, 1, 0), PRIVATE, FRAME, 0, 1, -1, -1);
    due("the old one", pageOf(x, 0, 0), PRIVATE, ABSENT, -1, 1, -1, -1);
    due("words", wordsOf(x, 1, 0), 0, 0, 0, 5, 0, 0, 0, 0);
    due("CHANGED", x.frame(0), 7);
    due("one frame", x.frame(-1), 9);
  }

  private static void copyFromPool() {
    SheetKernel x = withPageInPool(PRIVATE);
    x.fork(0);
    x.write(1, 25, 9);
    due("faults", faultsOf(x, 1), 1, 1, 0);
    due("the old one", pageOf(x, 0, 3), PRIVATE, FRAME, 4, 1, -1, -1);
    due("the copy", pageOf(x, 1, 3), PRIVATE, FRAME, 5, 1, -1, -1);
    due("words", wordsOf(x, 1, 3), 5, 9, 0, 0, 0, 0, 0, 0);
    due("the old words", wordsOf(x, 0, 3), 5, 0, 0, 0, 0, 0, 0, 0);
    due("bytes", x.pool(0), 0);
  }

  private static void copyFromSlots() {
    SheetKernel x = withPageInSlots(false, PRIVATE);
    x.fork(0);
    x.write(1, 24, 9);
    due("faults", faultsOf(x, 1), 1, 0, 1);
    due("the old one has its slot still", pageOf(x, 0, 3), PRIVATE, FRAME, 4, 1, -1, 0);
    due("the copy has none", pageOf(x, 1, 3), PRIVATE, FRAME, 5, 1, -1, -1);
    due("the old one is not CHANGED", x.frame(4) & 4, 0);
    due("the copy is", x.frame(5), 7);
  }

  private static void handOverUsed() {
    SheetKernel x = withArea(10, PRIVATE);
    fill(x, 0, 0, 10);
    x.fork(0);
    x.write(1, 0, 5);
    due("the copy", x.page(1, 0, 2), 3);
    due("the old one", x.page(0, 0, 2), 0);
    due("frames", framesOf(x), 7, 5, 5, 7, 5, 5, 5, 7, 7, 7);
    due("hand", x.pool(3), 4);
  }

  private static void handOverUnused() {
    SheetKernel x = withArea(10, PRIVATE);
    fill(x, 0, 0, 10);
    x.fork(0);
    x.tick();
    x.tick();
    due("hand", x.pool(3), 8);
    due("frames", framesOf(x), 5, 5, 5, 5, 5, 5, 5, 5, 5, 5);
    x.write(1, 64, 5);
    due("it was not emptied", pageOf(x, 0, 8), PRIVATE, FRAME, 8, 1, -1, -1);
    due("the copy is in the next", x.page(1, 8, 2), 9);
    due("hand", x.pool(3), 0);
    due("frames", framesOf(x), 5, 5, 5, 5, 5, 5, 5, 5, 5, 7);
  }

  private static void keptBeyond() {
    SheetKernel x = withArea(10, PRIVATE);
    fill(x, 0, 0, 10);
    x.fork(0);
    x.write(1, 24, 5);
    // The hand took the marks of 0, 1 and 2, left 3 alone, and emptied 4, whose mark had gone ahead.
    due("the old one", pageOf(x, 0, 3), PRIVATE, FRAME, 3, 1, -1, -1);
    due("the copy", x.page(1, 3, 2), 4);
    due("frames", framesOf(x), 5, 5, 5, 7, 7, 5, 5, 5, 7, 7);
    due("hand", x.pool(3), 5);
  }

  private static void keptCounts() {
    SheetKernel x = withArea(10, PRIVATE);
    failAllSlots(x);
    fill(x, 0, 0, 10);
    x.fork(0);
    dueThrow("of two with ten the higher", ENDED, () -> x.write(1, 0, 1));
    due("20 frames: the hand is back", x.pool(3), 0);
    due("reason", x.about(1, 0), 1);
    due("the old one", pageOf(x, 0, 0), PRIVATE, FRAME, 0, 1, -1, -1);
    due("fault", faultsOf(x, 1), 1, 0, 0);
  }

  private static void endBringingIn() {
    SheetKernel x = withPageInPool(PRIVATE);
    failAllSlots(x);
    x.fork(0);
    dueThrow("of two with eleven the higher", ENDED, () -> x.write(1, 24, 9));
    due("no fault of kind 0", faultsOf(x, 1), 0, 1, 0);
    due("it stays where it was", pageOf(x, 0, 3), PRIVATE, POOL, 0, 1, -1, -1);
    due("hand", x.pool(3), 4);
    due("broken", x.broken(), 0);
  }

  private static void endCopying() {
    SheetKernel x = withPageInPool(PRIVATE);
    failAllSlots(x);
    x.free(0, 9, 1);
    x.fork(0);
    dueThrow("of two with ten the higher", ENDED, () -> x.write(1, 24, 9));
    due("both faults", faultsOf(x, 1), 1, 1, 0);
    due("it was brought in", pageOf(x, 0, 3), PRIVATE, FRAME, 9, 1, -1, -1);
    due("not CHANGED", x.frame(9) & 4, 0);
    due("words", wordsOf(x, 0, 3), 5, 0, 0, 0, 0, 0, 0, 0);
    due("bytes", x.pool(0), 0);
    due("frames", x.frame(-1), 0);
    due("broken", x.broken(), 0);
  }

  private static void copyOfLost() {
    SheetKernel x = withPageInSlots(false, PRIVATE);
    x.fork(0);
    x.slot(0, 2);
    dueThrow("write", ENDED, () -> x.write(1, 24, 1));
    due("reason", x.about(1, 0), 2);
    due("no fault of any kind", faultsOf(x, 1), 0, 0, 0);
    due("the other's", pageOf(x, 0, 3), PRIVATE, SLOTS, 0, 1, -1, -1);
  }

  private static void otherEndsCopying() {
    SheetKernel x = withArea(6, PRIVATE);
    failAllSlots(x);
    fill(x, 0, 0, 6);
    x.fork(0);
    x.area(1, 6, 4, PRIVATE);
    fill(x, 1, 6, 4);
    x.write(0, 0, 9);
    due("1 has ten, 0 six", x.about(1, 0), 1);
    due("words", wordsOf(x, 0, 0), 9, filled(0, 1), filled(0, 2), 0, 0, 0, 0, 0);
    due("mappings", x.page(0, 0, 3), 1);
    due("fault", faultsOf(x, 0), 7, 0, 0);
    due("six sheets", x.frame(-1), 4);
    due("broken", x.broken(), 0);
  }

  // ---- finding a frame

  private static void lowestFree() {
    SheetKernel x = withArea(16, PRIVATE);
    for (int g = 0; g < 10; g++) x.read(0, 8 * g);
    x.free(0, 9, 1);
    x.free(0, 5, 1);
    x.free(0, 2, 1);
    int[] due = {2, 5, 9};
    for (int i = 0; i < 3; i++) {
      x.read(0, 80 + 8 * i);
      due("frame", x.page(0, 10 + i, 2), due[i]);
    }
    due("the hand stays", x.pool(3), 0);
    due("frames", framesOf(x), 3, 3, 3, 3, 3, 3, 3, 3, 3, 3);
  }

  private static void firstHand() {
    SheetKernel x = withArea(16, PRIVATE);
    due("at first", x.pool(3), 0);
    for (int g = 0; g < 10; g++) x.read(0, 8 * g);
    due("while some are free", x.pool(3), 0);
    x.read(0, 80);
    due("then", x.pool(3), 4);
  }

  private static void handTakesMarks() {
    SheetKernel x = withArea(16, PRIVATE);
    fill(x, 0, 0, 10);
    x.read(0, 80);
    due("page 3", x.page(0, 3, 1), SLOTS);
    due("page 10 has its frame", x.page(0, 10, 2), 3);
    due("frames", framesOf(x), 5, 5, 5, 3, 5, 5, 5, 7, 7, 7);
    x.read(0, 32);
    x.read(0, 88);
    // 4 is USED again and loses its mark, 5 is emptied; the marks of 7 and 8 go ahead.
    due("page 5", x.page(0, 5, 1), SLOTS);
    due("page 11 has its frame", x.page(0, 11, 2), 5);
    due("hand", x.pool(3), 6);
    due("frames", framesOf(x), 5, 5, 5, 3, 5, 3, 5, 5, 5, 7);
  }

  private static void handRound() {
    SheetKernel x = withArea(16, PRIVATE);
    fill(x, 0, 0, 10);
    x.tick();
    x.tick();
    for (int g = 0; g < 10; g++) x.read(0, 8 * g);
    due("hand", x.pool(3), 8);
    x.write(0, 80, 1);
    // 8, 9 and 0 lose their marks to the hand; those of 1, 2, 3 and 4 go ahead.
    due("frame", x.page(0, 10, 2), 1);
    due("hand", x.pool(3), 2);
    due("frames", framesOf(x), 5, 7, 5, 5, 5, 7, 7, 7, 5, 5);
    SheetKernel y = withArea(16, PRIVATE);
    for (int g = 0; g < 16; g++) y.write(0, 8 * g, 1);
    int[] frames = {3, 4, 5, 6, 7, 8};
    for (int i = 0; i < 6; i++) due("in turn", y.page(0, 10 + i, 2), frames[i]);
    y.read(0, 24);
    due("frame 9", y.page(0, 3, 2), 9);
    due("behind 9 comes 0", y.pool(3), 0);
    y.read(0, 32);
    due("frame 0", y.page(0, 4, 2), 0);
    due("hand", y.pool(3), 1);
  }

  private static void foundThirteenth() {
    for (int g = 0; g < 3; g++) {
      SheetKernel x = withArea(16, PRIVATE);
      failAllSlots(x);
      fill(x, 0, 0, g);
      x.write(0, 8 * g, 1);
      fill(x, 0, g + 1, 9 - g);
      x.read(0, 80);
      // It was USED in the first round; all others can't be emptied.
      due("lives", x.about(0, 1), 1);
      due("packed", x.page(0, g, 1), POOL);
      due("frame", x.page(0, 10, 2), g);
      due("hand", x.pool(3), g + 1);
    }
  }

  private static void twentyFrames() {
    for (int ticks = 0; ticks < 3; ticks++) {
      SheetKernel x = withProcesses(2);
      failAllSlots(x);
      x.area(0, 0, 5, SHARED);
      x.area(1, 0, 8, PRIVATE);
      fill(x, 0, 0, 5);
      fill(x, 1, 0, 5);
      for (int i = 0; i < ticks; i++) x.tick();
      dueThrow("no frame can be emptied", ENDED, () -> x.read(1, 40));
      due("hand", x.pool(3), 4 * ticks);
      due("reason", x.about(1, 0), 1);
      for (int k = 0; k < 5; k++) due("the marks went", x.frame(k), 5);
    }
  }

  private static void beginsAnew() {
    SheetKernel x = withProcesses(3);
    failAllSlots(x);
    for (int p = 0; p < 3; p++) x.area(p, 0, 8, PRIVATE);
    fill(x, 0, 0, 2);
    fill(x, 1, 0, 5);
    fill(x, 2, 0, 3);
    x.write(0, 16, 7);
    due("1 ended", x.about(1, 0), 1);
    due("0 lives", x.about(0, 1), 1);
    due("the lowest free frame", x.page(0, 2, 2), 2);
    due("one fault", faultsOf(x, 0), 3, 0, 0);
    due("hand", x.pool(3), 0);
    due("frames", framesOf(x), 5, 5, 7, 0, 0, 0, 0, 5, 5, 5);
    due("word", x.read(0, 16), 7);
  }

  private static void beginsAnewTwice() {
    SheetKernel x = withProcesses(3);
    failAllSlots(x);
    x.area(0, 0, 2, PRIVATE);
    x.area(1, 0, 7, PRIVATE);
    x.area(2, 0, 9, SHARED);
    for (int g = 0; g < 7; g++) x.write(1, 8 * g, g + 1);
    fill(x, 0, 0, 2);
    fill(x, 2, 0, 8);
    due("all of 1's pages are packed", x.pool(1), 7);
    due("hand", x.pool(3), 3);
    x.write(2, 64, 4);
    due("1 had the most, though none in a frame", x.about(1, 0), 1);
    due("then 0", x.about(0, 0), 1);
    due("2 lives", x.about(2, 1), 1);
    due("frame", x.page(2, 8, 2), 7);
    due("frames", x.frame(-1), 1);
    due("bytes", x.pool(0), 0);
    due("hand", x.pool(3), 3);
    due("one fault", faultsOf(x, 2), 9, 0, 0);
    due("broken", x.broken(), 0);
  }

  private static void beginsAnewToTheLast() {
    SheetKernel x = withArea(11, PRIVATE);
    failAllSlots(x);
    fill(x, 0, 0, 10);
    for (int p = 1; p < 8; p++) x.fork(0);
    // All eight have the same ten: no end but the last one gives a frame.
    dueThrow("the lowest one touches, and ends last", ENDED, () -> x.read(0, 80));
    for (int p = 0; p < 8; p++) due("reason", x.about(p, 0), 1);
    due("one fault", faultsOf(x, 0), 11, 0, 0);
    due("frames", x.frame(-1), 10);
    due("hand", x.pool(3), 0);
    due("broken", x.broken(), 0);
  }

  private static void beginsAnewWithSlots() {
    SheetKernel x = withProcesses(3);
    x.area(0, 0, 16, SHARED);
    x.area(1, 0, 16, PRIVATE);
    x.area(2, 0, 8, PRIVATE);
    fill(x, 1, 0, 16);
    fill(x, 2, 0, 8);
    fill(x, 0, 0, 10);
    due("all slots are taken", x.slots(-1), 0);
    due("1 has none in a frame", x.about(1, 11), 16);
    int hand = x.pool(3);
    int[] frames = framesOf(x);
    for (int k = 0; k < 10; k++) due("no frame is free", frames[k] & 1, 1);
    x.read(0, 80);
    due("1 ended", x.about(1, 0), 1);
    due("the hand goes again, over one frame", x.pool(3), (hand + 1) % 10);
    due("which it emptied", x.page(0, 10, 2), hand);
    due("fifteen slots", x.slots(-1), 15);
    due("2 lives", x.about(2, 11), 8);
    due("broken", x.broken(), 0);
  }

  private static void nothingMore() {
    SheetKernel x = withProcesses(2);
    failAllSlots(x);
    x.area(0, 0, 16, PRIVATE);
    x.area(1, 0, 4, SHARED);
    fill(x, 1, 0, 4);
    fill(x, 0, 0, 6);
    dueThrow("write", ENDED, () -> x.write(0, 48, 1));
    due("reason", x.about(0, 0), 1);
    due("its frames", x.frame(-1), 6);
    due("no mark comes", framesOf(x), 5, 5, 5, 5, 0, 0, 0, 0, 0, 0);
    due("hand", x.pool(3), 0);
    due("the other's word", x.read(1, 0), filled(0, 0));
  }

  // ---- emptying a frame

  private static void slotsAheadOfPool() {
    SheetKernel x = withFullArena();
    x.read(0, 56);
    due("page 7 has a slot", pageOf(x, 0, 7), 0, FRAME, 9, 1, -1, 0);
    x.spawn();
    x.area(1, 0, 16, SHARED);
    for (int g = 0; g < 9; g++) x.read(1, 8 * g);
    due("frame 9 is next", x.pool(3), 9);
    x.free(0, 3, 4);
    due("there is room in the pool", x.pool(2), 64);
    x.read(1, 72);
    due("to its slot", pageOf(x, 0, 7), 0, SLOTS, 0, 1, -1, -1);
    due("not to the pool", x.pool(0), 0);
  }

  private static void toLostSlots() {
    SheetKernel x = withPageInSlots(false, PRIVATE);
    x.read(0, 24);
    x.slot(0, 2);
    x.spawn();
    x.area(1, 0, 10, SHARED);
    for (int g = 0; g < 10; g++) x.read(1, 8 * g);
    due("it goes all the same", pageOf(x, 0, 3), 0, SLOTS, 0, 1, -1, -1);
    dueThrow("and is LOST", ENDED, () -> x.read(0, 24));
    due("reason", x.about(0, 0), 2);
  }

  private static void toPool() {
    SheetKernel x = withPageInPool(PRIVATE);
    due("packed", pageOf(x, 0, 3), 0, POOL, 0, 1, -1, -1);
    due("no slot", x.slots(-1), 24);
    SheetKernel y = withPageInSlots(false, PRIVATE);
    due("does not pack", pageOf(y, 0, 3), 0, SLOTS, 0, 1, -1, -1);
    due("no bytes", y.pool(0), 0);
    SheetKernel z = withFullArena();
    due("no room", pageOf(z, 0, 7), 0, SLOTS, 0, 1, -1, -1);
  }

  private static void valuableToPool() {
    SheetKernel x = withArea(16, PRIVATE);
    x.valuable(0, true);
    for (int g = 0; g < 11; g++) x.write(0, 8 * g, 1);
    due("packed", pageOf(x, 0, 3), 0, POOL, 0, 1, -1, -1);
    due("no slot", x.slots(-1), 24);
  }

  private static void lowestSlot() {
    SheetKernel x = withArea(16, PRIVATE);
    fill(x, 0, 0, 13);
    for (int i = 0; i < 3; i++) due("in turn", x.page(0, 3 + i, 2), i);
    x.free(0, 4, 1);
    x.read(0, 104);
    due("the one that is free again", pageOf(x, 0, 6), 0, SLOTS, 1, 1, -1, -1);
    x.read(0, 112);
    due("then the next", x.page(0, 7, 2), 3);
  }

  private static void againAndAgain() {
    SheetKernel x = withArea(16, PRIVATE);
    failSlots(x, 0, 2);
    failSlots(x, 4, 5);
    fill(x, 0, 0, 11);
    due("the fourth is good", pageOf(x, 0, 3), 0, SLOTS, 3, 1, -1, -1);
    for (int k = 0; k < 3; k++) due("BAD", x.slots(k), 2);
    due("not tried", x.slots(4), 0);
    x.read(0, 88);
    due("BAD", x.slots(5), 2);
    due("page 4", x.page(0, 4, 2), 6);
  }

  private static void secondSlot() {
    SheetKernel x = withPageInSlots(true, PRIVATE);
    due("of its own", pageOf(x, 0, 3), 0, SLOTS, 0, 1, 1, -1);
    SheetKernel y = withArea(11, SHARED);
    y.spawn();
    y.share(1, 5, 0, 3, 1);
    y.valuable(1, true);
    fill(y, 0, 0, 11);
    due("of another's mapping", pageOf(y, 0, 3), SHARED, SLOTS, 0, 2, 1, -1);
    SheetKernel z = withArea(11, SHARED);
    z.spawn();
    z.share(1, 5, 0, 4, 1);
    z.valuable(1, true);
    fill(z, 0, 0, 11);
    due("not of another sheet's", pageOf(z, 0, 3), SHARED, SLOTS, 0, 1, -1, -1);
    SheetKernel w = withPageInSlots(false, PRIVATE);
    w.valuable(0, true);
    due("not behind it", pageOf(w, 0, 3), 0, SLOTS, 0, 1, -1, -1);
    SheetKernel v = withArea(11, SHARED);
    v.spawn();
    v.share(1, 5, 0, 3, 1);
    v.valuable(1, true);
    v.exit(1);
    fill(v, 0, 0, 11);
    due("not of one that ended", pageOf(v, 0, 3), SHARED, SLOTS, 0, 1, -1, -1);
  }

  private static void anyMapping() {
    for (int p : new int[] {0, 7}) {
      for (int g : new int[] {0, 15}) {
        SheetKernel x = withProcesses(8);
        x.area(4, 0, 11, SHARED);
        x.share(p, g, 4, 3, 1);
        x.valuable(p, true);
        fill(x, 4, 0, 11);
        due("page " + g + " of " + p, pageOf(x, 4, 3), SHARED, SLOTS, 0, 2, 1, -1);
      }
    }
  }

  private static void secondLikewise() {
    SheetKernel x = withArea(16, PRIVATE);
    x.valuable(0, true);
    failSlots(x, 0, 0);
    failSlots(x, 2, 4);
    fill(x, 0, 0, 11);
    due("both are the lowest", pageOf(x, 0, 3), 0, SLOTS, 1, 1, 5, -1);
    int[] due = {2, 1, 2, 2, 2, 1, 0};
    for (int k = 0; k < due.length; k++) due("slot " + k, x.slots(k), due[k]);
  }

  private static void noSecond() {
    SheetKernel x = withArea(16, PRIVATE);
    x.valuable(0, true);
    failSlots(x, 1, 23);
    fill(x, 0, 0, 11);
    due("one is enough", pageOf(x, 0, 3), 0, SLOTS, 0, 1, -1, -1);
    due("all others are BAD", x.slots(-1), 0);
    for (int k = 1; k < 24; k++) due("slot " + k, x.slots(k), 2);
    due("lives", x.about(0, 1), 1);
    x.free(0, 9, 1);
    due("word", x.read(0, 24), filled(3, 0));
  }

  private static void cant() {
    SheetKernel x = withArea(16, PRIVATE);
    failAllSlots(x);
    fill(x, 0, 0, 5);
    x.write(0, 40, 1);
    fill(x, 0, 6, 4);
    x.read(0, 80);
    due("3 and 4 stay", x.page(0, 3, 1) + x.page(0, 4, 1), 2 * FRAME);
    due("5 packs", x.page(0, 5, 1), POOL);
    due("its frame is taken", x.page(0, 10, 2), 5);
    due("hand", x.pool(3), 6);
    for (int k = 0; k < 24; k++) due("all are BAD", x.slots(k), 2);
    due("they are CHANGED still", x.frame(3), 5);
  }

  // ---- ends

  private static void mostPages() {
    SheetKernel x = withProcesses(3);
    failAllSlots(x);
    for (int p = 0; p < 3; p++) x.area(p, 0, 8, PRIVATE);
    fill(x, 0, 0, 4);
    fill(x, 1, 0, 3);
    fill(x, 2, 0, 3);
    x.read(2, 24);
    due("0 has four", x.about(0, 0), 1);
    due("1 lives", x.about(1, 1), 1);
    due("2 lives", x.about(2, 1), 1);
    due("frame", x.page(2, 3, 2), 0);
  }

  private static void highestNumber() {
    SheetKernel x = withProcesses(8);
    failAllSlots(x);
    x.area(0, 0, 4, PRIVATE);
    x.area(3, 0, 4, PRIVATE);
    x.area(6, 0, 4, PRIVATE);
    fill(x, 6, 0, 3);
    fill(x, 3, 0, 3);
    fill(x, 0, 0, 3);
    x.area(7, 0, 2, SHARED);
    fill(x, 7, 0);
    x.read(7, 8);
    due("of three with three", x.about(6, 0), 1);
    due("3 lives", x.about(3, 1), 1);
    due("0 lives", x.about(0, 1), 1);
    SheetKernel y = withProcesses(2);
    failAllSlots(y);
    y.area(0, 0, 5, PRIVATE);
    y.area(1, 0, 6, PRIVATE);
    fill(y, 0, 0, 5);
    fill(y, 1, 0, 5);
    dueThrow("the higher one touches", ENDED, () -> y.read(1, 40));
    due("0 lives", y.about(0, 1), 1);
  }

  private static void absentCountNot() {
    SheetKernel x = withProcesses(3);
    failAllSlots(x);
    x.area(0, 0, 1, PRIVATE);
    x.area(1, 0, 16, PRIVATE);
    x.area(2, 0, 10, SHARED);
    fill(x, 0, 0);
    fill(x, 2, 0, 9);
    x.read(2, 72);
    due("0 has one", x.about(0, 0), 1);
    due("1 has none", x.about(1, 1), 1);
    due("frame", x.page(2, 9, 2), 0);
  }

  private static void othersCountNot() {
    SheetKernel x = withProcesses(4);
    failAllSlots(x);
    x.area(0, 0, 1, PRIVATE);
    x.area(1, 0, 4, SHARED);
    x.area(2, 0, 4, CODE);
    x.area(3, 0, 4, SHARED);
    fill(x, 0, 0);
    fill(x, 1, 0, 4);
    fill(x, 2, 0, 4);
    fill(x, 3, 0);
    x.read(3, 8);
    due("0 has one", x.about(0, 0), 1);
    for (int p = 1; p < 4; p++) due("has none", x.about(p, 1), 1);
  }

  private static void noneHasAny() {
    for (int p = 0; p < 3; p++) {
      SheetKernel x = withProcesses(3);
      failAllSlots(x);
      x.area(0, 0, 6, SHARED);
      x.area(1, 0, 6, CODE);
      x.area(2, 0, 6, PRIVATE);
      fill(x, 0, 0, 5);
      fill(x, 1, 0, 5);
      int toucher = p;
      dueThrow("it touches", ENDED, () -> x.read(toucher, 40));
      for (int q = 0; q < 3; q++) due("lives", x.about(q, 1), q == p ? 0 : 1);
      due("reason", x.about(p, 0), 1);
    }
  }

  private static void livesNoMore() {
    SheetKernel x = withArea(16, PRIVATE);
    x.area(x.spawn(), 0, 1, PRIVATE);
    x.valuable(0, true);
    x.fork(0);
    x.exit(0);
    for (int w = 1; w <= 6; w++) due("about " + w, x.about(0, w), 0);
    for (int w = 10; w <= 12; w++) due("about " + w, x.about(0, w), 0);
    for (int g = 0; g < 16; g++) due("page", pageOf(x, 0, g), -1, -1, -1, -1, -1, -1);
    due("the fork has them alone", x.page(2, 15, 3), 1);
    due("broken", x.broken(), 0);
  }

  private static void reasons() {
    SheetKernel x = withPageInSlots(false, PRIVATE);
    due("it lives", x.about(0, 0), 0);
    due("it never did", x.about(1, 0), 0);
    x.slot(0, 2);
    dueThrow("lost", ENDED, () -> x.read(0, 24));
    due("2", x.about(0, 0), 2);
    SheetKernel y = withCode(word(7, 0, 0, 0));
    y.run(0, 1);
    due("3", y.about(0, 0), 3);
    SheetKernel z = withCode(0);
    z.run(0, 1);
    due("4, by an instruction", z.about(0, 0), 4);
    z.spawn();
    z.exit(0);
    due("4, by a call", z.about(0, 0), 4);
    SheetKernel w = withPageInPool(PRIVATE);
    failAllSlots(w);
    dueThrow("out of memory", ENDED, () -> w.read(0, 24));
    due("1", w.about(0, 0), 1);
  }

  private static void reasonUntil() {
    SheetKernel x = withProcesses(2);
    x.exit(0);
    due("told", x.about(0, 0), 4);
    x.area(1, 0, 1, PRIVATE);
    due("still", x.about(0, 0), 4);
    x.spawn();
    due("by a spawn", x.about(0, 0), 0);
    x.exit(0);
    x.fork(1);
    due("by a fork", x.about(0, 0), 0);
    x.exit(0);
    x.write(1, 0, word(6, 0, 0, 0));
    x.run(1, 1);
    due("by an instruction", x.about(0, 0), 0);
    due("it lives", x.about(0, 1), 1);
  }

  // ---- instructions

  private static int reasonOf(int word) {
    SheetKernel x = withCode(word);
    due("steps of " + word, x.run(0, 1), 1);
    return x.about(0, 0);
  }

  private static void whatBits() {
    for (int what = 1; what <= 6; what++) due("what " + what, reasonOf(word(what, 0, 0, 0)), what == 3 ? 3 : 0);
    for (int what : new int[] {7, 8, 127, 128, 129, 134, 254, 255}) {
      due("what " + what, reasonOf(word(what, 0, 0, 0)), 3);
    }
    due("0, whatever the rest", reasonOf(0x00FFFFFF), 4);
    due("0", reasonOf(0), 4);
    due("-1", reasonOf(-1), 3);
    due("least", reasonOf(SMALL), 3);
  }

  private static void registerBits() {
    for (int r = 0; r < 4; r++) {
      for (int s = 0; s < 4; s++) {
        SheetKernel x = withCode(word(1, s, 0, 50), word(4, r, s, 7) | 0xF0000);
        x.run(0, 2);
        for (int i = 0; i < 4; i++) {
          int due = i == r ? (r == s ? 107 : 57) : i == s ? 50 : 0;
          due("register " + i + " of " + r + ", " + s, x.about(0, 3 + i), due);
        }
      }
    }
    SheetKernel y = withCode(word(1, 2, 3, 9) | 0xF0000, word(1, 2, 0, 8) | 0x80000);
    y.run(0, 1);
    due("left out", y.about(0, 5), 9);
    y.run(0, 1);
    due("left out", y.about(0, 5), 8);
  }

  private static void numberEdges() {
    int[] bits = {0, 1, 0x7FFF, 0x8000, 0x8001, 0xFFFF};
    int[] due = {0, 1, 32767, -32768, -32767, -1};
    for (int i = 0; i < bits.length; i++) {
      SheetKernel x = withCode(0x01000000 | bits[i], 0x04400000 | bits[i], word(1, 3, 0, 1), 0x05C00000 | bits[i]);
      x.run(0, 4);
      due("1: n", x.about(0, 3), due[i]);
      due("4: r + s + n", x.about(0, 4), 2 * due[i]);
      due("5: counter", x.about(0, 2), due[i]);
    }
  }

  private static void stepTouches() {
    SheetKernel x = withArea(1, PRIVATE);
    due("an ABSENT one has the word 0", x.run(0, 5), 1);
    due("told to end", x.about(0, 0), 4);
    due("its fault", faultsOf(x, 0), 1, 0, 0);
    SheetKernel y = withCode(word(1, 0, 0, 1), word(5, 0, 0, 0));
    y.area(0, 2, 9, PRIVATE);
    for (int g = 2; g < 11; g++) y.read(0, 8 * g);
    y.tick();
    y.tick();
    due("not USED", y.frame(0), 5);
    y.run(0, 1);
    due("USED", y.frame(0), 7);
    SheetKernel z = withPageInSlots(false, CODE);
    z.load(0, 0, word(1, 0, 0, 1));
    z.load(0, 1, word(5, 0, 0, 27));
    due("steps", z.run(0, 3), 3);
    due("from slots, the word is 0", z.about(0, 0), 4);
    due("its fault", faultsOf(z, 0), 11, 0, 1);
  }

  private static void counterGoesOn() {
    SheetKernel x = withProcesses(1);
    x.area(0, 0, 1, CODE);
    x.area(0, 15, 1, PRIVATE);
    x.load(0, 0, word(1, 0, 0, 1));
    x.load(0, 1, word(5, 0, 0, 126));
    x.write(0, 126, word(1, 1, 0, 2));
    x.write(0, 127, word(1, 2, 0, 3));
    due("no step", x.run(0, 0), 0);
    due("counter", x.about(0, 2), 0);
    due("steps", x.run(0, 3), 3);
    due("counter", x.about(0, 2), 127);
    due("the last word", x.run(0, 1), 1);
    due("counter", x.about(0, 2), 128);
    due("register", x.about(0, 5), 3);
    due("beyond it", x.run(0, 5), 1);
    due("refused", x.about(0, 0), 3);
    SheetKernel y = withArea(1, PRIVATE);
    for (int i = 0; i < 8; i++) y.write(0, i, word(1, 0, 0, i));
    due("up to the page's end, and one more", y.run(0, 200), 9);
    due("refused", y.about(0, 0), 3);
    SheetKernel z = withArea(16, SHARED);
    z.write(0, 0, word(1, 0, 0, 1));
    z.write(0, 1, word(5, 0, 0, 7));
    z.write(0, 7, word(1, 1, 0, 5));
    z.write(0, 8, word(1, 2, 0, 6));
    due("on the next page", z.run(0, 4), 4);
    due("register", z.about(0, 5), 6);
  }

  private static SheetKernel atAddress(int what, int base, int n) {
    SheetKernel x = withProcesses(1);
    x.area(0, 0, 1, CODE);
    x.area(0, 15, 1, PRIVATE);
    x.load(0, 0, word(1, 1, 0, base));
    x.load(0, 1, word(what, 2, 1, n));
    x.write(0, 120, 40);
    x.write(0, 127, 41);
    x.run(0, 2);
    return x;
  }

  private static void fetchEdges() {
    due("127", atAddress(2, 100, 27).about(0, 5), 41);
    due("120", atAddress(2, 32767, -32647).about(0, 5), 40);
    due("-1", atAddress(2, -32768, 32767).about(0, 0), 3);
    due("0", atAddress(2, -32767, 32767).about(0, 5), word(1, 1, 0, -32767));
    due("-1", atAddress(2, 0, -1).about(0, 0), 3);
    due("128", atAddress(2, 128, 0).about(0, 0), 3);
    due("119, unmapped", atAddress(2, 119, 0).about(0, 0), 3);
    due("8, unmapped", atAddress(2, 0, 8).about(0, 0), 3);
    due("-65536", atAddress(2, -32768, -32768).about(0, 0), 3);
    due("65534", atAddress(2, 32767, 32767).about(0, 0), 3);
  }

  private static void storeEdges() {
    due("127", atAddress(3, 120, 7).read(0, 127), 0);
    due("120", atAddress(3, 32767, -32647).read(0, 120), 0);
    due("the other stays", atAddress(3, 120, 7).read(0, 120), 40);
    due("CODE", atAddress(3, 0, 0).about(0, 0), 3);
    due("-1", atAddress(3, -1, 0).about(0, 0), 3);
    due("128", atAddress(3, 0, 128).about(0, 0), 3);
    due("119, unmapped", atAddress(3, 119, 0).about(0, 0), 3);
  }

  private static void storeCopies() {
    SheetKernel x = withArea(1, PRIVATE);
    x.write(0, 0, word(1, 1, 0, 77));
    x.write(0, 1, word(3, 1, 0, 2));
    x.fork(0);
    due("steps", x.run(1, 2), 2);
    due("the copy", x.page(1, 0, 2), 1);
    due("word", x.read(1, 2), 77);
    due("the old word", x.read(0, 2), 0);
    due("fault", faultsOf(x, 1), 1, 0, 0);
    SheetKernel y = withArea(1, PRIVATE);
    y.write(0, 0, word(2, 1, 0, 4));
    y.write(0, 1, word(3, 1, 0, 2));
    y.write(0, 2, word(7, 0, 0, 0));
    y.write(0, 4, word(1, 3, 0, 66));
    due("what was stored is run", y.run(0, 3), 3);
    due("register", y.about(0, 6), 66);
  }

  private static void sumWraps() {
    SheetKernel x = withProcesses(1);
    x.area(0, 0, 1, CODE);
    x.area(0, 8, 1, PRIVATE);
    x.write(0, 64, BIG);
    x.write(0, 65, SMALL);
    x.load(0, 0, word(2, 0, 3, 64));
    x.load(0, 1, word(2, 1, 3, 65));
    x.load(0, 2, word(4, 2, 0, 1));
    x.load(0, 3, word(4, 3, 1, -1));
    x.load(0, 4, word(4, 0, 0, 0));
    x.load(0, 5, word(2, 1, 1, -1));
    due("steps", x.run(0, 5), 5);
    due("beyond the greatest", x.about(0, 5), SMALL);
    due("below the least", x.about(0, 6), BIG);
    due("twice the greatest", x.about(0, 3), -2);
    due("an address below the least", x.run(0, 5), 1);
    due("is refused", x.about(0, 0), 3);
  }

  private static void jumps() {
    int[] from = {0, 1, -1, 32767, -32768};
    for (int r : from) {
      SheetKernel x = withCode(word(1, 1, 0, r), word(5, 1, 0, 9));
      x.run(0, 2);
      due("by " + r, x.about(0, 2), r == 0 ? 2 : 9);
    }
    SheetKernel y = withCode(word(1, 1, 0, 1), word(5, 1, 0, 0));
    y.run(0, 2);
    due("to 0", y.about(0, 2), 0);
    SheetKernel z = withCode(word(1, 1, 0, 1), word(5, 1, 0, -1));
    due("to -1 it jumps", z.run(0, 2), 2);
    due("and lives", z.about(0, 1), 1);
    due("until the next step", z.run(0, 2), 1);
    due("reason", z.about(0, 0), 3);
  }

  private static void forkInstruction() {
    SheetKernel x = withCode(word(6, 3, 0, 0), word(6, 3, 0, 0));
    for (int i = 0; i < 6; i++) x.spawn();
    x.run(0, 1);
    due("the last number", x.about(0, 6), 7);
    due("in that one", x.about(7, 6), -2);
    due("counter there", x.about(7, 2), 1);
    due("it lives", x.about(7, 1), 1);
    due("without one", x.run(0, 1), 1);
    due("register", x.about(0, 6), -1);
    due("that is no end", x.about(0, 1), 1);
    SheetKernel y = withCode(word(6, 0, 0, 0), word(6, 0, 0, 0));
    y.area(0, 2, 1, SHARED);
    for (int i = 3; i < 12; i++) y.share(0, i, 0, 2, 1);
    y.run(0, 1);
    due("ten mappings and ten", y.page(0, 2, 3), 20);
    due("number", y.about(0, 3), 1);
    y.run(0, 1);
    due("with twenty none", y.about(0, 3), -1);
  }

  private static void refusedSteps() {
    SheetKernel x = withProcesses(1);
    due("no page at the counter", x.run(0, 5), 1);
    due("reason", x.about(0, 0), 3);
    due("no fault", faultsOf(x, 0), 0, 0, 0);
    SheetKernel y = withCode(word(3, 0, 0, 15));
    due("CODE is written", y.run(0, 5), 1);
    due("reason", y.about(0, 0), 3);
    SheetKernel z = withCode(word(2, 0, 0, 16));
    due("unmapped", z.run(0, 5), 1);
    due("reason", z.about(0, 0), 3);
  }

  private static void otherWords() {
    SheetKernel x = withCode(word(1, 0, 0, 1), 7 << 24);
    due("steps", x.run(0, 200), 2);
    due("reason", x.about(0, 0), 3);
    due("all is free", x.frame(-1), 10);
  }

  private static void lastStepCounts() {
    SheetKernel x = withCode(word(1, 0, 0, 1), word(1, 0, 0, 2), 0);
    due("told to", x.run(0, 200), 3);
    due("reason", x.about(0, 0), 4);
    SheetKernel y = withCode(word(1, 0, 0, 1), word(1, 0, 0, 2), 0);
    due("just ahead of it", y.run(0, 2), 2);
    due("lives", y.about(0, 1), 1);
    due("the last", y.run(0, 1), 1);
    due("lives no more", y.about(0, 1), 0);
  }

  private static void lastStepByMemory() {
    SheetKernel x = withPageInPool(PRIVATE);
    x.write(0, 0, word(1, 0, 0, 1));
    x.write(0, 1, word(2, 0, 0, 24));
    failAllSlots(x);
    due("steps", x.run(0, 9), 2);
    due("reason", x.about(0, 0), 1);
    SheetKernel y = withProcesses(2);
    failAllSlots(y);
    y.area(0, 0, 2, SHARED);
    y.area(1, 0, 9, PRIVATE);
    fill(y, 0, 0);
    y.write(0, 0, word(3, 0, 0, 8));
    y.write(0, 1, word(1, 0, 0, 1));
    fill(y, 1, 0, 9);
    due("another one ends: it goes on", y.run(0, 2), 2);
    due("reason", y.about(1, 0), 1);
    due("lives", y.about(0, 1), 1);
    due("register", y.about(0, 3), 1);
  }

  // ---- forks and exceptions

  private static void lowestNumber() {
    SheetKernel x = withProcesses(8);
    x.exit(6);
    x.exit(2);
    due("lowest", x.fork(7), 2);
    due("next", x.fork(7), 6);
    x.exit(0);
    due("number 0", x.fork(7), 0);
  }

  private static void sameRegisters() {
    SheetKernel x = withCode(word(1, 0, 0, 4), word(1, 1, 0, 5), word(1, 2, 0, 6), word(1, 3, 0, 7));
    x.run(0, 4);
    x.valuable(0, true);
    x.fork(0);
    int[] due = {0, 1, 4, 4, 5, 6, 7, 0, 0, 0, 2, 0, 0};
    for (int w = 0; w <= 12; w++) due("about " + w, x.about(1, w), due[w]);
  }

  private static void sameSheets() {
    SheetKernel x = withProcesses(1);
    for (int k = 0; k < 3; k++) x.area(0, 7 * k, 1, k);
    x.write(0, 0, 5);
    x.fork(0);
    for (int g = 0; g < 16; g++) due("page " + g, pageOf(x, 1, g), pageOf(x, 0, g));
    due("mappings", x.page(0, 14, 3), 2);
    due("mapped", x.about(1, 10), 3);
    due("not touched by that", x.page(0, 7, 1), ABSENT);
  }

  private static void allEightLive() {
    SheetKernel x = withProcesses(7);
    due("the eighth", x.fork(3), 7);
    dueRefusal("the ninth", STATE, x, () -> x.fork(3));
    x.exit(0);
    due("again", x.fork(7), 0);
  }

  private static void hasTwenty() {
    SheetKernel x = withProcesses(3);
    x.area(0, 0, 1, SHARED);
    for (int i = 1; i < 16; i++) x.share(0, i, 0, 0, 1);
    x.share(1, 0, 0, 0, 3);
    x.share(2, 0, 0, 0, 1);
    due("twenty", x.page(2, 0, 3), 20);
    dueRefusal("one mapping more", STATE, x, () -> x.fork(2));
    x.free(1, 0, 1);
    due("nineteen, and one", x.fork(2), 3);
    due("twenty", x.page(3, 0, 3), 20);
  }

  private static void wouldComeToMore() {
    SheetKernel x = withProcesses(2);
    x.area(0, 0, 1, SHARED);
    for (int i = 1; i < 10; i++) x.share(0, i, 0, 0, 1);
    x.share(1, 15, 0, 0, 1);
    dueRefusal("eleven and ten", STATE, x, () -> x.fork(0));
    due("eleven and one", x.fork(1), 2);
    x.exit(2);
    x.exit(1);
    due("ten and ten", x.fork(0), 1);
    due("twenty", x.page(0, 9, 3), 20);
    dueRefusal("twenty and ten", STATE, x, () -> x.fork(1));
  }

  private static void orderOfExceptions() {
    SheetKernel x = withArea(16, CODE);
    dueRefusal("area: process", INDEX, x, () -> x.area(8, 0, 0, 3));
    dueRefusal("area: page", INDEX, x, () -> x.area(0, 16, 17, 3));
    dueRefusal("area: count", ARGUMENT, x, () -> x.area(0, 0, 17, 0));
    dueRefusal("area: kind", ARGUMENT, x, () -> x.area(0, 0, 1, 3));
    dueRefusal("area: mapped", STATE, x, () -> x.area(0, 0, 1, 2));
    dueRefusal("share: process", INDEX, x, () -> x.share(1, 0, 0, 0, 0));
    dueRefusal("share: page", INDEX, x, () -> x.share(0, 16, 0, 0, 0));
    dueRefusal("share: other", INDEX, x, () -> x.share(0, 0, 1, 0, 0));
    dueRefusal("share: its page", INDEX, x, () -> x.share(0, 0, 0, -1, 17));
    dueRefusal("share: count", ARGUMENT, x, () -> x.share(0, 0, 0, 0, 0));
    dueRefusal("share: mapped", STATE, x, () -> x.share(0, 0, 0, 0, 1));
    x.free(0, 0, 8);
    dueRefusal("free: process", INDEX, x, () -> x.free(1, 0, 0));
    dueRefusal("free: page", INDEX, x, () -> x.free(0, 16, 0));
    dueRefusal("free: count", ARGUMENT, x, () -> x.free(0, 0, 0));
    dueRefusal("free: not mapped", STATE, x, () -> x.free(0, 7, 2));
    dueRefusal("read: word", INDEX, x, () -> x.read(0, 128));
    dueRefusal("read: refused", STATE, x, () -> x.read(0, 63));
    dueRefusal("write: word", INDEX, x, () -> x.write(0, -1, 1));
    dueRefusal("write: refused", STATE, x, () -> x.write(0, 64, 1));
    dueRefusal("load: word", INDEX, x, () -> x.load(0, 128, 1));
    dueRefusal("load: refused", STATE, x, () -> x.load(0, 0, 1));
    dueRefusal("run: process", INDEX, x, () -> x.run(1, 201));
    dueRefusal("run: n", ARGUMENT, x, () -> x.run(0, 201));
    dueRefusal("slot: slot", INDEX, x, () -> x.slot(24, 3));
    dueRefusal("slot: how", ARGUMENT, x, () -> x.slot(23, 3));
    for (int i = 1; i < 8; i++) x.spawn();
    dueRefusal("fork: process", INDEX, x, () -> x.fork(8));
    dueRefusal("fork: none", STATE, x, () -> x.fork(0));
  }

  private static void onlyTheLast() {
    SheetKernel x = withPageInPool(PRIVATE);
    failAllSlots(x);
    dueThrow("read", ENDED, () -> x.read(0, 24));
    due("it ended", x.about(0, 1), 0);
    due("the fault is counted", faultsOf(x, 0), 11, 1, 0);
    due("slots are BAD", x.slots(-1), 0);
    dueRefusal("once more", INDEX, x, () -> x.read(0, 24));
  }

  private static void anotherEnded() {
    SheetKernel x = withProcesses(2);
    failAllSlots(x);
    x.area(0, 0, 3, PRIVATE);
    x.area(1, 0, 9, PRIVATE);
    fill(x, 0, 0);
    fill(x, 1, 0, 9);
    due("no exception", x.read(0, 8), 0);
    due("1 ended", x.about(1, 0), 1);
    x.write(0, 16, 3);
    due("0 goes on", x.read(0, 16), 3);
  }
}
