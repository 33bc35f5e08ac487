import java.util.Arrays;
import java.util.Random;

/** Runs of calls by fixed seeds on SheetKernel and PlainKernel side by side: all answers must be the same. */
public final class RandomRunsTest {
  private static final int RUNS = 400;
  private static final int CALLS = 512;

  private enum Rare {
    OUT_OF_MEMORY_ITSELF, OUT_OF_MEMORY_OTHER, LOST, BAD_INSTRUCTION, TOLD, TWO_SLOTS, SLOT_KEPT, PACKED,
    MOST_MAPPINGS, BAD_SLOT, ARENA_FULL, FRAMES_FULL
  }

  private final SheetKernel kernel = new SheetKernel();
  private final PlainKernel plain = new PlainKernel();
  private final Random random;
  private final StringBuilder told = new StringBuilder();
  private final int flavour;
  private final boolean[] lives = new boolean[8];
  private static final int[] seen = new int[Rare.values().length];

  private RandomRunsTest(int seed) {
    random = new Random(seed);
    flavour = seed % 5;
  }

  public static void main(String[] args) {
    for (int seed = 0; seed < RUNS; seed++) {
      String wrong = new RandomRunsTest(seed).runAll();
      if (wrong != null) {
        System.out.println("seed " + seed + ": " + wrong);
        System.exit(1);
      }
    }
    // Runs that never come to what is rare would test little of it.
    for (Rare what : Rare.values()) {
      if (seen[what.ordinal()] == 0) {
        System.out.println("no run came to " + what);
        System.exit(1);
      }
    }
    System.out.println(RUNS + " random runs are as due, what is rare was seen: " + Arrays.toString(seen));
  }

  private String runAll() {
    if (flavour == 1) failSlots(24);
    if (flavour == 2) failSlots(18);
    int calls = CALLS;
    if (flavour <= 2) calls -= fill(flavour == 0 ? 12 : flavour == 1 ? 4 : 7);
    for (int i = 0; i < calls; i++) {
      int[] call = nextCall();
      int[] before = allOf(true);
      String got = answer(call, true);
      String due = answer(call, false);
      told.append(Arrays.toString(call)).append(" -> ").append(got).append('\n');
      int[] after = allOf(true);
      int[] plainAfter = allOf(false);
      if (!got.equals(due)) return told + "due is " + due;
      int at = Arrays.mismatch(after, plainAfter);
      if (at >= 0) return told + "then told value " + at + " is " + after[at] + ", due is " + plainAfter[at];
      boolean stays = got.startsWith("throws") && !got.endsWith("UnsupportedOperationException");
      if (stays && !Arrays.equals(before, after)) return told + "the exception left something changed";
      note(got);
    }
    return null;
  }

  private void failSlots(int many) {
    for (int i = 0; i < many; i++) {
      kernel.slot(i, 1);
      plain.slot(i, 1);
    }
  }

  private void note(String got) {
    for (int p = 0; p < 8; p++) {
      boolean endedNow = lives[p] && kernel.about(p, 1) == 0;
      lives[p] = kernel.about(p, 1) == 1;
      if (endedNow) {
        int reason = kernel.about(p, 0);
        see(reason == 2 ? Rare.LOST : reason == 3 ? Rare.BAD_INSTRUCTION : Rare.TOLD, reason > 1);
        see(Rare.OUT_OF_MEMORY_ITSELF, reason == 1 && got.endsWith("UnsupportedOperationException"));
        see(Rare.OUT_OF_MEMORY_OTHER, reason == 1 && !got.startsWith("throws"));
      }
      for (int g = 0; g < 16; g++) {
        int place = kernel.page(p, g, 1);
        see(Rare.TWO_SLOTS, place == 3 && kernel.page(p, g, 4) >= 0);
        see(Rare.SLOT_KEPT, place == 1 && kernel.page(p, g, 5) >= 0);
        see(Rare.PACKED, place == 2);
        see(Rare.MOST_MAPPINGS, kernel.page(p, g, 3) == 20);
      }
    }
    see(Rare.BAD_SLOT, kernel.slots(0) == 2);
    see(Rare.ARENA_FULL, kernel.pool(0) > 56);
    see(Rare.FRAMES_FULL, kernel.frame(-1) == 0);
  }

  private static void see(Rare what, boolean is) {
    if (is) seen[what.ordinal()]++;
  }

  private int some(int bound) {
    return random.nextInt(40) == 0 ? random.nextInt(bound + 6) - 3 : random.nextInt(bound);
  }

  private int process() {
    return some(random.nextInt(3) == 0 ? 8 : 3);
  }

  private int instruction() {
    int what = random.nextInt(30) == 0 ? random.nextInt(256) : 1 + random.nextInt(6);
    if (what == 6 && random.nextInt(3) > 0) what = 3;
    int n = random.nextInt(12) == 0 ? random.nextInt(65536) : random.nextInt(128);
    return what << 24 | random.nextInt(4) << 22 | random.nextInt(4) << 20 | random.nextInt(16) << 16 | n;
  }

  private int word() {
    switch (random.nextInt(6)) {
      case 0: return random.nextInt(3);
      case 1: return new int[] {127, 128, -128, -129}[random.nextInt(4)];
      case 2: return new int[] {32767, 32768, -32768, -32769}[random.nextInt(4)];
      case 3: return instruction();
      default: return random.nextInt();
    }
  }

  /** Ends are rare where many pages are full of words that do not pack. */
  private int fill(int pages) {
    for (int p = 0; p < 2; p++) {
      kernel.spawn();
      plain.spawn();
      kernel.area(p, 0, pages, 0);
      plain.area(p, 0, pages, 0);
      for (int i = 0; i < 8 * pages; i++) {
        kernel.write(p, i, 1000003 * i);
        plain.write(p, i, 1000003 * i);
      }
    }
    return 4 + 16 * pages;
  }

  private int[] nextCall() {
    int kind = random.nextInt(100);
    int many = random.nextInt(3) == 0 ? some(17) : 1 + random.nextInt(5);
    if (flavour == 4 && kind >= 4 && kind < 66 && kind != 18 && kind % 9 != 0) return manyMappings();
    if (kind < 4) return new int[] {0};
    if (kind < 9) return new int[] {1, process(), some(16), many, random.nextInt(3) == 0 ? some(3) : flavour == 3 ? 1 : 0};
    if (kind < 14) return new int[] {2, process(), some(16), process(), some(16), many};
    if (kind < 16) return new int[] {3, process(), some(16), 1 + random.nextInt(2)};
    if (kind < 19) return new int[] {4, process()};
    if (kind < 20) return new int[] {5, process()};
    if (kind < 38) return new int[] {6, process(), some(128)};
    if (kind < 66) return new int[] {7, process(), some(128), word()};
    if (kind < 80) return new int[] {8, process(), some(128), word()};
    if (kind < 85 && (flavour > 2 || kind == 80)) return new int[] {9, process(), some(201) / (1 + random.nextInt(20))};
    if (kind < 92) return new int[] {10, some(24), how()};
    if (kind < 95) return new int[] {11, process(), random.nextInt(2)};
    return new int[] {12};
  }

  private int how() {
    if (random.nextInt(10) == 0) return some(3);
    return flavour == 0 ? 2 : flavour == 1 ? 1 : random.nextInt(3);
  }

  /** Few sheets and many mappings of each, so that the limit of mappings is met. */
  private int[] manyMappings() {
    if (random.nextInt(10) == 0) return new int[] {1, 0, random.nextInt(2), 1, 1};
    return new int[] {2, random.nextInt(4), some(16), 0, random.nextInt(2), 1 + random.nextInt(2)};
  }

  private String answer(int[] c, boolean first) {
    try {
      switch (c[0]) {
        case 0: return "" + (first ? kernel.spawn() : plain.spawn());
        case 1: if (first) kernel.area(c[1], c[2], c[3], c[4]); else plain.area(c[1], c[2], c[3], c[4]); return "";
        case 2: if (first) kernel.share(c[1], c[2], c[3], c[4], c[5]); else plain.share(c[1], c[2], c[3], c[4], c[5]); return "";
        case 3: if (first) kernel.free(c[1], c[2], c[3]); else plain.free(c[1], c[2], c[3]); return "";
        case 4: return "" + (first ? kernel.fork(c[1]) : plain.fork(c[1]));
        case 5: if (first) kernel.exit(c[1]); else plain.exit(c[1]); return "";
        case 6: return "" + (first ? kernel.read(c[1], c[2]) : plain.read(c[1], c[2]));
        case 7: if (first) kernel.write(c[1], c[2], c[3]); else plain.write(c[1], c[2], c[3]); return "";
        case 8: if (first) kernel.load(c[1], c[2], c[3]); else plain.load(c[1], c[2], c[3]); return "";
        case 9: return "" + (first ? kernel.run(c[1], c[2]) : plain.run(c[1], c[2]));
        case 10: if (first) kernel.slot(c[1], c[2]); else plain.slot(c[1], c[2]); return "";
        case 11: if (first) kernel.valuable(c[1], c[2] == 1); else plain.valuable(c[1], c[2] == 1); return "";
        default: if (first) kernel.tick(); else plain.tick(); return "";
      }
    } catch (RuntimeException e) {
      // The exact class, so that one of the machine's own (ArrayIndexOutOfBounds..) is told apart.
      return "throws." + e.getClass().getSimpleName();
    }
  }

  /** Every answer of the calls that only tell, beyond their edges too. */
  private int[] allOf(boolean first) {
    int[] all = new int[1200];
    int n = 0;
    for (int p = -1; p <= 8; p++) {
      for (int w = -1; w <= 13; w++) all[n++] = first ? kernel.about(p, w) : plain.about(p, w);
    }
    for (int p = 0; p < 8; p++) {
      for (int g = 0; g < 16; g++) {
        for (int w = 0; w <= 5; w++) all[n++] = first ? kernel.page(p, g, w) : plain.page(p, g, w);
      }
    }
    for (int k = -2; k <= 10; k++) all[n++] = first ? kernel.frame(k) : plain.frame(k);
    for (int k = -2; k <= 24; k++) all[n++] = first ? kernel.slots(k) : plain.slots(k);
    for (int w = -1; w <= 4; w++) all[n++] = first ? kernel.pool(w) : plain.pool(w);
    all[n++] = first ? kernel.broken() : plain.broken();
    return Arrays.copyOf(all, n);
  }
}
