import java.lang.reflect.Array;
import java.lang.reflect.Field;

/**
 * Promise 20: broken() counts what is not so. No run of calls brings that about, so each test here damages
 * the state from outside, by the names of SheetKernel's own fields: who renames one, renames it here.
 */
final class BrokenTest extends Checks {
  public static void main(String[] args) {
    test("a new object", BrokenTest::newObject);
    test("a frame's sheet that is not told to be in it: told to be elsewhere", BrokenTest::toldElsewhere);
    test("a frame's sheet that is not told to be in it: told to be in another", BrokenTest::toldInAnother);
    test("a sheet in two frames", BrokenTest::inTwoFrames);
    test("bytes of the arena that are taken by none", BrokenTest::bytesOfNone);
    test("the last byte of the arena", BrokenTest::lastByte);
    test("bytes of the arena that are taken by two", BrokenTest::bytesOfTwo);
    test("slots that are taken by none", BrokenTest::slotsOfNone);
    test("slots that are taken by two", BrokenTest::slotsOfTwo);
    test("a slot that is BAD is taken by none, and so it should be", BrokenTest::badSlot);
    test("sheets whose mappings are not as many as pages say: more", BrokenTest::mappingsMore);
    test("sheets whose mappings are not as many as pages say: fewer", BrokenTest::mappingsFewer);
    test("of as many sheets as there can be", BrokenTest::allSheets);
    test("how many: all together", BrokenTest::allTogether);
    finish();
  }

  private static void newObject() {
    due("broken", new SheetKernel().broken(), 0);
  }

  private static void toldElsewhere() {
    SheetKernel x = withFullArena();
    put(sheetOf(x, 0, 9), "place", ABSENT);
    due("broken", x.broken(), 1);
    put(sheetOf(x, 0, 9), "place", FRAME);
    due("broken, mended", x.broken(), 0);
  }

  private static void toldInAnother() {
    SheetKernel x = withFullArena();
    put(sheetOf(x, 0, 0), "at", 1);
    put(sheetOf(x, 0, 9), "at", 0);
    due("broken", x.broken(), 2);
    put(sheetOf(x, 0, 0), "at", 0);
    due("broken, one mended", x.broken(), 1);
  }

  private static void inTwoFrames() {
    SheetKernel x = withArea(1, PRIVATE);
    x.write(0, 0, 1);
    Array.set(get(get(x, "frames"), "sheets"), 9, sheetOf(x, 0, 0));
    due("broken", x.broken(), 1);
  }

  private static void bytesOfNone() {
    SheetKernel x = withPageInPool(PRIVATE);
    Object taken = get(get(x, "arena"), "taken");
    Array.setBoolean(taken, 4, true);
    due("broken", x.broken(), 1);
    Array.setBoolean(taken, 5, true);
    due("broken, two", x.broken(), 2);
  }

  private static void lastByte() {
    SheetKernel x = new SheetKernel();
    Array.setBoolean(get(get(x, "arena"), "taken"), 63, true);
    due("broken", x.broken(), 1);
  }

  private static void bytesOfTwo() {
    SheetKernel x = withFullArena();
    due("a page's bytes", x.page(0, 4, 2), 16);
    put(sheetOf(x, 0, 4), "at", 15);
    // Byte 15 is taken by two, byte 31 by none.
    due("broken", x.broken(), 2);
    put(sheetOf(x, 0, 4), "at", 0);
    due("broken, all of them", x.broken(), 32);
  }

  private static void slotsOfNone() {
    SheetKernel x = withPageInSlots(true, PRIVATE);
    Object state = get(get(x, "disk"), "state");
    Array.setInt(state, 2, 1);
    due("broken", x.broken(), 1);
    Array.setInt(state, 23, 1);
    due("broken, and the last one", x.broken(), 2);
  }

  private static void slotsOfTwo() {
    SheetKernel x = withFullArena();
    due("a page's slot", x.page(0, 7, 2), 0);
    due("another one's", x.page(0, 8, 2), 1);
    put(sheetOf(x, 0, 8), "upper", 0);
    due("broken", x.broken(), 1);
    put(sheetOf(x, 0, 8), "upper", SheetKernel.NONE);
    put(sheetOf(x, 0, 8), "lower", 0);
    // Slot 0 is taken by two, slot 1 by none.
    due("broken, the lower one", x.broken(), 2);
  }

  private static void badSlot() {
    SheetKernel x = withArea(16, PRIVATE);
    failSlots(x, 0, 1);
    fill(x, 0, 0, 11);
    due("slot 0", x.slots(0), 2);
    due("broken", x.broken(), 0);
  }

  private static void mappingsMore() {
    SheetKernel x = withArea(3, SHARED);
    put(sheetOf(x, 0, 1), "mappings", 2);
    due("broken", x.broken(), 1);
    put(sheetOf(x, 0, 2), "mappings", 20);
    due("broken, two sheets", x.broken(), 2);
  }

  private static void mappingsFewer() {
    SheetKernel x = withArea(3, PRIVATE);
    x.fork(0);
    due("broken", x.broken(), 0);
    put(sheetOf(x, 0, 1), "mappings", 1);
    due("broken, one told", x.broken(), 1);
  }

  private static void allSheets() {
    SheetKernel x = withProcesses(8);
    for (int p = 0; p < 8; p++) x.area(p, 0, 16, PRIVATE);
    due("broken, none yet", x.broken(), 0);
    for (int i = 0; i < 128; i++) {
      put(sheetOf(x, i / 16, i % 16), "mappings", 3);
      due("broken, as many as are damaged", x.broken(), i + 1);
    }
  }

  private static void allTogether() {
    SheetKernel x = withFullArena();
    put(sheetOf(x, 0, 9), "at", 8);
    put(sheetOf(x, 0, 4), "at", 17);
    put(sheetOf(x, 0, 7), "upper", 1);
    put(sheetOf(x, 0, 0), "mappings", 2);
    // A frame, the bytes 16 (none) and 32 (two), slot 1 (two), a sheet's mappings.
    due("broken", x.broken(), 5);
  }

  // ---- the state from outside

  private static Object sheetOf(SheetKernel x, int process, int page) {
    return Array.get(get(Array.get(get(x, "tasks"), process), "sheets"), page);
  }

  private static Object get(Object from, String name) {
    try {
      return open(from, name).get(from);
    } catch (ReflectiveOperationException e) {
      throw new IllegalStateException("no field " + name);
    }
  }

  private static void put(Object into, String name, int v) {
    try {
      open(into, name).setInt(into, v);
    } catch (ReflectiveOperationException e) {
      throw new IllegalStateException("no field " + name);
    }
  }

  private static Field open(Object of, String name) throws NoSuchFieldException {
    Field field = of.getClass().getDeclaredField(name);
    field.setAccessible(true);
    return field;
  }
}
