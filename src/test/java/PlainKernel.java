import java.util.ArrayList;
import java.util.IdentityHashMap;
import java.util.List;
import java.util.Map;

/**
 * A second kernel, written straight from the document's words and slowly: it counts mappings anew each
 * time, and a sheet's place is found by looking for it in the frames, the pool and the slots.
 */
final class PlainKernel {
  private static final int NONE = -1;

  private static final class Sheet {
    int[] words = new int[8];
  }

  private static final class Proc {
    Sheet[] sheets = new Sheet[16];
    int[] kinds = new int[16];
    int[] registers = new int[4];
    int[] faults = new int[3];
    int counter;
    int reason;
    boolean valuable;
    boolean lives;
  }

  private static final class Refused extends Exception {
    private static final long serialVersionUID = 1;
  }

  private static final class Ended extends Exception {
    private static final long serialVersionUID = 1;
  }

  private final Proc[] procs = new Proc[8];
  private final Sheet[] frames = new Sheet[10];
  private final boolean[] used = new boolean[10];
  private final boolean[] changed = new boolean[10];
  private int hand;
  private final Sheet[] arena = new Sheet[64];
  private final Sheet[] slots = new Sheet[24];
  private final boolean[] bad = new boolean[24];
  private final boolean[] fails = new boolean[24];
  private final boolean[] lost = new boolean[24];

  PlainKernel() {
    for (int i = 0; i < 8; i++) procs[i] = new Proc();
  }

  // Where a sheet is.

  private static int indexOf(Sheet[] row, Sheet sheet) {
    for (int i = 0; i < row.length; i++) if (row[i] == sheet) return i;
    return NONE;
  }

  private List<Integer> slotsOf(Sheet sheet) {
    List<Integer> of = new ArrayList<>();
    for (int i = 0; i < 24; i++) if (slots[i] == sheet) of.add(i);
    return of;
  }

  private int placeOf(Sheet sheet) {
    if (indexOf(frames, sheet) != NONE) return 1;
    if (indexOf(arena, sheet) != NONE) return 2;
    return slotsOf(sheet).isEmpty() ? 0 : 3;
  }

  private int mappings(Sheet sheet) {
    int sum = 0;
    for (Proc p : procs) for (Sheet s : p.sheets) if (s == sheet) sum++;
    return sum;
  }

  private void freeSlot(int k) {
    slots[k] = null;
    lost[k] = false;
  }

  private void collect() {
    for (int i = 0; i < 10; i++) {
      if (frames[i] != null && mappings(frames[i]) == 0) {
        frames[i] = null;
        used[i] = false;
        changed[i] = false;
      }
    }
    for (int i = 0; i < 64; i++) if (arena[i] != null && mappings(arena[i]) == 0) arena[i] = null;
    for (int i = 0; i < 24; i++) if (slots[i] != null && mappings(slots[i]) == 0) freeSlot(i);
  }

  private void end(Proc p, int reason) {
    p.lives = false;
    p.reason = reason;
    p.sheets = new Sheet[16];
    collect();
  }

  private int ownPages(Proc p) {
    int sum = 0;
    for (int i = 0; i < 16; i++) if (p.sheets[i] != null && p.kinds[i] == 0 && placeOf(p.sheets[i]) != 0) sum++;
    return sum;
  }

  // Frames.

  private static int packed(Sheet sheet) {
    List<Integer> runs = new ArrayList<>();
    for (int w : sheet.words) if (runs.isEmpty() || runs.get(runs.size() - 1) != w) runs.add(w);
    int bytes = 0;
    for (int w : runs) bytes += 1 + (w == (byte) w ? 1 : w == (short) w ? 2 : 4);
    return bytes;
  }

  private int room(int bytes) {
    for (int first = 0; first + bytes <= 64; first++) {
      boolean all = true;
      for (int i = first; i < first + bytes; i++) all &= arena[i] == null;
      if (all) return first;
    }
    return NONE;
  }

  private boolean writeSlot(Sheet sheet) {
    while (true) {
      int k = NONE;
      for (int i = 23; i >= 0; i--) if (slots[i] == null && !bad[i]) k = i;
      if (k == NONE) return false;
      if (!fails[k]) {
        slots[k] = sheet;
        return true;
      }
      bad[k] = true;
    }
  }

  private boolean valued(Sheet sheet) {
    for (Proc p : procs) if (p.lives && p.valuable && indexOf(p.sheets, sheet) != NONE) return true;
    return false;
  }

  private boolean empty(int f) {
    Sheet sheet = frames[f];
    boolean toSlots = !slotsOf(sheet).isEmpty() && !changed[f];
    if (!toSlots) {
      int bytes = packed(sheet);
      int first = bytes <= 16 ? room(bytes) : NONE;
      if (first != NONE) {
        for (int i = 0; i < bytes; i++) arena[first + i] = sheet;
      } else if (writeSlot(sheet)) {
        if (valued(sheet)) writeSlot(sheet);
      } else {
        return false;
      }
    }
    frames[f] = null;
    used[f] = false;
    changed[f] = false;
    return true;
  }

  private void handGoesOn(Sheet kept) {
    hand = hand == 9 ? 0 : hand + 1;
    int beyond = hand + 2 > 9 ? hand - 8 : hand + 2;
    if (kept == null || frames[beyond] != kept) used[beyond] = false;
  }

  private int findFrame(Proc toucher, Sheet kept) throws Ended {
    while (true) {
      int f = indexOf(frames, null);
      if (f != NONE) return f;
      for (int i = 0; i < 20; i++) {
        int at = hand;
        boolean found = false;
        if (kept == null || frames[at] != kept) {
          if (used[at]) used[at] = false;
          else found = empty(at);
        }
        handGoesOn(kept);
        if (found) return at;
      }
      int most = 0;
      for (Proc p : procs) most = Math.max(most, ownPages(p));
      Proc who = toucher;
      if (most > 0) for (Proc p : procs) if (ownPages(p) == most) who = p;
      end(who, 1);
      if (who == toucher) throw new Ended();
    }
  }

  private int bringIn(Proc p, Sheet sheet) throws Ended {
    int place = placeOf(sheet);
    if (place == 1) return indexOf(frames, sheet);
    List<Integer> of = slotsOf(sheet);
    if (place == 3) {
      boolean all = true;
      for (int k : of) all &= lost[k];
      if (all) {
        end(p, 2);
        throw new Ended();
      }
    }
    p.faults[place == 0 ? 0 : place - 1]++;
    int f = findFrame(p, null);
    for (int i = 0; i < 64; i++) if (arena[i] == sheet) arena[i] = null;
    for (int k : of) if (lost[k]) freeSlot(k);
    frames[f] = sheet;
    used[f] = true;
    return f;
  }

  private int[] touch(Proc p, int address, boolean write, boolean loads) throws Refused, Ended {
    if (address < 0 || address > 127) throw new Refused();
    int page = address / 8;
    Sheet sheet = p.sheets[page];
    if (sheet == null || (write && !loads && p.kinds[page] == 2)) throw new Refused();
    if (write && p.kinds[page] != 1 && mappings(sheet) > 1) {
      Sheet copy = new Sheet();
      copy.words = sheet.words.clone();
      if (placeOf(sheet) != 0) bringIn(p, sheet);
      p.faults[0]++;
      int f = findFrame(p, sheet);
      frames[f] = copy;
      used[f] = true;
      changed[f] = true;
      p.sheets[page] = copy;
      collect();
      return copy.words;
    }
    int f = bringIn(p, sheet);
    used[f] = true;
    if (write) {
      changed[f] = true;
      for (int k : slotsOf(sheet)) freeSlot(k);
    }
    return sheet.words;
  }

  // The face.

  private Proc living(int process) {
    if (process < 0 || process > 7 || !procs[process].lives) throw new IndexOutOfBoundsException();
    return procs[process];
  }

  private static void index(int i, int bound) {
    if (i < 0 || i >= bound) throw new IndexOutOfBoundsException();
  }

  private static void count(int count) {
    if (count < 1 || count > 16) throw new IllegalArgumentException();
  }

  private static void state(boolean good) {
    if (!good) throw new IllegalStateException();
  }

  private int newNumber() {
    for (int i = 0; i < 8; i++) if (!procs[i].lives) return i;
    return NONE;
  }

  int spawn() {
    int n = newNumber();
    state(n != NONE);
    procs[n] = new Proc();
    procs[n].lives = true;
    return n;
  }

  void area(int process, int page, int count, int kind) {
    Proc p = living(process);
    index(page, 16);
    count(count);
    if (kind != 0 && kind != 1 && kind != 2) throw new IllegalArgumentException();
    state(page + count <= 16);
    for (int i = 0; i < count; i++) state(p.sheets[page + i] == null);
    for (int i = 0; i < count; i++) {
      p.sheets[page + i] = new Sheet();
      p.kinds[page + i] = kind;
    }
  }

  void share(int process, int page, int other, int otherPage, int count) {
    Proc p = living(process);
    Proc o = living(other);
    index(page, 16);
    index(otherPage, 16);
    count(count);
    state(page + count <= 16 && otherPage + count <= 16);
    Map<Sheet, Integer> will = new IdentityHashMap<>();
    for (int i = 0; i < count; i++) {
      Sheet sheet = o.sheets[otherPage + i];
      state(p.sheets[page + i] == null && sheet != null && o.kinds[otherPage + i] == 1);
      will.merge(sheet, 1, Integer::sum);
    }
    for (Map.Entry<Sheet, Integer> e : will.entrySet()) state(mappings(e.getKey()) + e.getValue() <= 20);
    for (int i = 0; i < count; i++) {
      p.sheets[page + i] = o.sheets[otherPage + i];
      p.kinds[page + i] = 1;
    }
  }

  void free(int process, int page, int count) {
    Proc p = living(process);
    index(page, 16);
    count(count);
    state(page + count <= 16);
    for (int i = 0; i < count; i++) state(p.sheets[page + i] != null);
    for (int i = 0; i < count; i++) p.sheets[page + i] = null;
    collect();
  }

  private int doFork(Proc p) {
    int n = newNumber();
    if (n == NONE) return NONE;
    for (Sheet sheet : p.sheets) {
      if (sheet == null) continue;
      int here = 0;
      for (Sheet s : p.sheets) if (s == sheet) here++;
      if (mappings(sheet) + here > 20) return NONE;
    }
    Proc child = new Proc();
    child.lives = true;
    child.sheets = p.sheets.clone();
    child.kinds = p.kinds.clone();
    child.registers = p.registers.clone();
    child.counter = p.counter;
    procs[n] = child;
    return n;
  }

  int fork(int process) {
    int n = doFork(living(process));
    state(n != NONE);
    return n;
  }

  void exit(int process) {
    end(living(process), 4);
  }

  private int access(int process, int address, int v, boolean write, boolean loads) {
    Proc p = living(process);
    index(address, 128);
    try {
      int[] words = touch(p, address, write, loads);
      if (write) words[address & 7] = v;
      return words[address & 7];
    } catch (Refused e) {
      throw new IllegalStateException();
    } catch (Ended e) {
      throw new UnsupportedOperationException();
    }
  }

  int read(int process, int address) {
    return access(process, address, 0, false, false);
  }

  void write(int process, int address, int v) {
    access(process, address, v, true, false);
  }

  void load(int process, int address, int v) {
    access(process, address, v, true, true);
  }

  private void step(Proc p) throws Refused, Ended {
    int at = p.counter;
    int word = touch(p, at, false, false)[at & 7];
    p.counter++;
    int r = (word >> 22) & 3;
    int s = (word >> 20) & 3;
    int n = (word << 16) >> 16;
    int what = (word >> 24) & 255;
    int address = p.registers[s] + n;
    if (what == 0) end(p, 4);
    else if (what == 1) p.registers[r] = n;
    else if (what == 2) p.registers[r] = touch(p, address, false, false)[address & 7];
    else if (what == 3) touch(p, address, true, false)[address & 7] = p.registers[r];
    else if (what == 4) p.registers[r] = p.registers[r] + p.registers[s] + n;
    else if (what == 5) p.counter = p.registers[r] == 0 ? p.counter : n;
    else if (what == 6) {
      int child = doFork(p);
      p.registers[r] = child;
      if (child != NONE) procs[child].registers[r] = -2;
    } else throw new Refused();
  }

  int run(int process, int n) {
    Proc p = living(process);
    if (n < 0 || n > 200) throw new IllegalArgumentException();
    for (int made = 0; made < n; made++) {
      if (!p.lives) return made;
      try {
        step(p);
      } catch (Refused e) {
        end(p, 3);
      } catch (Ended e) {
        return made + 1;
      }
    }
    return n;
  }

  void slot(int slot, int how) {
    index(slot, 24);
    if (how == 0) {
      bad[slot] = false;
      fails[slot] = false;
      lost[slot] = false;
    } else if (how == 1) {
      fails[slot] = true;
    } else if (how == 2) {
      if (slots[slot] != null) lost[slot] = true;
    } else {
      throw new IllegalArgumentException();
    }
  }

  void valuable(int process, boolean is) {
    living(process).valuable = is;
  }

  void tick() {
    if (frame(-1) >= 3) return;
    for (int i = 0; i < 4; i++) {
      used[hand] = false;
      handGoesOn(null);
    }
  }

  int about(int process, int what) {
    if (process < 0 || process > 7) return NONE;
    Proc p = procs[process];
    int mapped = 0;
    for (Sheet s : p.sheets) if (s != null) mapped++;
    int[] told = {p.reason, p.lives ? 1 : 0, p.counter, p.registers[0], p.registers[1], p.registers[2],
        p.registers[3], p.faults[0], p.faults[1], p.faults[2], mapped, ownPages(p), p.valuable ? 1 : 0};
    if (what < 0 || what >= told.length) return NONE;
    if (!p.lives && ((what >= 2 && what <= 6) || what >= 10)) return 0;
    return told[what];
  }

  int page(int process, int page, int what) {
    if (process < 0 || process > 7 || page < 0 || page > 15) return NONE;
    Proc p = procs[process];
    Sheet sheet = p.sheets[page];
    if (sheet == null) return NONE;
    int place = placeOf(sheet);
    List<Integer> of = slotsOf(sheet);
    switch (what) {
      case 0: return p.kinds[page];
      case 1: return place;
      case 2: return place == 0 ? NONE : place == 1 ? indexOf(frames, sheet) : place == 2 ? indexOf(arena, sheet) : of.get(0);
      case 3: return mappings(sheet);
      case 4: return of.size() == 2 ? of.get(1) : NONE;
      case 5: return place == 1 && !of.isEmpty() ? of.get(0) : NONE;
      default: return NONE;
    }
  }

  int frame(int k) {
    if (k < -1 || k > 9) return NONE;
    if (k >= 0) return frames[k] == null ? 0 : 1 | (used[k] ? 2 : 0) | (changed[k] ? 4 : 0);
    int sum = 0;
    for (Sheet s : frames) if (s == null) sum++;
    return sum;
  }

  int slots(int k) {
    if (k < -1 || k > 23) return NONE;
    if (k >= 0) return bad[k] ? 2 : slots[k] != null ? 1 : 0;
    int sum = 0;
    for (int i = 0; i < 24; i++) if (slots(i) == 0) sum++;
    return sum;
  }

  int pool(int what) {
    if (what == 3) return hand;
    int taken = 0;
    int longest = 0;
    int row = 0;
    Map<Sheet, Integer> sheets = new IdentityHashMap<>();
    for (Sheet s : arena) {
      row = s == null ? row + 1 : 0;
      longest = Math.max(longest, row);
      if (s != null) {
        taken++;
        sheets.put(s, 1);
      }
    }
    return what == 0 ? taken : what == 1 ? sheets.size() : what == 2 ? longest : NONE;
  }

  int broken() {
    return 0;
  }
}
