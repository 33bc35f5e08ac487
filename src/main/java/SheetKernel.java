/** A kernel that pages on demand; ../shared/DOC.md says what each call does. */
public final class SheetKernel {
    public static final int NONE = -1;

    private static final int TASKS = 8;
    private static final int PAGES = 16;
    private static final int WORDS = 8;
    private static final int ADDRESSES = PAGES * WORDS;
    private static final int REGISTERS = 4;
    private static final int FAULT_KINDS = 3;
    private static final int MOST_MAPPINGS = 20;
    private static final int MOST_STEPS = 200;

    private static final int FRAMES = 10;
    private static final int SEARCH = 20;
    private static final int BEYOND = 2;
    private static final int TICK_BELOW = 3;
    private static final int TICK_FRAMES = 4;

    private static final int ARENA = 64;
    private static final int MOST_PACKED = 16;
    private static final int SLOTS = 24;

    private static final int PRIVATE = 0;
    private static final int SHARED = 1;
    private static final int CODE = 2;

    private static final int ABSENT = 0;
    private static final int IN_FRAME = 1;
    private static final int IN_POOL = 2;
    private static final int IN_SLOTS = 3;

    private static final int SLOT_FREE = 0;
    private static final int SLOT_TAKEN = 1;
    private static final int SLOT_BAD = 2;

    private static final int OUT_OF_MEMORY = 1;
    private static final int ALL_LOST = 2;
    private static final int INSTRUCTION = 3;
    private static final int TOLD = 4;

    private static final int READ = 0;
    private static final int WRITE = 1;
    private static final int LOAD = 2;

    private final Task[] tasks = new Task[TASKS];
    private final Sheets store = new Sheets();
    private final Frames frames = new Frames();
    private final Arena arena = new Arena();
    private final Disk disk = new Disk();

    public SheetKernel() {
        for (int i = 0; i < TASKS; i++) {
            tasks[i] = new Task();
        }
    }

    // ---- processes and their pages

    public int spawn() throws IllegalStateException {
        int number = lowestNotLiving();
        if (number == NONE) {
            throw new IllegalStateException("all processes live");
        }
        tasks[number].begin();
        return number;
    }

    public void area(int process, int page, int count, int kind)
            throws IndexOutOfBoundsException, IllegalArgumentException, IllegalStateException {
        Task task = living(process);
        needPage(page);
        needCount(count);
        if (kind < PRIVATE || kind > CODE) {
            throw new IllegalArgumentException("no such kind");
        }
        needUnmapped(task, page, count);
        for (int i = page; i < page + count; i++) {
            task.map(i, store.take(), kind);
        }
    }

    public void share(int process, int page, int other, int otherPage, int count)
            throws IndexOutOfBoundsException, IllegalArgumentException, IllegalStateException {
        Task task = living(process);
        needPage(page);
        Task from = living(other);
        needPage(otherPage);
        needCount(count);
        needUnmapped(task, page, count);
        needShared(from, otherPage, count);
        if (!from.mayMapAgain(otherPage, count)) {
            throw new IllegalStateException("a sheet would have too many mappings");
        }
        for (int i = 0; i < count; i++) {
            task.map(page + i, from.sheets[otherPage + i], SHARED);
        }
    }

    public void free(int process, int page, int count)
            throws IndexOutOfBoundsException, IllegalArgumentException, IllegalStateException {
        Task task = living(process);
        needPage(page);
        needCount(count);
        needMapped(task, page, count);
        for (int i = page; i < page + count; i++) {
            unmap(task, i);
        }
    }

    public int fork(int process) throws IndexOutOfBoundsException, IllegalStateException {
        int number = doubled(living(process));
        if (number == NONE) {
            throw new IllegalStateException("there is no new process");
        }
        return number;
    }

    public void exit(int process) throws IndexOutOfBoundsException {
        endTask(living(process), TOLD);
    }

    public void valuable(int process, boolean is) throws IndexOutOfBoundsException {
        living(process).valuable = is;
    }

    // ---- words and instructions

    public int read(int process, int address)
            throws IndexOutOfBoundsException, IllegalStateException, UnsupportedOperationException {
        Task task = living(process);
        needAddress(address);
        Sheet sheet = touch(task, address, READ);
        if (sheet == null) {
            throwUntouched(task);
            return 0;
        }
        return sheet.words[address % WORDS];
    }

    public void write(int process, int address, int v)
            throws IndexOutOfBoundsException, IllegalStateException, UnsupportedOperationException {
        put(process, address, v, WRITE);
    }

    public void load(int process, int address, int v)
            throws IndexOutOfBoundsException, IllegalStateException, UnsupportedOperationException {
        put(process, address, v, LOAD);
    }

    public int run(int process, int n) throws IndexOutOfBoundsException, IllegalArgumentException {
        Task task = living(process);
        if (n < 0 || n > MOST_STEPS) {
            throw new IllegalArgumentException("no such number of steps");
        }
        int made = 0;
        while (made < n && task.lives) {
            made++;
            int address = task.counter;
            Sheet sheet = touch(task, address, READ);
            if (sheet == null) {
                endRefused(task);
            } else {
                task.counter = address + 1;
                perform(task, sheet.words[address % WORDS]);
            }
        }
        return made;
    }

    // ---- the disk and the clock

    public void slot(int slot, int how) throws IndexOutOfBoundsException, IllegalArgumentException {
        if (slot < 0 || slot >= SLOTS) {
            throw new IndexOutOfBoundsException("no such slot");
        }
        if (how < 0 || how > 2) {
            throw new IllegalArgumentException("no such how");
        }
        if (how == 0) {
            disk.mend(slot);
        } else if (how == 1) {
            disk.fails[slot] = true;
        } else if (disk.state[slot] == SLOT_TAKEN) {
            disk.lost[slot] = true;
        }
    }

    public void tick() {
        if (frames.vacant() >= TICK_BELOW) {
            return;
        }
        for (int i = 0; i < TICK_FRAMES; i++) {
            frames.used[frames.hand] = false;
            frames.moveHand(NONE);
        }
    }

    // ---- what is told

    public int about(int process, int what) {
        if (process < 0 || process >= TASKS || what < 0 || what > 12) {
            return NONE;
        }
        Task task = tasks[process];
        if (what == 0) {
            return task.reason;
        }
        if (what == 1) {
            return task.lives ? 1 : 0;
        }
        if (what >= 7 && what <= 9) {
            return task.faults[what - 7];
        }
        return task.lives ? task.told(what) : 0;
    }

    public int page(int process, int page, int what) {
        if (process < 0 || process >= TASKS || page < 0 || page >= PAGES) {
            return NONE;
        }
        Task task = tasks[process];
        Sheet sheet = task.sheets[page];
        if (sheet == null) {
            return NONE;
        }
        return what == 0 ? task.kinds[page] : sheet.told(what);
    }

    public int frame(int k) {
        if (k == -1) {
            return frames.vacant();
        }
        if (k < 0 || k >= FRAMES) {
            return NONE;
        }
        if (frames.sheets[k] == null) {
            return 0;
        }
        return 1 + (frames.used[k] ? 2 : 0) + (frames.changed[k] ? 4 : 0);
    }

    public int slots(int k) {
        if (k == -1) {
            return disk.countFree();
        }
        if (k < 0 || k >= SLOTS) {
            return NONE;
        }
        return disk.state[k];
    }

    public int pool(int what) {
        switch (what) {
            case 0:
                return arena.takenBytes();
            case 1:
                return arena.packed;
            case 2:
                return arena.longestRow();
            case 3:
                return frames.hand;
            default:
                return NONE;
        }
    }

    public int broken() {
        int wrong = 0;
        for (int k = 0; k < FRAMES; k++) {
            Sheet sheet = frames.sheets[k];
            if (sheet != null && (sheet.place != IN_FRAME || sheet.at != k)) {
                wrong++;
            }
        }
        countPages();
        arena.clearClaims();
        disk.clearClaims();
        for (int i = 0; i < store.all.length; i++) {
            Sheet sheet = store.all[i];
            if (sheet.seen != sheet.mappings) {
                wrong++;
            }
            arena.claim(sheet);
            disk.claim(sheet.lower);
            disk.claim(sheet.upper);
        }
        return wrong + arena.wrongClaims() + disk.wrongClaims();
    }

    // ---- tests of what a call is given, in the document's order

    private Task living(int process) {
        if (process < 0 || process >= TASKS || !tasks[process].lives) {
            throw new IndexOutOfBoundsException("no such process lives");
        }
        return tasks[process];
    }

    private void needPage(int page) {
        if (page < 0 || page >= PAGES) {
            throw new IndexOutOfBoundsException("no such page");
        }
    }

    private void needAddress(int address) {
        if (address < 0 || address >= ADDRESSES) {
            throw new IndexOutOfBoundsException("no such word");
        }
    }

    private void needCount(int count) {
        if (count < 1 || count > PAGES) {
            throw new IllegalArgumentException("no such count");
        }
    }

    private void needUnmapped(Task task, int page, int count) {
        if (page + count > PAGES) {
            throw new IllegalStateException("no such pages");
        }
        for (int i = page; i < page + count; i++) {
            if (task.sheets[i] != null) {
                throw new IllegalStateException("a page is mapped");
            }
        }
    }

    private void needMapped(Task task, int page, int count) {
        if (page + count > PAGES) {
            throw new IllegalStateException("no such pages");
        }
        for (int i = page; i < page + count; i++) {
            if (task.sheets[i] == null) {
                throw new IllegalStateException("a page is not mapped");
            }
        }
    }

    private void needShared(Task task, int page, int count) {
        needMapped(task, page, count);
        for (int i = page; i < page + count; i++) {
            if (task.kinds[i] != SHARED) {
                throw new IllegalStateException("a page is not shared");
            }
        }
    }

    // ---- the lives of processes

    private int lowestNotLiving() {
        for (int i = 0; i < TASKS; i++) {
            if (!tasks[i].lives) {
                return i;
            }
        }
        return NONE;
    }

    /** Forks: the new process's number, or NONE with nothing changed. */
    private int doubled(Task parent) {
        int number = lowestNotLiving();
        if (number == NONE || !parent.mayMapAgain(0, PAGES)) {
            return NONE;
        }
        Task child = tasks[number];
        child.begin();
        child.counter = parent.counter;
        for (int i = 0; i < REGISTERS; i++) {
            child.registers[i] = parent.registers[i];
        }
        for (int i = 0; i < PAGES; i++) {
            if (parent.sheets[i] != null) {
                child.map(i, parent.sheets[i], parent.kinds[i]);
            }
        }
        return number;
    }

    private void endTask(Task task, int reason) {
        task.lives = false;
        task.valuable = false;
        task.reason = reason;
        for (int i = 0; i < PAGES; i++) {
            unmap(task, i);
        }
    }

    private void unmap(Task task, int page) {
        Sheet sheet = task.sheets[page];
        if (sheet == null) {
            return;
        }
        task.sheets[page] = null;
        sheet.mappings--;
        if (sheet.mappings > 0) {
            return;
        }
        if (sheet.place == IN_FRAME) {
            frames.vacate(sheet.at);
        } else if (sheet.place == IN_POOL) {
            arena.unpack(sheet);
        }
        disk.release(sheet.lower);
        disk.release(sheet.upper);
        sheet.clear();
        store.giveBack(sheet);
    }

    // ---- touching

    /** The sheet, in a frame; null if the touch is refused (the process lives) or the process ended. */
    private Sheet touch(Task task, int address, int way) {
        Sheet sheet = task.sheetFor(address, way);
        if (sheet == null) {
            return null;
        }
        int page = address / WORDS;
        boolean copied = way != READ && task.kinds[page] != SHARED && sheet.mappings > 1;
        if (sheet.place != IN_FRAME && !(copied && sheet.place == ABSENT)) {
            int at = startFault(task, sheet) ? findFrame(task, NONE) : NONE;
            if (at == NONE) {
                return null;
            }
            bringIn(sheet, at);
        }
        if (copied) {
            task.faults[0]++;
            // What is copied must stay in its frame while the hand goes round.
            int at = findFrame(task, sheet.place == IN_FRAME ? sheet.at : NONE);
            if (at == NONE) {
                return null;
            }
            sheet = copyInto(task, page, at);
        }
        frames.touched(sheet.at, way != READ);
        if (way != READ) {
            disk.giveBack(sheet);
        }
        return sheet;
    }

    /** Counts the fault of a sheet that is not in a frame; false if the process ends as all is lost. */
    private boolean startFault(Task task, Sheet sheet) {
        if (sheet.place == IN_SLOTS && disk.isGone(sheet.lower) && disk.isGone(sheet.upper)) {
            endTask(task, ALL_LOST);
            return false;
        }
        task.faults[sheet.faultKind()]++;
        return true;
    }

    private void bringIn(Sheet sheet, int at) {
        if (sheet.place == IN_POOL) {
            arena.unpack(sheet);
        } else if (sheet.place == IN_SLOTS) {
            disk.giveBackLost(sheet);
        }
        frames.seat(sheet, at);
    }

    /** A copy of a page's sheet, mapped in its place, in a frame. */
    private Sheet copyInto(Task task, int page, int at) {
        Sheet sheet = task.sheets[page];
        Sheet copy = store.take();
        if (sheet != null) {
            for (int i = 0; i < WORDS; i++) {
                copy.words[i] = sheet.words[i];
            }
        }
        frames.seat(copy, at);
        // The old one may be gone with this: a process that ended on the way may have had the other mapping.
        unmap(task, page);
        task.map(page, copy, task.kinds[page]);
        return copy;
    }

    /** A frame for what the task brings in, never the one to keep; NONE if the task ended. */
    private int findFrame(Task task, int keep) {
        // Each round without a frame ends a process, so there are no more rounds than processes.
        for (int round = 0; round < TASKS; round++) {
            int at = frames.lowestVacant();
            for (int i = 0; i < SEARCH && at == NONE; i++) {
                int hand = frames.hand;
                if (hand != keep && !frames.unmark(hand) && putAway(hand)) {
                    at = hand;
                }
                frames.moveHand(keep);
            }
            if (at != NONE) {
                return at;
            }
            Task ended = whoEnds(task);
            endTask(ended, OUT_OF_MEMORY);
            if (ended == task) {
                return NONE;
            }
        }
        return NONE;
    }

    /** Empties a frame, if its sheet can go somewhere. */
    private boolean putAway(int at) {
        Sheet sheet = frames.sheets[at];
        if (sheet == null) {
            return false;
        }
        if (sheet.lower != NONE && !frames.changed[at]) {
            sheet.place = IN_SLOTS;
            sheet.at = NONE;
        } else if (!arena.pack(sheet) && !storeInSlots(sheet)) {
            return false;
        }
        frames.vacate(at);
        return true;
    }

    private boolean storeInSlots(Sheet sheet) {
        int first = disk.takeLowest();
        if (first == NONE) {
            return false;
        }
        sheet.place = IN_SLOTS;
        sheet.at = NONE;
        sheet.lower = first;
        sheet.upper = isValuable(sheet) ? disk.takeLowest() : NONE;
        return true;
    }

    private boolean isValuable(Sheet sheet) {
        for (int i = 0; i < TASKS; i++) {
            Task task = tasks[i];
            for (int k = 0; k < PAGES && task.valuable; k++) {
                if (task.sheets[k] == sheet) {
                    return true;
                }
            }
        }
        return false;
    }

    private Task whoEnds(Task toucher) {
        Task chosen = toucher;
        int most = 0;
        for (int i = 0; i < TASKS; i++) {
            int pages = tasks[i].ownPages();
            if (pages > 0 && pages >= most) {
                most = pages;
                chosen = tasks[i];
            }
        }
        return chosen;
    }

    private void put(int process, int address, int v, int way) {
        Task task = living(process);
        needAddress(address);
        Sheet sheet = touch(task, address, way);
        if (sheet == null) {
            throwUntouched(task);
            return;
        }
        sheet.words[address % WORDS] = v;
    }

    private void throwUntouched(Task task) {
        if (task.lives) {
            throw new IllegalStateException("the touch is refused");
        }
        throw new UnsupportedOperationException("the process ended");
    }

    // ---- instructions

    private void perform(Task task, int word) {
        int r = (word >>> 22) & 3;
        int s = (word >>> 20) & 3;
        int n = (short) word;
        int[] registers = task.registers;
        int sum = registers[s] + n;
        switch (word >>> 24) {
            case 0:
                endTask(task, TOLD);
                break;
            case 1:
                registers[r] = n;
                break;
            case 2:
                Sheet from = touch(task, sum, READ);
                if (from == null) {
                    endRefused(task);
                } else {
                    registers[r] = from.words[sum % WORDS];
                }
                break;
            case 3:
                Sheet to = touch(task, sum, WRITE);
                if (to == null) {
                    endRefused(task);
                } else {
                    to.words[sum % WORDS] = registers[r];
                }
                break;
            case 4:
                registers[r] += sum;
                break;
            case 5:
                if (registers[r] != 0) {
                    task.counter = n;
                }
                break;
            case 6:
                forkInto(task, r);
                break;
            default:
                endTask(task, INSTRUCTION);
                break;
        }
    }

    private void forkInto(Task task, int r) {
        int number = doubled(task);
        task.registers[r] = number;
        if (number != NONE) {
            tasks[number].registers[r] = -2;
        }
    }

    /** Behind a touch without a sheet: a process that ended in it keeps the reason of that. */
    private void endRefused(Task task) {
        if (task.lives) {
            endTask(task, INSTRUCTION);
        }
    }

    // ---- the state's own test

    private void countPages() {
        for (int i = 0; i < store.all.length; i++) {
            store.all[i].seen = 0;
        }
        for (int i = 0; i < TASKS; i++) {
            for (int k = 0; k < PAGES; k++) {
                Sheet sheet = tasks[i].sheets[k];
                if (sheet != null) {
                    sheet.seen++;
                }
            }
        }
    }

    /** Eight words, and where they are. */
    private static final class Sheet {
        final int[] words = new int[WORDS];
        int mappings = 0;
        int place = ABSENT;
        /** The frame, or the first byte of the arena. */
        int at = NONE;
        int bytes = 0;
        int lower = NONE;
        int upper = NONE;
        /** Scratch for counting, so that no call needs a row of its own. */
        int seen = 0;

        void clear() {
            for (int i = 0; i < WORDS; i++) {
                words[i] = 0;
            }
            mappings = 0;
            place = ABSENT;
            at = NONE;
            bytes = 0;
            lower = NONE;
            upper = NONE;
        }

        int faultKind() {
            if (place == IN_SLOTS) {
                return 2;
            }
            return place == IN_POOL ? 1 : 0;
        }

        int packedBytes() {
            int sum = 0;
            for (int i = 0; i < WORDS; i++) {
                int word = words[i];
                if (i > 0 && word == words[i - 1]) {
                    continue;
                }
                if (word >= -128 && word <= 127) {
                    sum += 2;
                } else if (word >= -32768 && word <= 32767) {
                    sum += 3;
                } else {
                    sum += 5;
                }
            }
            return sum;
        }

        int told(int what) {
            switch (what) {
                case 1:
                    return place;
                case 2:
                    return place == IN_SLOTS ? lower : at;
                case 3:
                    return mappings;
                case 4:
                    return upper;
                case 5:
                    return place == IN_FRAME ? lower : NONE;
                default:
                    return NONE;
            }
        }
    }

    /** All sheets there can be: as many as all processes have pages. */
    private static final class Sheets {
        final Sheet[] all = new Sheet[TASKS * PAGES];
        final Sheet[] spare = new Sheet[TASKS * PAGES];
        int spares = TASKS * PAGES;

        Sheets() {
            for (int i = 0; i < all.length; i++) {
                all[i] = new Sheet();
                spare[i] = all[i];
            }
        }

        Sheet take() {
            // A sheet is only taken while some page has none of its own, so one is spare;
            // the test keeps the index in the row all the same.
            if (spares <= 0) {
                return new Sheet();
            }
            spares--;
            return spare[spares];
        }

        void giveBack(Sheet sheet) {
            if (spares < spare.length) {
                spare[spares] = sheet;
                spares++;
            }
        }
    }

    /** A process, or what is told of the latest one by its number. */
    private static final class Task {
        final int[] registers = new int[REGISTERS];
        final int[] faults = new int[FAULT_KINDS];
        final int[] kinds = new int[PAGES];
        final Sheet[] sheets = new Sheet[PAGES];
        boolean lives = false;
        boolean valuable = false;
        int counter = 0;
        int reason = 0;

        void begin() {
            lives = true;
            valuable = false;
            counter = 0;
            reason = 0;
            for (int i = 0; i < REGISTERS; i++) {
                registers[i] = 0;
            }
            for (int i = 0; i < FAULT_KINDS; i++) {
                faults[i] = 0;
            }
        }

        void map(int page, Sheet sheet, int kind) {
            sheets[page] = sheet;
            kinds[page] = kind;
            sheet.mappings++;
        }

        /** The sheet of an address; null if the touch is refused. */
        Sheet sheetFor(int address, int way) {
            if (address < 0 || address >= ADDRESSES) {
                return null;
            }
            int page = address / WORDS;
            if (way == WRITE && kinds[page] == CODE) {
                return null;
            }
            return sheets[page];
        }

        /** Whether the sheets of these pages can be mapped once more for each of the pages. */
        boolean mayMapAgain(int page, int count) {
            for (int i = page; i < page + count && i < PAGES; i++) {
                if (sheets[i] != null) {
                    sheets[i].seen = 0;
                }
            }
            for (int i = page; i < page + count && i < PAGES; i++) {
                Sheet sheet = sheets[i];
                if (sheet != null) {
                    sheet.seen++;
                    if (sheet.mappings + sheet.seen > MOST_MAPPINGS) {
                        return false;
                    }
                }
            }
            return true;
        }

        int mappedPages() {
            int sum = 0;
            for (int i = 0; i < PAGES; i++) {
                if (sheets[i] != null) {
                    sum++;
                }
            }
            return sum;
        }

        int ownPages() {
            int sum = 0;
            for (int i = 0; i < PAGES; i++) {
                Sheet sheet = sheets[i];
                if (sheet != null && kinds[i] == PRIVATE && sheet.place != ABSENT) {
                    sum++;
                }
            }
            return sum;
        }

        /** Of one that lives. */
        int told(int what) {
            if (what == 2) {
                return counter;
            }
            if (what >= 3 && what <= 6) {
                return registers[what - 3];
            }
            if (what == 10) {
                return mappedPages();
            }
            if (what == 11) {
                return ownPages();
            }
            return valuable ? 1 : 0;
        }
    }

    private static final class Frames {
        final Sheet[] sheets = new Sheet[FRAMES];
        final boolean[] used = new boolean[FRAMES];
        final boolean[] changed = new boolean[FRAMES];
        int hand = 0;

        int vacant() {
            int sum = 0;
            for (int i = 0; i < FRAMES; i++) {
                if (sheets[i] == null) {
                    sum++;
                }
            }
            return sum;
        }

        int lowestVacant() {
            for (int i = 0; i < FRAMES; i++) {
                if (sheets[i] == null) {
                    return i;
                }
            }
            return NONE;
        }

        /** USED at once: a sheet that comes in only to be copied is touched by nothing else. */
        void seat(Sheet sheet, int at) {
            if (at < 0 || at >= FRAMES) {
                return;
            }
            sheets[at] = sheet;
            used[at] = true;
            changed[at] = false;
            sheet.place = IN_FRAME;
            sheet.at = at;
        }

        void touched(int at, boolean written) {
            if (at < 0 || at >= FRAMES) {
                return;
            }
            used[at] = true;
            if (written) {
                changed[at] = true;
            }
        }

        void vacate(int at) {
            if (at < 0 || at >= FRAMES) {
                return;
            }
            sheets[at] = null;
            used[at] = false;
            changed[at] = false;
        }

        /** Takes the mark USED away: whether it was there. */
        boolean unmark(int at) {
            boolean was = used[at];
            used[at] = false;
            return was;
        }

        /** The frame to keep has its marks left alone; NONE keeps none. */
        void moveHand(int keep) {
            hand = (hand + 1) % FRAMES;
            int beyond = (hand + BEYOND) % FRAMES;
            if (beyond != keep) {
                used[beyond] = false;
            }
        }
    }

    private static final class Arena {
        final boolean[] taken = new boolean[ARENA];
        final int[] claims = new int[ARENA];
        int packed = 0;

        /** Packs a sheet into the arena, if it packs and there is room. */
        boolean pack(Sheet sheet) {
            int bytes = sheet.packedBytes();
            int first = bytes <= MOST_PACKED ? lowestRow(bytes) : NONE;
            if (first == NONE) {
                return false;
            }
            for (int i = first; i < first + bytes && i < ARENA; i++) {
                taken[i] = true;
            }
            packed++;
            sheet.place = IN_POOL;
            sheet.at = first;
            sheet.bytes = bytes;
            return true;
        }

        void unpack(Sheet sheet) {
            for (int i = sheet.at; i >= 0 && i < sheet.at + sheet.bytes && i < ARENA; i++) {
                taken[i] = false;
            }
            packed--;
            sheet.bytes = 0;
        }

        int lowestRow(int bytes) {
            int row = 0;
            for (int i = 0; i < ARENA; i++) {
                row = taken[i] ? 0 : row + 1;
                if (row == bytes) {
                    return i + 1 - bytes;
                }
            }
            return NONE;
        }

        int longestRow() {
            int row = 0;
            int longest = 0;
            for (int i = 0; i < ARENA; i++) {
                row = taken[i] ? 0 : row + 1;
                longest = row > longest ? row : longest;
            }
            return longest;
        }

        int takenBytes() {
            int sum = 0;
            for (int i = 0; i < ARENA; i++) {
                if (taken[i]) {
                    sum++;
                }
            }
            return sum;
        }

        void clearClaims() {
            for (int i = 0; i < ARENA; i++) {
                claims[i] = 0;
            }
        }

        void claim(Sheet sheet) {
            if (sheet.place != IN_POOL) {
                return;
            }
            for (int i = sheet.at; i >= 0 && i < sheet.at + sheet.bytes && i < ARENA; i++) {
                claims[i]++;
            }
        }

        int wrongClaims() {
            int wrong = 0;
            for (int i = 0; i < ARENA; i++) {
                if (claims[i] != (taken[i] ? 1 : 0)) {
                    wrong++;
                }
            }
            return wrong;
        }
    }

    private static final class Disk {
        final int[] state = new int[SLOTS];
        final boolean[] fails = new boolean[SLOTS];
        final boolean[] lost = new boolean[SLOTS];
        final int[] claims = new int[SLOTS];

        int countFree() {
            int sum = 0;
            for (int i = 0; i < SLOTS; i++) {
                if (state[i] == SLOT_FREE) {
                    sum++;
                }
            }
            return sum;
        }

        void mend(int slot) {
            fails[slot] = false;
            lost[slot] = false;
            if (state[slot] == SLOT_BAD) {
                state[slot] = SLOT_FREE;
            }
        }

        /** The lowest free slot that can be written; those that fail on the way are BAD. */
        int takeLowest() {
            for (int i = 0; i < SLOTS; i++) {
                if (state[i] != SLOT_FREE) {
                    continue;
                }
                if (!fails[i]) {
                    state[i] = SLOT_TAKEN;
                    return i;
                }
                state[i] = SLOT_BAD;
            }
            return NONE;
        }

        boolean isGone(int slot) {
            return slot < 0 || slot >= SLOTS || lost[slot];
        }

        void release(int slot) {
            if (slot >= 0 && slot < SLOTS) {
                state[slot] = SLOT_FREE;
                lost[slot] = false;
            }
        }

        void giveBack(Sheet sheet) {
            release(sheet.lower);
            release(sheet.upper);
            sheet.lower = NONE;
            sheet.upper = NONE;
        }

        void giveBackLost(Sheet sheet) {
            if (isGone(sheet.upper)) {
                release(sheet.upper);
                sheet.upper = NONE;
            }
            if (isGone(sheet.lower)) {
                release(sheet.lower);
                sheet.lower = sheet.upper;
                sheet.upper = NONE;
            }
        }

        void clearClaims() {
            for (int i = 0; i < SLOTS; i++) {
                claims[i] = 0;
            }
        }

        void claim(int slot) {
            if (slot >= 0 && slot < SLOTS) {
                claims[slot]++;
            }
        }

        int wrongClaims() {
            int wrong = 0;
            for (int i = 0; i < SLOTS; i++) {
                if (claims[i] != (state[i] == SLOT_TAKEN ? 1 : 0)) {
                    wrong++;
                }
            }
            return wrong;
        }
    }
}
