/** Flash memory whose levels drift; what it must do stands in the document, as numbered promises. */
public final class FlashLevels {
    public static final int NONE = -1;

    private static final int BLOCKS = 2;
    private static final int BLOCK_PAGES = 4;
    private static final int PAGES = BLOCKS * BLOCK_PAGES;
    private static final int CELLS = 16;
    private static final int MOST_CHARGE = 450;
    private static final int MOST_WEAR = 100;

    private static final int ERASED = 0;
    private static final int WRITTEN = 1;
    private static final int LOST = 2;

    private static final int JITTER = 0;
    private static final int DRIFT = 1;
    private static final int CORRECTABLE = 2;
    private static final int DISTURBING = 3;
    private static final int FEE = 4;
    private static final int WEAR_JITTER = 5;
    private static final int SETTINGS = 6;
    private static final int[] FIRST_SETTINGS = {10, 4, 2, 3, 5, 1};
    private static final int[] MOST_SETTINGS = {60, 50, 8, 30, 100, 10};

    private static final int PLACES = 3;
    private static final int MOST_MATCHES = 6;
    private static final int MOST_OFFSET = 80;
    private static final int FIRST_MATCHES = 3;
    private static final int[] FIRST_OFFSETS = {0, 0, 0, -10, -20, -30, -20, -40, -60};
    private static final int[] THRESHOLDS = {100, 200, 300};

    /** The two bits of a cell by its level, and the other way round. */
    private static final int[] BITS_OF_LEVEL = {3, 1, 0, 2};
    private static final int[] LEVEL_OF_BITS = {2, 1, 3, 0};

    private static final int MOST_HOURS = 100;
    private static final int FARTHEST_HOUR = 300;
    private static final int MOST_SHIFT = 60;
    private static final int MOST_SAVED = 6;

    private static final int FIRST_MATCH_PROPERTY = 10;

    private static final int REFUSED = 0;
    private static final int CARRIED_OUT = 1;
    private static final int CARRIED_OUT_WITH_LOSS = 2;

    private final Memory memory;
    private final History history;
    private final CommandText text;
    /** A page on which hours pass that never come. */
    private final Page trial;

    public FlashLevels() {
        memory = new Memory();
        history = new History();
        text = new CommandText();
        trial = new Page();
    }

    // ---- writing, reading, hours

    public int write(int page, int data) throws IndexOutOfBoundsException, IllegalStateException {
        requirePage(page);
        requireStatus(page, ERASED);
        history.save(memory);
        memory.writePage(page, data);
        return memory.pages[page].chargeSum();
    }

    public int read(int page) throws IndexOutOfBoundsException, IllegalStateException {
        requirePage(page);
        requireStatus(page, WRITTEN);
        history.save(memory);
        return memory.readPage(memory.pages[page]);
    }

    public int erase(int block) throws IndexOutOfBoundsException, IllegalStateException {
        if (block < 0 || block >= BLOCKS) {
            throw new IndexOutOfBoundsException("no such block");
        }
        if (memory.wear[block] >= MOST_WEAR) {
            throw new IllegalStateException("the block is worn out");
        }
        history.save(memory);
        memory.eraseBlock(block);
        return memory.wear[block];
    }

    public int copy(int from, int to) throws IndexOutOfBoundsException, IllegalStateException {
        requirePage(from);
        requirePage(to);
        requireStatus(from, WRITTEN);
        requireStatus(to, ERASED);
        history.save(memory);
        int failed = memory.readPage(memory.pages[from]);
        if (failed != NONE) {
            memory.writePage(to, memory.pages[from].word);
        }
        return failed;
    }

    public int pass(int hours) throws IllegalArgumentException {
        if (hours < 1 || hours > MOST_HOURS) {
            throw new IllegalArgumentException("hours out of range");
        }
        history.save(memory);
        memory.passHours(hours);
        return memory.hours;
    }

    // ---- matches, settings

    public int addMatch(int first, int second, int third) throws IllegalArgumentException, IllegalStateException {
        requireOffset(first);
        requireOffset(second);
        requireOffset(third);
        if (memory.matches >= MOST_MATCHES) {
            throw new IllegalStateException("no room for a match");
        }
        history.save(memory);
        memory.putMatch(first, second, third);
        return memory.matches - 1;
    }

    public int removeMatch(int match) throws IndexOutOfBoundsException, IllegalStateException {
        requireMatch(match);
        if (memory.matches == 1) {
            throw new IllegalStateException("the only match");
        }
        history.save(memory);
        memory.takeMatchAway(match);
        return memory.matches;
    }

    public int set(int setting, int value) throws IndexOutOfBoundsException, IllegalArgumentException {
        requireSetting(setting);
        if (value < 0 || value > MOST_SETTINGS[setting]) {
            throw new IllegalArgumentException("value out of range");
        }
        history.save(memory);
        int previous = memory.settings[setting];
        memory.settings[setting] = value;
        return previous;
    }

    // ---- texts

    public int append(int code) throws IllegalArgumentException, IllegalStateException {
        if (code < 33 || code > 126) {
            throw new IllegalArgumentException("code out of range");
        }
        if (text.length >= CommandText.MOST_CODES) {
            throw new IllegalStateException("the buffer is full");
        }
        text.add(code);
        return text.length;
    }

    public int clearBuffer() {
        int previous = text.length;
        text.length = 0;
        return previous;
    }

    public int firstError() {
        return text.errorIndex();
    }

    public int run() throws IllegalArgumentException {
        if (!text.isComplete()) {
            throw new IllegalArgumentException("no complete row of commands");
        }
        history.save(memory);
        int done = 0;
        int outcome = CARRIED_OUT;
        for (int at = 0; at < text.length && outcome == CARRIED_OUT; at++) {
            if (text.beginsCommand(at)) {
                outcome = carryOut(at);
                done += outcome == REFUSED ? 0 : 1;
            }
        }
        text.length = 0;
        return done;
    }

    public int undo() throws IllegalStateException {
        if (history.saved == 0) {
            throw new IllegalStateException("no saved state");
        }
        history.restoreInto(memory);
        return history.saved;
    }

    // ---- what there is

    public int page(int page, int what) throws IndexOutOfBoundsException, IllegalArgumentException {
        requirePage(page);
        Page p = memory.pages[page];
        switch (what) {
            case 0: return p.status;
            case 1: return p.status == ERASED ? NONE : memory.hours - p.writtenAt;
            case 2: return p.status == WRITTEN ? p.favorite : NONE;
            case 3: return p.reads;
            case 4: return p.failedTries;
            case 5: return p.fees;
            case 6: return p.chargeSum();
            default: throw new IllegalArgumentException("no such property of a page");
        }
    }

    public int data(int page) throws IndexOutOfBoundsException {
        requirePage(page);
        return memory.pages[page].word;
    }

    public int cell(int page, int cell, int what) throws IndexOutOfBoundsException, IllegalArgumentException {
        requirePage(page);
        if (cell < 0 || cell >= CELLS) {
            throw new IndexOutOfBoundsException("no such cell");
        }
        Page p = memory.pages[page];
        if (what == 0) {
            return p.charges[cell];
        }
        if (what == 1) {
            return p.status == ERASED ? NONE : p.writtenLevel(cell);
        }
        int match = what - FIRST_MATCH_PROPERTY;
        if (what < FIRST_MATCH_PROPERTY || match >= MOST_MATCHES) {
            throw new IllegalArgumentException("no such property of a cell");
        }
        return match < memory.matches ? memory.levelByMatch(p.charges[cell], match) : NONE;
    }

    public int match(int match, int place) throws IndexOutOfBoundsException, IllegalArgumentException {
        requireMatch(match);
        if (place < 0 || place >= PLACES) {
            throw new IllegalArgumentException("no such place");
        }
        return memory.offsets[PLACES * match + place];
    }

    public int count(int what) throws IllegalArgumentException {
        switch (what) {
            case 0: return memory.hours;
            case 1: return memory.seed;
            case 2: return memory.wear[0];
            case 3: return memory.wear[1];
            case 4: return pagesThatAre(WRITTEN);
            case 5: return pagesThatAre(LOST);
            case 6: return memory.matches;
            case 7: return allReads();
            case 8: return allFailedTries();
            case 9: return allFees();
            case 10: return memory.becameLost;
            case 11: return history.saved;
            default: throw new IllegalArgumentException("no such number");
        }
    }

    public int setting(int setting) throws IndexOutOfBoundsException {
        requireSetting(setting);
        return memory.settings[setting];
    }

    // ---- what would be; nothing is changed

    public int wrong(int page, int match) throws IndexOutOfBoundsException {
        requirePage(page);
        requireMatch(match);
        Page p = memory.pages[page];
        return p.status == ERASED ? NONE : memory.wrongByMatch(p, match);
    }

    public int ifRead(int page, int what) throws IndexOutOfBoundsException, IllegalArgumentException {
        requirePage(page);
        if (what < 0 || what > 2) {
            throw new IllegalArgumentException("no such property of a reading");
        }
        Page p = memory.pages[page];
        if (p.status != WRITTEN) {
            return NONE;
        }
        int failed = memory.failingTries(p);
        if (what == 0) {
            return failed;
        }
        if (what == 1) {
            return failed < memory.matches ? Memory.matchOfTry(p, failed) : NONE;
        }
        return memory.feesOfTries(failed);
    }

    public int life(int page) throws IndexOutOfBoundsException {
        requirePage(page);
        if (memory.pages[page].status != WRITTEN) {
            return NONE;
        }
        trial.takeFrom(memory.pages[page]);
        int permille = memory.driftOfPage(page);
        // charges that stand still once stand still for ever
        boolean drifts = true;
        for (int hour = 0; hour <= FARTHEST_HOUR && drifts; hour++) {
            if (!memory.isReadWithout(trial, NONE)) {
                return hour;
            }
            drifts = trial.drift(permille);
        }
        return NONE;
    }

    public int bestShift(int page, int what) throws IndexOutOfBoundsException, IllegalArgumentException {
        requirePage(page);
        if (what != 0 && what != 1) {
            throw new IllegalArgumentException("no such property of a shift");
        }
        Page p = memory.pages[page];
        if (p.status == ERASED) {
            return NONE;
        }
        int best = 0;
        int fewest = wrongByShift(p, 0);
        // outwards from 0, the one above 0 first: so only a truly better one replaces the best
        for (int size = 1; size <= MOST_SHIFT && fewest > 0; size++) {
            int above = wrongByShift(p, size);
            if (above < fewest) {
                best = size;
                fewest = above;
            }
            int below = wrongByShift(p, -size);
            if (below < fewest) {
                best = -size;
                fewest = below;
            }
        }
        return what == 0 ? best : fewest;
    }

    public int lostIn(int hours) throws IllegalArgumentException {
        if (hours < 0 || hours > FARTHEST_HOUR) {
            throw new IllegalArgumentException("hours out of range");
        }
        int mask = 0;
        for (int page = 0; page < PAGES; page++) {
            if (memory.pages[page].status == WRITTEN && wouldBeLostIn(page, hours)) {
                mask |= 1 << page;
            }
        }
        return mask;
    }

    public int spare() {
        if (memory.matches == 1) {
            return NONE;
        }
        int best = 0;
        int fewest = pagesLostWithout(0);
        for (int match = 1; match < memory.matches; match++) {
            int lost = pagesLostWithout(match);
            if (lost < fewest) {
                best = match;
                fewest = lost;
            }
        }
        return best;
    }

    public double meanFee() {
        int reads = allReads();
        return reads == 0 ? 0.0 : (double) allFees() / (double) reads;
    }

    public long digest() {
        long hash = 2437;
        for (int what = 0; what <= 11; what++) {
            hash = 31 * hash + count(what);
        }
        for (int setting = 0; setting < SETTINGS; setting++) {
            hash = 31 * hash + setting(setting);
        }
        for (int match = 0; match < memory.matches; match++) {
            for (int place = 0; place < PLACES; place++) {
                hash = 31 * hash + match(match, place);
            }
        }
        for (int page = 0; page < PAGES; page++) {
            hash = hashWithPage(hash, page);
        }
        hash = 31 * hash + lostIn(24);
        hash = 31 * hash + spare();
        hash = 31 * hash + bitsOf(meanFee());
        hash = 31 * hash + text.length;
        for (int at = 0; at < text.length; at++) {
            hash = 31 * hash + text.codeAt(at);
        }
        return hash;
    }

    // ---- what the calls refuse

    private static void requirePage(int page) {
        if (page < 0 || page >= PAGES) {
            throw new IndexOutOfBoundsException("no such page");
        }
    }

    private void requireStatus(int page, int status) {
        if (!isPageWith(page, status)) {
            throw new IllegalStateException("the page is not as it must be");
        }
    }

    private void requireMatch(int match) {
        if (match < 0 || match >= memory.matches) {
            throw new IndexOutOfBoundsException("no such match");
        }
    }

    private static void requireSetting(int setting) {
        if (setting < 0 || setting >= SETTINGS) {
            throw new IndexOutOfBoundsException("no such setting");
        }
    }

    private static void requireOffset(int offset) {
        if (offset < -MOST_OFFSET || offset > MOST_OFFSET) {
            throw new IllegalArgumentException("offset out of range");
        }
    }

    // ---- parts of the calls

    /** Carries out the command that begins at an index of the text, unless its method would throw. */
    private int carryOut(int at) {
        int number = text.numberAt(at + 1);
        switch (text.codeAt(at)) {
            case 'w':
                if (!isPageWith(number, ERASED)) {
                    return REFUSED;
                }
                memory.writePage(number, text.wordAt(at + 3));
                return CARRIED_OUT;
            case 'r':
                if (!isPageWith(number, WRITTEN)) {
                    return REFUSED;
                }
                return memory.readPage(memory.pages[number]) == NONE ? CARRIED_OUT_WITH_LOSS : CARRIED_OUT;
            case 'e':
                if (number < 0 || number >= BLOCKS || memory.wear[number] >= MOST_WEAR) {
                    return REFUSED;
                }
                memory.eraseBlock(number);
                return CARRIED_OUT;
            default:
                memory.passHours(number);
                return CARRIED_OUT;
        }
    }

    private boolean isPageWith(int page, int status) {
        return page >= 0 && page < PAGES && memory.pages[page].status == status;
    }

    private int pagesThatAre(int status) {
        int pages = 0;
        for (int page = 0; page < PAGES; page++) {
            if (memory.pages[page].status == status) {
                pages++;
            }
        }
        return pages;
    }

    private int allReads() {
        int sum = 0;
        for (int page = 0; page < PAGES; page++) {
            sum += memory.pages[page].reads;
        }
        return sum;
    }

    private int allFailedTries() {
        int sum = 0;
        for (int page = 0; page < PAGES; page++) {
            sum += memory.pages[page].failedTries;
        }
        return sum;
    }

    private int allFees() {
        int sum = 0;
        for (int page = 0; page < PAGES; page++) {
            sum += memory.pages[page].fees;
        }
        return sum;
    }

    private static int wrongByShift(Page p, int shift) {
        return p.wrongBits(THRESHOLDS[0] + shift, THRESHOLDS[1] + shift, THRESHOLDS[2] + shift);
    }

    private boolean wouldBeLostIn(int page, int hours) {
        trial.takeFrom(memory.pages[page]);
        trial.driftFor(hours, memory.driftOfPage(page));
        return !memory.isReadWithout(trial, NONE);
    }

    private int pagesLostWithout(int match) {
        int lost = 0;
        for (int page = 0; page < PAGES; page++) {
            Page p = memory.pages[page];
            if (p.status == WRITTEN && !memory.isReadWithout(p, match)) {
                lost++;
            }
        }
        return lost;
    }

    private long hashWithPage(long before, int page) {
        long hash = before;
        for (int what = 0; what <= 6; what++) {
            hash = 31 * hash + page(page, what);
        }
        hash = 31 * hash + data(page);
        for (int cell = 0; cell < CELLS; cell++) {
            hash = 31 * hash + cell(page, cell, 0);
            hash = 31 * hash + cell(page, cell, 1);
            hash = 31 * hash + cell(page, cell, FIRST_MATCH_PROPERTY);
        }
        for (int match = 0; match < memory.matches; match++) {
            hash = 31 * hash + wrong(page, match);
        }
        for (int what = 0; what <= 2; what++) {
            hash = 31 * hash + ifRead(page, what);
        }
        hash = 31 * hash + life(page);
        hash = 31 * hash + bestShift(page, 0);
        return 31 * hash + bestShift(page, 1);
    }

    /** The bits of a double that is 0.0 or a normal number above it: the language has no doubleToLongBits. */
    private static long bitsOf(double value) {
        if (!(value > 0.0)) {
            return 0;
        }
        double part = value;
        long exponent = 1023;
        for (int i = 0; i < 1023 && part >= 2.0; i++) {
            part /= 2.0;
            exponent++;
        }
        for (int i = 0; i < 1022 && part < 1.0; i++) {
            part *= 2.0;
            exponent--;
        }
        return (exponent << 52) + (long) ((part - 1.0) * (double) (1L << 52));
    }

    /** A page with its cells. */
    private static final class Page {
        final int[] charges = new int[CELLS];
        int status;
        int word;
        int writtenAt;
        int favorite;
        int reads;
        int failedTries;
        int fees;

        void takeFrom(Page other) {
            System.arraycopy(other.charges, 0, charges, 0, CELLS);
            status = other.status;
            word = other.word;
            writtenAt = other.writtenAt;
            favorite = other.favorite;
            reads = other.reads;
            failedTries = other.failedTries;
            fees = other.fees;
        }

        int chargeSum() {
            int sum = 0;
            for (int cell = 0; cell < CELLS; cell++) {
                sum += charges[cell];
            }
            return sum;
        }

        int writtenLevel(int cell) {
            return LEVEL_OF_BITS[(word >>> (2 * cell)) & 3];
        }

        void empty() {
            status = ERASED;
            word = 0;
            for (int cell = 0; cell < CELLS; cell++) {
                charges[cell] = 0;
            }
        }

        void disturb(int more) {
            for (int cell = 0; cell < CELLS; cell++) {
                charges[cell] = Math.min(MOST_CHARGE, charges[cell] + more);
            }
        }

        /** Lets an hour pass; tells whether a charge has become less. */
        boolean drift(int permille) {
            boolean less = false;
            for (int cell = 0; cell < CELLS; cell++) {
                int loss = charges[cell] * permille / 1000;
                if (loss > 0) {
                    charges[cell] -= loss;
                    less = true;
                }
            }
            return less;
        }

        void driftFor(int hours, int permille) {
            // charges that stand still once stand still for ever
            boolean drifts = true;
            for (int hour = 0; hour < hours && drifts; hour++) {
                drifts = drift(permille);
            }
        }

        int wrongBits(int first, int second, int third) {
            int read = 0;
            for (int cell = 0; cell < CELLS; cell++) {
                int level = levelOf(charges[cell], first, second, third);
                read |= BITS_OF_LEVEL[level] << (2 * cell);
            }
            return Integer.bitCount(read ^ word);
        }

        static int levelOf(int charge, int first, int second, int third) {
            int level = first <= charge ? 1 : 0;
            level += second <= charge ? 1 : 0;
            return third <= charge ? level + 1 : level;
        }
    }

    /** All that undo() brings back. */
    private static final class Memory {
        final Page[] pages = new Page[PAGES];
        final int[] wear = new int[BLOCKS];
        final int[] settings = new int[SETTINGS];
        final int[] offsets = new int[PLACES * MOST_MATCHES];
        int matches = FIRST_MATCHES;
        int hours;
        int seed = 1;
        int becameLost;

        Memory() {
            for (int page = 0; page < PAGES; page++) {
                pages[page] = new Page();
            }
            System.arraycopy(FIRST_SETTINGS, 0, settings, 0, SETTINGS);
            System.arraycopy(FIRST_OFFSETS, 0, offsets, 0, PLACES * FIRST_MATCHES);
        }

        void takeFrom(Memory other) {
            for (int page = 0; page < PAGES; page++) {
                pages[page].takeFrom(other.pages[page]);
            }
            System.arraycopy(other.wear, 0, wear, 0, BLOCKS);
            System.arraycopy(other.settings, 0, settings, 0, SETTINGS);
            System.arraycopy(other.offsets, 0, offsets, 0, PLACES * MOST_MATCHES);
            matches = other.matches;
            hours = other.hours;
            seed = other.seed;
            becameLost = other.becameLost;
        }

        int draw(int bound) {
            seed = (int) ((1103515245L * seed + 12345L) % 2147483648L);
            return bound < 1 ? 0 : seed / 65536 % bound;
        }

        void writePage(int page, int word) {
            Page p = pages[page];
            p.status = WRITTEN;
            p.word = word;
            p.writtenAt = hours;
            p.favorite = 0;
            int jitter = settings[JITTER] + settings[WEAR_JITTER] * wear[page / BLOCK_PAGES];
            for (int cell = 0; cell < CELLS; cell++) {
                int charge = 50 + 100 * p.writtenLevel(cell) + draw(2 * jitter + 1) - jitter;
                p.charges[cell] = Math.max(0, Math.min(MOST_CHARGE, charge));
            }
            disturbNeighbor(page, page - 1);
            disturbNeighbor(page, page + 1);
        }

        void disturbNeighbor(int page, int other) {
            if (other < 0 || other >= PAGES || other / BLOCK_PAGES != page / BLOCK_PAGES) {
                return;
            }
            if (pages[other].status != ERASED) {
                pages[other].disturb(settings[DISTURBING]);
            }
        }

        void eraseBlock(int block) {
            wear[block]++;
            for (int i = 0; i < BLOCK_PAGES; i++) {
                pages[BLOCK_PAGES * block + i].empty();
            }
        }

        int driftOfPage(int page) {
            return settings[DRIFT] + wear[page / BLOCK_PAGES];
        }

        void passHours(int more) {
            hours += more;
            for (int page = 0; page < PAGES; page++) {
                if (pages[page].status != ERASED) {
                    pages[page].driftFor(more, driftOfPage(page));
                }
            }
        }

        void putMatch(int first, int second, int third) {
            int at = PLACES * matches;
            offsets[at] = first;
            offsets[at + 1] = second;
            offsets[at + 2] = third;
            matches++;
        }

        void takeMatchAway(int match) {
            matches--;
            for (int at = PLACES * match; at < PLACES * matches; at++) {
                offsets[at] = offsets[at + PLACES];
            }
            for (int page = 0; page < PAGES; page++) {
                Page p = pages[page];
                if (p.favorite == match) {
                    p.favorite = 0;
                } else if (p.favorite > match) {
                    p.favorite--;
                }
            }
        }

        int threshold(int match, int place) {
            return THRESHOLDS[place] + offsets[PLACES * match + place];
        }

        int levelByMatch(int charge, int match) {
            return Page.levelOf(charge, threshold(match, 0), threshold(match, 1), threshold(match, 2));
        }

        int wrongByMatch(Page p, int match) {
            return p.wrongBits(threshold(match, 0), threshold(match, 1), threshold(match, 2));
        }

        /** Whether a match other than the one left out reads the page; NONE leaves none out. */
        boolean isReadWithout(Page p, int leftOut) {
            for (int match = 0; match < matches; match++) {
                if (match != leftOut && wrongByMatch(p, match) <= settings[CORRECTABLE]) {
                    return true;
                }
            }
            return false;
        }

        /** The match of a try, numbered from 0: the favorite comes first, and is left out then. */
        static int matchOfTry(Page p, int number) {
            if (number == 0) {
                return p.favorite;
            }
            return number <= p.favorite ? number - 1 : number;
        }

        /** How many tries would fail: as many as there are matches if the page would be lost. */
        int failingTries(Page p) {
            for (int number = 0; number < matches; number++) {
                if (wrongByMatch(p, matchOfTry(p, number)) <= settings[CORRECTABLE]) {
                    return number;
                }
            }
            return matches;
        }

        int feesOfTries(int failed) {
            int tries = Math.min(failed + 1, matches);
            return settings[FEE] * (tries - 1);
        }

        /** Reads a written page; returns how many tries failed, NONE if it is lost then. */
        int readPage(Page p) {
            int failed = failingTries(p);
            p.failedTries += failed;
            p.fees += feesOfTries(failed);
            if (failed == matches) {
                p.status = LOST;
                becameLost++;
                return NONE;
            }
            p.favorite = matchOfTry(p, failed);
            p.reads++;
            return failed;
        }
    }

    /** The saved states, in a ring whose rows are made once. */
    private static final class History {
        final Memory[] states = new Memory[MOST_SAVED];
        int saved;
        int newest;

        History() {
            for (int i = 0; i < MOST_SAVED; i++) {
                states[i] = new Memory();
            }
        }

        void save(Memory memory) {
            newest = (newest + 1) % MOST_SAVED;
            states[newest].takeFrom(memory);
            saved = Math.min(MOST_SAVED, saved + 1);
        }

        void restoreInto(Memory memory) {
            memory.takeFrom(states[newest]);
            newest = (newest + MOST_SAVED - 1) % MOST_SAVED;
            saved--;
        }
    }

    /** The buffer, and what its characters may be. */
    private static final class CommandText {
        static final int MOST_CODES = 60;

        // what a scan awaits next; from FIRST_HEX to LAST_HEX one number for each digit of the data
        private static final int STUCK = -1;
        private static final int LETTER = 0;
        private static final int PAGE_TO_WRITE = 1;
        private static final int EQUALS_SIGN = 2;
        private static final int PAGE_TO_READ = 3;
        private static final int BLOCK = 4;
        private static final int HOURS = 5;
        private static final int AFTER_HOUR_1 = 6;
        private static final int AFTER_HOUR_2_TO_9 = 7;
        private static final int AFTER_HOUR_10 = 8;
        private static final int SEMICOLON = 9;
        private static final int FIRST_HEX = 10;
        private static final int LAST_HEX = 17;

        final int[] codes = new int[MOST_CODES];
        int length;

        void add(int code) {
            if (length < MOST_CODES) {
                codes[length] = code;
                length++;
            }
        }

        /** The code at an index, NONE outside of the text. */
        int codeAt(int index) {
            return index >= 0 && index < length && index < MOST_CODES ? codes[index] : NONE;
        }

        int errorIndex() {
            int awaited = LETTER;
            for (int at = 0; at < length; at++) {
                awaited = next(awaited, codeAt(at));
                if (awaited == STUCK) {
                    return at;
                }
            }
            return length;
        }

        boolean isComplete() {
            int awaited = LETTER;
            for (int at = 0; at < length && awaited != STUCK; at++) {
                awaited = next(awaited, codeAt(at));
            }
            // only where a command may end does a semicolon go on
            return next(awaited, ';') == LETTER;
        }

        private static int next(int awaited, int code) {
            switch (awaited) {
                case LETTER: return afterLetter(code);
                case PAGE_TO_WRITE: return isIn(code, '0', '7') ? EQUALS_SIGN : STUCK;
                case EQUALS_SIGN: return code == '=' ? FIRST_HEX : STUCK;
                case PAGE_TO_READ: return isIn(code, '0', '7') ? SEMICOLON : STUCK;
                case BLOCK: return isIn(code, '0', '1') ? SEMICOLON : STUCK;
                case HOURS: return afterFirstHour(code);
                case AFTER_HOUR_1:
                    if (code == '0') {
                        return AFTER_HOUR_10;
                    }
                    return isIn(code, '1', '9') ? SEMICOLON : afterCommand(code);
                case AFTER_HOUR_2_TO_9: return isIn(code, '0', '9') ? SEMICOLON : afterCommand(code);
                case AFTER_HOUR_10: return code == '0' ? SEMICOLON : afterCommand(code);
                case SEMICOLON: return afterCommand(code);
                default: return afterHex(awaited, code);
            }
        }

        private static int afterLetter(int code) {
            switch (code) {
                case 'w': return PAGE_TO_WRITE;
                case 'r': return PAGE_TO_READ;
                case 'e': return BLOCK;
                case 'h': return HOURS;
                default: return STUCK;
            }
        }

        private static int afterFirstHour(int code) {
            if (code == '1') {
                return AFTER_HOUR_1;
            }
            return isIn(code, '2', '9') ? AFTER_HOUR_2_TO_9 : STUCK;
        }

        private static int afterCommand(int code) {
            return code == ';' ? LETTER : STUCK;
        }

        private static int afterHex(int awaited, int code) {
            if (awaited < FIRST_HEX || hexDigit(code) == NONE) {
                return STUCK;
            }
            return awaited < LAST_HEX ? awaited + 1 : SEMICOLON;
        }

        private static boolean isIn(int code, int least, int most) {
            return code >= least && code <= most;
        }

        private static int hexDigit(int code) {
            if (isIn(code, '0', '9')) {
                return code - '0';
            }
            return isIn(code, 'a', 'f') ? code - 'a' + 10 : NONE;
        }

        boolean beginsCommand(int index) {
            return index == 0 || codeAt(index - 1) == ';';
        }

        int wordAt(int index) {
            int word = 0;
            for (int i = 0; i < 8; i++) {
                word = (word << 4) | (hexDigit(codeAt(index + i)) & 15);
            }
            return word;
        }

        int numberAt(int index) {
            int number = 0;
            for (int at = index; at < length && isIn(codeAt(at), '0', '9'); at++) {
                number = 10 * number + codeAt(at) - '0';
            }
            return number;
        }
    }
}
