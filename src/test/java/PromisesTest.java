/** Each promise of the document with ordinary arguments, edges and wrong ones; the dues are worked out by hand. */
public final class PromisesTest {
    private static final Class<IndexOutOfBoundsException> INDEX = IndexOutOfBoundsException.class;
    private static final Class<IllegalArgumentException> ARGUMENT = IllegalArgumentException.class;
    private static final Class<IllegalStateException> STATE = IllegalStateException.class;
    private static final int[] NO_PAGES = {-1, 8, Integer.MIN_VALUE, Integer.MAX_VALUE};

    private PromisesTest() {
    }

    public static void main(String[] args) {
        newObject();
        write();
        writeWithJitter();
        writeDisturbs();
        read();
        readByOtherMatches();
        erase();
        copy();
        pass();
        addMatch();
        removeMatch();
        removeMatchMovesFavorites();
        set();
        append();
        clearBuffer();
        firstError();
        firstErrorOfFullBuffer();
        run();
        runStops();
        runRefuses();
        undo();
        undoKeepsTheBuffer();
        undoOfEachMethod();
        page();
        data();
        cell();
        match();
        count();
        setting();
        wrong();
        ifRead();
        life();
        bestShift();
        lostIn();
        spare();
        meanFee();
        digest();
        refusedCallsChangeNothing();
        lookingChangesNothing();
        Check.end("PromisesTest");
    }

    /** A memory without jitter: a cell's charge is 50 and 100 times its level. */
    private static FlashLevels still() {
        FlashLevels x = new FlashLevels();
        x.set(0, 0);
        return x;
    }

    private static void type(FlashLevels x, String text) {
        for (int i = 0; i < text.length(); i++) {
            x.append(text.charAt(i));
        }
    }

    private static int runText(FlashLevels x, String text) {
        type(x, text);
        return x.run();
    }

    private static int errorOf(String text) {
        FlashLevels x = new FlashLevels();
        type(x, text);
        return x.firstError();
    }

    // ---- promise 1

    private static void newObject() {
        Check.due("NONE", FlashLevels.NONE, -1);
        FlashLevels x = new FlashLevels();
        int[] counts = {0, 1, 0, 0, 0, 0, 3, 0, 0, 0, 0, 0};
        for (int what = 0; what < counts.length; what++) {
            Check.due("new: count(" + what + ")", x.count(what), counts[what]);
        }
        int[] properties = {0, -1, -1, 0, 0, 0, 0};
        for (int page = 0; page < 8; page++) {
            for (int what = 0; what < properties.length; what++) {
                Check.due("new: page(" + page + ", " + what + ")", x.page(page, what), properties[what]);
            }
            for (int cell = 0; cell < 16; cell++) {
                Check.due("new: cell(" + page + ", " + cell + ", 0)", x.cell(page, cell, 0), 0);
            }
        }
        int[] settings = {10, 4, 2, 3, 5, 1};
        for (int setting = 0; setting < settings.length; setting++) {
            Check.due("new: setting(" + setting + ")", x.setting(setting), settings[setting]);
        }
        int[][] matches = {{0, 0, 0}, {-10, -20, -30}, {-20, -40, -60}};
        for (int match = 0; match < 3; match++) {
            for (int place = 0; place < 3; place++) {
                Check.due("new: match(" + match + ", " + place + ")", x.match(match, place), matches[match][place]);
            }
        }
        Check.due("new: clearBuffer()", x.clearBuffer(), 0);
    }

    // ---- promise 2

    private static void write() {
        FlashLevels x = still();
        // both bits 0 in each cell: level 2
        Check.due("write(0, 0)", x.write(0, 0), 16 * 250);
        Check.due("write(7, -1)", x.write(7, -1), 16 * 50);
        // the lower bits alone are 1: level 1; the higher ones alone: level 3
        Check.due("write(2, 0x55555555)", x.write(2, 0x55555555), 16 * 150);
        Check.due("write(4, 0xaaaaaaaa)", x.write(4, 0xaaaaaaaa), 16 * 350);
        Check.due("draws without jitter move the seed too", x.count(1) != 1);
        Check.refuses("write to a written page", STATE, () -> x.write(0, 1));
        for (int page : NO_PAGES) {
            Check.refuses("write(" + page + ", 0)", INDEX, () -> x.write(page, 0));
        }
        FlashLevels lost = lostPage();
        Check.refuses("write to a lost page", STATE, () -> lost.write(0, 1));
    }

    private static void writeWithJitter() {
        FlashLevels x = new FlashLevels();
        x.write(3, 0);
        long seed = 1;
        for (int cell = 0; cell < 16; cell++) {
            seed = (1103515245L * seed + 12345L) % 2147483648L;
            Check.due("jitter of cell " + cell, x.cell(3, cell, 0), 250 + seed / 65536 % 21 - 10);
        }
        Check.due("seed after 16 draws", x.count(1), seed);
        // the first draw is 16838, modulo 21 it is 17
        Check.due("first charge", x.cell(3, 0, 0), 257);

        FlashLevels worn = new FlashLevels();
        worn.set(0, 60);
        worn.set(5, 10);
        for (int i = 0; i < 100; i++) {
            worn.erase(1);
        }
        worn.write(4, 0);
        seed = 1;
        boolean low = false;
        boolean high = false;
        for (int cell = 0; cell < 16; cell++) {
            seed = (1103515245L * seed + 12345L) % 2147483648L;
            long charge = 250 + seed / 65536 % 2121 - 1060;
            low |= charge < 0;
            high |= charge > 450;
            Check.due("worn cell " + cell, worn.cell(4, cell, 0), Math.max(0, Math.min(450, charge)));
        }
        Check.due("both ends of the charges are met", low && high);
        // the other block is not worn
        worn.write(0, 0);
        seed = (1103515245L * seed + 12345L) % 2147483648L;
        Check.due("jitter of the block 0", worn.cell(0, 0, 0), 250 + seed / 65536 % 121 - 60);
    }

    private static void writeDisturbs() {
        FlashLevels x = still();
        x.set(3, 30);
        x.write(1, 0);
        Check.due("an erased neighbor is not disturbed", x.page(0, 6), 0);
        Check.due("write(2, 0)", x.write(2, 0), 4000);
        Check.due("its neighbor", x.page(1, 6), 4000 + 16 * 30);
        x.write(0, 0);
        Check.due("its neighbor twice", x.page(1, 6), 4000 + 16 * 60);
        x.write(3, 0xaaaaaaaa);
        Check.due("neighbor on the other side", x.page(2, 6), 4000 + 16 * 30);
        Check.due("no neighbor", x.page(1, 6), 4000 + 16 * 60);
        x.write(4, 0);
        Check.due("3 and 4 are in two blocks", x.page(3, 6), 16 * 350);
        x.write(5, 0);
        Check.due("3 is not disturbed by 5", x.page(3, 6), 16 * 350);

        FlashLevels full = new FlashLevels();
        full.set(0, 60);
        full.set(3, 30);
        full.write(1, 0xaaaaaaaa);
        int[] before = new int[16];
        boolean cut = false;
        for (int cell = 0; cell < 16; cell++) {
            before[cell] = full.cell(1, cell, 0);
            cut |= before[cell] > 390;
        }
        full.write(0, 0);
        full.write(2, 0);
        for (int cell = 0; cell < 16; cell++) {
            Check.due("disturbed to 450 at most", full.cell(1, cell, 0), Math.min(450, before[cell] + 60));
        }
        Check.due("a charge is cut to 450", cut);
        FlashLevels lost = lostPage();
        int sum = lost.page(0, 6);
        lost.write(1, 0);
        Check.due("a lost neighbor is disturbed too", lost.page(0, 6), sum + 16 * 3);
    }

    // ---- promise 3

    /** The page 0 is lost: its charges of 250 have become less than 140 by drift. */
    private static FlashLevels lostPage() {
        FlashLevels x = still();
        x.write(0, 0);
        x.set(1, 50);
        x.pass(100);
        x.read(0);
        return x;
    }

    private static void read() {
        FlashLevels x = still();
        x.write(0, 0);
        Check.due("read(0)", x.read(0), 0);
        Check.due("the first try costs nothing", x.page(0, 5), 0);
        Check.refuses("read of an erased page", STATE, () -> x.read(1));
        for (int page : NO_PAGES) {
            Check.refuses("read(" + page + ")", INDEX, () -> x.read(page));
        }
        FlashLevels lost = lostPage();
        Check.due("lost page", lost.page(0, 0), 2);
        Check.due("its failed tries", lost.page(0, 4), 3);
        Check.due("its fees", lost.page(0, 5), 10);
        Check.due("its reads", lost.page(0, 3), 0);
        Check.due("lost so far", lost.count(10), 1);
        Check.refuses("read of a lost page", STATE, () -> lost.read(0));
    }

    private static void readByOtherMatches() {
        FlashLevels x = still();
        // 16 cells of 350 become 299 by the 51st hour, and are below 300: 16 wrong bits by the match 0
        x.write(0, 0xaaaaaaaa);
        x.pass(51);
        Check.due("charge by drift", x.cell(0, 0, 0), 299);
        Check.due("wrong by the match 0", x.wrong(0, 0), 16);
        Check.due("read by the match 1", x.read(0), 1);
        Check.due("its favorite", x.page(0, 2), 1);
        Check.due("its fee", x.page(0, 5), 5);
        Check.due("read by the favorite", x.read(0), 0);
        x.pass(30);
        Check.due("charge below 270", x.cell(0, 0, 0), 269);
        Check.due("the favorite 1, then 0, then 2", x.read(0), 2);
        Check.due("then favorite", x.page(0, 2), 2);
        Check.due("fees", x.page(0, 5), 15);
        Check.due("failed tries", x.page(0, 4), 3);
        Check.due("reads", x.page(0, 3), 3);

        FlashLevels y = still();
        // one cell of the level 3 alone: 1 wrong bit by the match 0
        y.write(0, 0xfffffffe);
        y.pass(51);
        Check.due("one wrong bit", y.wrong(0, 0), 1);
        y.set(2, 1);
        Check.due("as many wrong bits as can be corrected", y.ifRead(0, 0), 0);
        y.set(2, 0);
        Check.due("one more than can be corrected", y.ifRead(0, 0), 1);
    }

    // ---- promise 4

    private static void erase() {
        FlashLevels x = still();
        x.write(0, 5);
        x.write(3, 6);
        x.write(4, 7);
        Check.due("erase(0)", x.erase(0), 1);
        Check.due("erased page", x.page(3, 0), 0);
        Check.due("its charges", x.page(0, 6), 0);
        Check.due("its data", x.data(0), 0);
        Check.due("a page of the other block", x.data(4), 7);
        Check.due("wear of the block 0", x.count(2), 1);
        Check.due("wear of the block 1", x.count(3), 0);
        x.write(0, 9);
        Check.due("written anew", x.data(0), 9);
        Check.refuses("erase(-1)", INDEX, () -> x.erase(-1));
        Check.refuses("erase(2)", INDEX, () -> x.erase(2));
        FlashLevels lost = lostPage();
        lost.erase(0);
        Check.due("a lost page is erased", lost.page(0, 0), 0);
        for (int wear = 1; wear <= 100; wear++) {
            Check.due("erase(1)", x.erase(1), wear);
        }
        Check.refuses("erase of a worn block", STATE, () -> x.erase(1));
        Check.due("its wear", x.count(3), 100);
        Check.due("the other block goes on", x.erase(0), 2);
    }

    // ---- promise 5

    private static void copy() {
        FlashLevels x = still();
        x.write(0, 0x12345678);
        int sum = x.page(0, 6);
        Check.due("copy(0, 1)", x.copy(0, 1), 0);
        Check.due("copied data", x.data(1), 0x12345678);
        Check.due("its charges", x.page(1, 6), sum);
        Check.due("the first one is disturbed", x.page(0, 6), sum + 16 * 3);
        Check.due("its read is counted", x.page(0, 3), 1);
        x.copy(0, 7);
        Check.due("no neighbor", x.page(0, 6), sum + 16 * 3);
        Check.refuses("copy to itself", STATE, () -> x.copy(0, 0));
        Check.refuses("copy of an erased page", STATE, () -> x.copy(2, 3));
        Check.refuses("copy to a written page", STATE, () -> x.copy(0, 1));
        for (int page : NO_PAGES) {
            Check.refuses("copy(" + page + ", 2)", INDEX, () -> x.copy(page, 2));
            Check.refuses("copy(0, " + page + ")", INDEX, () -> x.copy(0, page));
            Check.refuses("copy of an erased page to none", INDEX, () -> x.copy(3, page));
        }

        FlashLevels y = still();
        y.write(0, 0xaaaaaaaa);
        y.pass(51);
        Check.due("copy by the second try", y.copy(0, 4), 1);
        Check.due("fee of the copy", y.count(9), 5);
        Check.due("favorite of the first one", y.page(0, 2), 1);
        Check.due("favorite of the other one", y.page(4, 2), 0);
        Check.due("hours of the other one", y.page(4, 1), 0);

        FlashLevels z = still();
        z.write(0, 0);
        z.set(1, 50);
        z.pass(100);
        int seed = z.count(1);
        Check.due("copy by which a page is lost", z.copy(0, 1), -1);
        Check.due("the lost one", z.page(0, 0), 2);
        Check.due("nothing is written", z.page(1, 0), 0);
        Check.due("nothing is drawn", z.count(1), seed);
        Check.refuses("copy of a lost page", STATE, () -> z.copy(0, 1));
    }

    // ---- promise 6

    private static void pass() {
        FlashLevels x = still();
        x.write(0, 0xaaaaaaaa);
        Check.due("pass(1)", x.pass(1), 1);
        // 350 * 4 / 1000 is 1
        Check.due("drift of the page 0", x.cell(0, 0, 0), 349);
        Check.due("pass(100)", x.pass(100), 101);
        Check.due("charges below 250 stand", x.cell(0, 0, 0), 249);
        Check.refuses("pass(0)", ARGUMENT, () -> x.pass(0));
        Check.refuses("pass(101)", ARGUMENT, () -> x.pass(101));
        Check.refuses("pass(-1)", ARGUMENT, () -> x.pass(-1));

        FlashLevels worn = still();
        worn.set(5, 0);
        for (int i = 0; i < 100; i++) {
            worn.erase(0);
        }
        worn.set(1, 50);
        worn.write(0, 0xaaaaaaaa);
        worn.write(7, 0xaaaaaaaa);
        worn.pass(1);
        Check.due("350 less 350 * 150 / 1000", worn.cell(0, 15, 0), 350 - 52);
        Check.due("350 less 350 * 50 / 1000", worn.cell(7, 0, 0), 350 - 17);
        worn.pass(1);
        Check.due("298 less 298 * 150 / 1000", worn.cell(0, 15, 0), 298 - 44);

        FlashLevels lost = lostPage();
        lost.write(1, 0);
        int charge = lost.cell(0, 0, 0);
        Check.due("disturbed", charge, 19 + 3);
        lost.set(1, 50);
        lost.pass(1);
        Check.due("lost pages drift too", lost.cell(0, 0, 0), charge - 1);
        Check.due("erased pages do not", lost.page(5, 6), 0);
    }

    // ---- promises 7 to 9

    private static void addMatch() {
        FlashLevels x = new FlashLevels();
        Check.due("addMatch(-80, 80, 0)", x.addMatch(-80, 80, 0), 3);
        Check.due("match(3, 0)", x.match(3, 0), -80);
        Check.due("match(3, 1)", x.match(3, 1), 80);
        Check.due("match(3, 2)", x.match(3, 2), 0);
        int[] odd = {-81, 81, Integer.MIN_VALUE, Integer.MAX_VALUE};
        for (int offset : odd) {
            Check.refuses("addMatch first", ARGUMENT, () -> x.addMatch(offset, 0, 0));
            Check.refuses("addMatch second", ARGUMENT, () -> x.addMatch(0, offset, 0));
            Check.refuses("addMatch third", ARGUMENT, () -> x.addMatch(0, 0, offset));
        }
        Check.due("addMatch", x.addMatch(0, 0, 80), 4);
        Check.due("addMatch", x.addMatch(0, -80, -80), 5);
        Check.refuses("a seventh match", STATE, () -> x.addMatch(0, 0, 0));
        Check.refuses("the argument comes first", ARGUMENT, () -> x.addMatch(0, 81, 0));
        Check.due("matches", x.count(6), 6);
    }

    private static void removeMatch() {
        FlashLevels x = new FlashLevels();
        Check.refuses("removeMatch(3)", INDEX, () -> x.removeMatch(3));
        Check.refuses("removeMatch(-1)", INDEX, () -> x.removeMatch(-1));
        Check.due("removeMatch(1)", x.removeMatch(1), 2);
        Check.due("those behind it move up", x.match(1, 2), -60);
        Check.due("those ahead of it stay", x.match(0, 2), 0);
        Check.refuses("match(2, 0)", INDEX, () -> x.match(2, 0));
        Check.due("removeMatch(0)", x.removeMatch(0), 1);
        Check.due("the one that is left", x.match(0, 0), -20);
        Check.refuses("the only match", STATE, () -> x.removeMatch(0));
        Check.refuses("no such match comes first", INDEX, () -> x.removeMatch(1));
    }

    private static void removeMatchMovesFavorites() {
        FlashLevels x = still();
        x.write(0, 0xaaaaaaaa);
        x.write(4, 0);
        x.pass(81);
        x.read(0);
        x.write(6, 0xaaaaaaaa);
        x.pass(51);
        x.read(6);
        Check.due("favorite of 0", x.page(0, 2), 2);
        Check.due("favorite of 4", x.page(4, 2), 0);
        Check.due("favorite of 6", x.page(6, 2), 1);
        x.removeMatch(1);
        Check.due("a greater favorite becomes less by 1", x.page(0, 2), 1);
        Check.due("a lesser one stays", x.page(4, 2), 0);
        Check.due("one that is gone becomes 0", x.page(6, 2), 0);
        x.undo();
        x.removeMatch(2);
        Check.due("the last one is gone", x.page(0, 2), 0);
        Check.due("a lesser favorite stays", x.page(6, 2), 1);
    }

    private static void set() {
        FlashLevels x = new FlashLevels();
        int[] first = {10, 4, 2, 3, 5, 1};
        int[] most = {60, 50, 8, 30, 100, 10};
        for (int i = 0; i < 6; i++) {
            int setting = i;
            Check.due("set to the most", x.set(i, most[i]), first[i]);
            Check.due("set to 0", x.set(i, 0), most[i]);
            Check.due("setting", x.setting(i), 0);
            Check.refuses("above the most", ARGUMENT, () -> x.set(setting, most[setting] + 1));
            Check.refuses("below 0", ARGUMENT, () -> x.set(setting, -1));
        }
        Check.refuses("set(6, 0)", INDEX, () -> x.set(6, 0));
        Check.refuses("set(-1, 0)", INDEX, () -> x.set(-1, 0));
        Check.refuses("no such setting comes first", INDEX, () -> x.set(6, -1));
    }

    // ---- promises 10 to 12

    private static void append() {
        FlashLevels x = new FlashLevels();
        Check.due("append(33)", x.append(33), 1);
        Check.due("append(126)", x.append(126), 2);
        Check.refuses("append(32)", ARGUMENT, () -> x.append(32));
        Check.refuses("append(127)", ARGUMENT, () -> x.append(127));
        Check.refuses("append(-1)", ARGUMENT, () -> x.append(-1));
        for (int length = 3; length <= 60; length++) {
            Check.due("append('r')", x.append('r'), length);
        }
        Check.refuses("append to a full buffer", STATE, () -> x.append('r'));
        Check.refuses("the argument comes first", ARGUMENT, () -> x.append(32));
        Check.due("append is not undoable", x.count(11), 0);
    }

    private static void clearBuffer() {
        FlashLevels x = new FlashLevels();
        type(x, "r0;r");
        Check.due("clearBuffer()", x.clearBuffer(), 4);
        Check.due("clearBuffer() again", x.clearBuffer(), 0);
        Check.due("append behind it", x.append('r'), 1);
        Check.due("clearBuffer is not undoable", x.count(11), 0);
    }

    private static void firstError() {
        String[] good = {"", "w", "w0", "w7=", "w0=0", "w0=12345678", "w0=9abcdef0;", "r0", "r7;r", "e0", "e1;e", "h",
                "h1", "h9", "h10", "h99", "h100", "h100;", "h1;h2", "h10;h", "h5;w1=00000000;e1"};
        for (String text : good) {
            Check.due("firstError of " + text, errorOf(text), text.length());
        }
        String[] bad = {"x", ";", "0", "=", "R", "w8", "w/", "wr", "w0;", "w0-", "w0==", "w0=g", "w0=A", "w0=1234567;",
                "w0=123456789", "w0=12345678r", "r8", "r:", "rr", "r0r", "r0;;", "r00", "e2", "e-", "e0e", "e00", "h0",
                "ha", "h;", "h01", "h1a", "h101", "h11;;", "h110", "h200", "h1000", "h100r", "h5;x", "h2:", "h20/", "h10:"};
        int[] at = {0, 0, 0, 0, 0, 1, 1, 1, 2, 2, 3, 3, 3, 10, 11, 11, 1, 1, 1, 2, 3, 2, 1, 1, 2, 2, 1,
                1, 1, 1, 2, 3, 4, 3, 3, 4, 4, 3, 2, 3, 3};
        Check.due("as many rows as dues", bad.length, at.length);
        for (int i = 0; i < bad.length; i++) {
            Check.due("firstError of " + bad[i], errorOf(bad[i]), at[i]);
            Check.due("firstError of " + bad[i] + "r0", errorOf(bad[i] + "r0"), at[i]);
        }
    }

    private static void firstErrorOfFullBuffer() {
        StringBuilder row = new StringBuilder();
        for (int i = 0; i < 20; i++) {
            row.append("r0;");
        }
        Check.due("a row may go on behind the 60th character", errorOf(row.toString()), 60);
        row.setCharAt(59, 'w');
        Check.due("an error at the last character", errorOf(row.toString()), 59);
    }

    // ---- promise 13

    private static void run() {
        FlashLevels x = still();
        Check.due("run()", runText(x, "w0=9abcdef0;h10;r0;e1;h100;w7=ffffffff"), 6);
        Check.due("the highest bits come first", x.data(0), 0x9abcdef0);
        Check.due("hours", x.count(0), 110);
        Check.due("reads", x.count(7), 1);
        Check.due("wear", x.count(3), 1);
        Check.due("page 7", x.data(7), -1);
        Check.due("one call of undo", x.count(11), 2);
        Check.due("the buffer is cleared", x.clearBuffer(), 0);
        Check.due("run()", runText(x, "h10"), 1);
        Check.due("ten hours", x.count(0), 120);
        x.undo();
        x.undo();
        Check.due("undone as one call", x.count(0), 0);
        Check.due("undone as one call", x.page(0, 0), 0);
        Check.due("w as write()", runText(x, "w0=aaaaaaaa;w1=00000000"), 2);
        Check.due("which disturbs", x.page(0, 6), 16 * 353);
        Check.due("full buffer", runText(x, "h1;h1;h1;h1;h1;h1;h1;h1;h1;h1;h1;h1;h1;h1;h1;h1;h1;h1;h1;h10"), 20);
        Check.due("hours", x.count(0), 29);
    }

    private static void runStops() {
        FlashLevels x = still();
        Check.due("a read that would throw", runText(x, "r0;w0=00000000"), 0);
        Check.due("the rest is not carried out", x.page(0, 0), 0);
        Check.due("saved though nothing is carried out", x.count(11), 2);
        Check.due("cleared though nothing is carried out", x.clearBuffer(), 0);
        Check.due("a write that would throw", runText(x, "w0=00000000;w0=00000001;h1"), 1);
        Check.due("first data", x.data(0), 0);
        Check.due("no hour", x.count(0), 0);
        x.set(1, 50);
        Check.due("a read by which a page is lost", runText(x, "h100;r0;h1"), 2);
        Check.due("hours up to it", x.count(0), 100);
        Check.due("lost page", x.page(0, 0), 2);
        Check.due("a read of a lost page", runText(x, "h1;r0"), 1);
        Check.due("a write to a lost page", runText(x, "w0=00000000"), 0);
        for (int i = 0; i < 99; i++) {
            x.erase(1);
        }
        Check.due("an erase that would throw", runText(x, "e1;e1;e0"), 1);
        Check.due("wear", x.count(3), 100);
        Check.due("wear of the other one", x.count(2), 0);
        Check.due("which can be erased", runText(x, "e0;w0=00000001"), 2);
        Check.due("wear of the other one", x.count(2), 1);
        Check.due("data of the other one", x.data(0), 1);
    }

    private static void runRefuses() {
        String[] rows = {"", ";", "w", "w0", "w0=", "w0=1234567", "r", "e", "h", "r0;", "h100;", "r0;;r0", "h0", "h101",
                "r0;x", "W0=00000000", "w0=0000000A", "w8=00000000"};
        for (String row : rows) {
            FlashLevels x = new FlashLevels();
            type(x, row);
            Check.refuses("run of " + row, ARGUMENT, x::run);
            Check.due("nothing saved by " + row, x.count(11), 0);
            Check.due("not cleared: " + row, x.clearBuffer(), row.length());
        }
    }

    // ---- promise 14

    private static void undo() {
        FlashLevels x = new FlashLevels();
        Check.refuses("undo of nothing", STATE, x::undo);
        for (int hours = 1; hours <= 8; hours++) {
            x.pass(1);
            Check.due("saved states", x.count(11), Math.min(6, hours));
        }
        for (int left = 5; left >= 0; left--) {
            Check.due("undo()", x.undo(), left);
            Check.due("hours", x.count(0), left + 2);
        }
        Check.refuses("the oldest ones are dropped", STATE, x::undo);
        x.pass(50);
        Check.due("undo()", x.undo(), 0);
        Check.due("hours", x.count(0), 2);
    }

    private static void undoKeepsTheBuffer() {
        FlashLevels x = new FlashLevels();
        type(x, "h5");
        x.run();
        type(x, "abc");
        x.undo();
        Check.due("the buffer stays", x.clearBuffer(), 3);
        x.pass(1);
        x.clearBuffer();
        x.undo();
        Check.due("the buffer stays empty", x.clearBuffer(), 0);
    }

    private static void undoOfEachMethod() {
        FlashLevels x = still();
        x.write(0, 0xaaaaaaaa);
        x.pass(51);
        x.write(4, 0);
        long before = x.digest();
        Check.Call[] calls = {() -> x.write(1, 3), () -> x.read(0), () -> x.erase(0), () -> x.copy(0, 5),
                () -> x.pass(3), () -> x.addMatch(1, 2, 3), () -> x.removeMatch(0), () -> x.set(4, 9), () -> x.set(4, 5),
                () -> runText(x, "e1;w2=00000000;h1"), () -> runText(x, "r7")};
        for (int i = 0; i < calls.length; i++) {
            int saved = x.count(11);
            calls[i].answer();
            Check.due("call " + i + " saves", x.count(11), saved + 1);
            Check.due("call " + i + " is undone", x.undo(), saved);
            Check.due("all is as before call " + i, x.digest(), before);
        }
    }

    // ---- promises 15 to 20

    private static void page() {
        FlashLevels x = still();
        x.pass(7);
        x.write(0, 0xaaaaaaaa);
        x.pass(51);
        x.read(0);
        int[] written = {1, 51, 1, 1, 1, 5, 16 * 299};
        for (int what = 0; what < 7; what++) {
            Check.due("written: page(0, " + what + ")", x.page(0, what), written[what]);
        }
        x.erase(0);
        int[] erased = {0, -1, -1, 1, 1, 5, 0};
        for (int what = 0; what < 7; what++) {
            Check.due("erased: page(0, " + what + ")", x.page(0, what), erased[what]);
        }
        x.set(5, 0);
        x.write(0, 0);
        Check.due("a new favorite", x.page(0, 2), 0);
        Check.due("hours anew", x.page(0, 1), 0);
        Check.due("reads from ahead of the erasing", x.page(0, 3), 1);
        x.set(1, 50);
        x.pass(100);
        x.read(0);
        int[] lost = {2, 100, -1, 1, 4, 15, x.cell(0, 0, 0) * 16};
        for (int what = 0; what < 7; what++) {
            Check.due("lost: page(0, " + what + ")", x.page(0, what), lost[what]);
        }
        Check.refuses("page(0, 7)", ARGUMENT, () -> x.page(0, 7));
        Check.refuses("page(0, -1)", ARGUMENT, () -> x.page(0, -1));
        for (int page : NO_PAGES) {
            Check.refuses("page(" + page + ", 0)", INDEX, () -> x.page(page, 0));
            Check.refuses("page(" + page + ", 7)", INDEX, () -> x.page(page, 7));
        }
    }

    private static void data() {
        FlashLevels x = new FlashLevels();
        x.write(0, Integer.MIN_VALUE);
        Check.due("data(0)", x.data(0), Integer.MIN_VALUE);
        Check.due("data(1)", x.data(1), 0);
        FlashLevels lost = still();
        lost.write(2, 0x0123);
        lost.set(1, 50);
        lost.pass(100);
        lost.read(2);
        Check.due("data of a lost page", lost.data(2), 0x0123);
        lost.erase(0);
        Check.due("data of an erased page", lost.data(2), 0);
        for (int page : NO_PAGES) {
            Check.refuses("data(" + page + ")", INDEX, () -> x.data(page));
        }
    }

    private static void cell() {
        FlashLevels x = still();
        // from the cell 0 on: 11, 01, 00, 10, and 00 for the others
        x.write(0, 0b10000111);
        int[] levels = {0, 1, 2, 3, 2};
        for (int cell = 0; cell < 5; cell++) {
            Check.due("charge", x.cell(0, cell, 0), 50 + 100 * levels[cell]);
            Check.due("level written", x.cell(0, cell, 1), levels[cell]);
            Check.due("level read", x.cell(0, cell, 10), levels[cell]);
        }
        Check.due("last cell", x.cell(0, 15, 1), 2);
        x.addMatch(50, 50, 50);
        Check.due("a threshold equal to the charge counts", x.cell(0, 1, 13), 1);
        x.addMatch(51, 51, 51);
        Check.due("a threshold above the charge does not", x.cell(0, 1, 14), 0);
        Check.due("no match 5", x.cell(0, 1, 15), -1);
        x.addMatch(80, -50, 80);
        Check.due("thresholds 180, 150, 380", x.cell(0, 1, 15), 1);
        Check.due("an erased page has no level", x.cell(1, 0, 1), -1);
        Check.due("an erased cell is read", x.cell(1, 0, 10), 0);
        FlashLevels lost = lostPage();
        Check.due("a lost page has levels", lost.cell(0, 0, 1), 2);
        int[] odd = {-1, 2, 9, 16, Integer.MIN_VALUE, Integer.MAX_VALUE};
        for (int what : odd) {
            Check.refuses("cell(0, 0, " + what + ")", ARGUMENT, () -> x.cell(0, 0, what));
            Check.refuses("cell(0, 16, " + what + ")", INDEX, () -> x.cell(0, 16, what));
        }
        Check.refuses("cell(0, 16, 0)", INDEX, () -> x.cell(0, 16, 0));
        Check.refuses("cell(0, -1, 0)", INDEX, () -> x.cell(0, -1, 0));
        Check.refuses("cell(8, 0, 0)", INDEX, () -> x.cell(8, 0, 0));
        Check.refuses("cell(-1, 0, 0)", INDEX, () -> x.cell(-1, 0, 0));
    }

    private static void match() {
        FlashLevels x = new FlashLevels();
        Check.due("match(2, 1)", x.match(2, 1), -40);
        Check.refuses("match(3, 0)", INDEX, () -> x.match(3, 0));
        Check.refuses("match(-1, 0)", INDEX, () -> x.match(-1, 0));
        Check.refuses("match(0, 3)", ARGUMENT, () -> x.match(0, 3));
        Check.refuses("match(0, -1)", ARGUMENT, () -> x.match(0, -1));
        Check.refuses("match(6, 3)", INDEX, () -> x.match(6, 3));
    }

    private static void count() {
        FlashLevels x = still();
        x.write(0, 0xaaaaaaaa);
        x.write(2, 0xaaaaaaaa);
        x.write(5, -1);
        x.pass(51);
        x.read(0);
        x.read(2);
        x.read(5);
        x.set(1, 50);
        x.pass(100);
        x.read(0);
        x.erase(1);
        x.erase(1);
        x.set(5, 2);
        int[] counts = {151, x.count(1), 0, 2, 1, 1, 3, 3, 5, 20, 1, 6};
        for (int what = 0; what < counts.length; what++) {
            Check.due("count(" + what + ")", x.count(what), counts[what]);
        }
        x.erase(0);
        Check.due("reads from ahead of an erasing", x.count(7), 3);
        Check.due("failed tries from ahead of an erasing", x.count(8), 5);
        Check.due("fees from ahead of an erasing", x.count(9), 20);
        Check.due("lost ones from ahead of an erasing", x.count(10), 1);
        Check.due("no lost page", x.count(5), 0);
        Check.due("no written page", x.count(4), 0);
        int[] odd = {-1, 12, Integer.MIN_VALUE, Integer.MAX_VALUE};
        for (int what : odd) {
            Check.refuses("count(" + what + ")", ARGUMENT, () -> x.count(what));
        }
    }

    private static void setting() {
        FlashLevels x = new FlashLevels();
        x.set(4, 77);
        Check.due("setting(4)", x.setting(4), 77);
        Check.due("setting(3)", x.setting(3), 3);
        Check.refuses("setting(6)", INDEX, () -> x.setting(6));
        Check.refuses("setting(-1)", INDEX, () -> x.setting(-1));
    }

    // ---- promises 21 to 28

    private static void wrong() {
        FlashLevels x = still();
        x.write(0, 0);
        Check.due("wrong(0, 0)", x.wrong(0, 0), 0);
        x.addMatch(0, 51, 0);
        Check.due("16 cells of the level 2 read as 1", x.wrong(0, 3), 16);
        x.addMatch(80, 80, 80);
        Check.due("thresholds 180, 280, 380: read as 1", x.wrong(0, 4), 16);
        Check.due("erased page", x.wrong(1, 0), -1);
        FlashLevels lost = lostPage();
        // charges of 250 end at 19, below each threshold: both bits are read as 1
        Check.due("charges of the lost page", lost.cell(0, 0, 0), 19);
        Check.due("a lost page has wrong bits", lost.wrong(0, 0), 32);
        Check.refuses("wrong(0, 5)", INDEX, () -> x.wrong(0, 5));
        Check.refuses("wrong(0, -1)", INDEX, () -> x.wrong(0, -1));
        Check.refuses("wrong(8, 0)", INDEX, () -> x.wrong(8, 0));
        Check.refuses("wrong(-1, 0)", INDEX, () -> x.wrong(-1, 0));
        Check.refuses("no such match, though erased", INDEX, () -> x.wrong(1, 5));
    }

    private static void ifRead() {
        FlashLevels x = still();
        x.write(0, 0xaaaaaaaa);
        dueIfRead(x, "fresh", 0, 0, 0);
        x.pass(51);
        dueIfRead(x, "by the match 1", 1, 1, 5);
        x.read(0);
        dueIfRead(x, "by the favorite", 0, 1, 0);
        x.pass(30);
        dueIfRead(x, "by the match 2", 2, 2, 10);
        x.set(4, 100);
        dueIfRead(x, "dear", 2, 2, 200);
        x.set(1, 50);
        x.pass(100);
        dueIfRead(x, "would be lost", 3, -1, 200);
        x.read(0);
        dueIfRead(x, "lost", -1, -1, -1);
        Check.due("erased", x.ifRead(1, 0), -1);
        Check.refuses("ifRead(0, 3)", ARGUMENT, () -> x.ifRead(0, 3));
        Check.refuses("ifRead(0, -1)", ARGUMENT, () -> x.ifRead(0, -1));
        Check.refuses("erased, ifRead(1, 3)", ARGUMENT, () -> x.ifRead(1, 3));
        Check.refuses("ifRead(8, 3)", INDEX, () -> x.ifRead(8, 3));
        Check.refuses("ifRead(-1, 0)", INDEX, () -> x.ifRead(-1, 0));
    }

    private static void dueIfRead(FlashLevels x, String name, int failed, int match, int fees) {
        Check.due(name + ": ifRead(0, 0)", x.ifRead(0, 0), failed);
        Check.due(name + ": ifRead(0, 1)", x.ifRead(0, 1), match);
        Check.due(name + ": ifRead(0, 2)", x.ifRead(0, 2), fees);
    }

    private static void life() {
        FlashLevels x = still();
        x.write(0, 0xaaaaaaaa);
        // 350 loses 1 an hour, and stands at 249
        Check.due("it stands at 249 and is read", x.life(0), -1);
        x.removeMatch(2);
        Check.due("below 270 in 81 hours", x.life(0), 81);
        x.removeMatch(1);
        Check.due("below 300 in 51 hours", x.life(0), 51);
        x.pass(50);
        Check.due("below 300 in an hour", x.life(0), 1);
        x.pass(1);
        Check.due("would be lost now", x.life(0), 0);
        x.read(0);
        Check.due("lost", x.life(0), -1);
        Check.due("erased", x.life(1), -1);
        for (int page : NO_PAGES) {
            Check.refuses("life(" + page + ")", INDEX, () -> x.life(page));
        }
        lifeAtTheFarEnd();
        lifeThatComesBack();
    }

    /** 350 loses 1 an hour by a drift of 3, and stands at 333; a match above that loses it. */
    private static void lifeAtTheFarEnd() {
        FlashLevels x = still();
        x.set(1, 3);
        x.write(0, 0xaaaaaaaa);
        x.removeMatch(2);
        x.removeMatch(1);
        x.addMatch(0, 0, 34);
        x.removeMatch(0);
        Check.due("333 is below 334 in 17 hours", x.life(0), 17);
        x.undo();
        x.undo();
        x.addMatch(0, 0, 33);
        x.removeMatch(0);
        Check.due("333 is not below 333", x.life(0), -1);
    }

    /** Charges too high are lost at once, though not some hours later. */
    private static void lifeThatComesBack() {
        FlashLevels x = still();
        x.write(0, 0x55555555);
        x.removeMatch(2);
        x.removeMatch(1);
        x.addMatch(0, -55, 0);
        x.removeMatch(0);
        x.set(1, 20);
        Check.due("150 is read as 2", x.life(0), 0);
        Check.due("now", x.lostIn(0), 1);
        Check.due("in 2 hours, as 145", x.lostIn(2), 1);
        Check.due("in 3 hours, as 143", x.lostIn(3), 0);
        Check.due("in 300 hours", x.lostIn(300), 1);
    }

    private static void bestShift() {
        FlashLevels x = still();
        x.write(0, 0xaaaaaaaa);
        Check.due("no shift is best", x.bestShift(0, 0), 0);
        Check.due("its wrong bits", x.bestShift(0, 1), 0);
        x.pass(60);
        Check.due("charges", x.cell(0, 0, 0), 290);
        Check.due("290 is not below 300 - 10", x.bestShift(0, 0), -10);
        Check.due("its wrong bits", x.bestShift(0, 1), 0);
        Check.due("erased", x.bestShift(1, 0), -1);
        Check.due("erased", x.bestShift(1, 1), -1);

        FlashLevels high = still();
        high.set(3, 30);
        high.write(1, 0x55555555);
        high.write(0, 0);
        high.write(2, 0);
        Check.due("150 and 60 are 210", high.cell(1, 0, 0), 210);
        Check.due("200 must be above 210", high.bestShift(1, 0), 11);
        Check.due("wrong bits", high.bestShift(1, 1), 0);
        FlashLevels lost = lostPage();
        // 19 is below 100 - 60: no shift makes a bit right
        Check.due("a lost page has a shift", lost.bestShift(0, 0), 0);
        Check.due("a lost page has wrong bits", lost.bestShift(0, 1), 32);
        bestShiftOfTwoSizes();
        Check.refuses("bestShift(0, 2)", ARGUMENT, () -> x.bestShift(0, 2));
        Check.refuses("bestShift(0, -1)", ARGUMENT, () -> x.bestShift(0, -1));
        Check.refuses("erased, bestShift(1, 2)", ARGUMENT, () -> x.bestShift(1, 2));
        Check.refuses("bestShift(8, 2)", INDEX, () -> x.bestShift(8, 2));
        Check.refuses("bestShift(-1, 0)", INDEX, () -> x.bestShift(-1, 0));
    }

    /** Wide jitter leaves some bits wrong by each shift; the due one is found by matches with that shift. */
    private static void bestShiftOfTwoSizes() {
        for (int seedCalls = 0; seedCalls < 40; seedCalls++) {
            FlashLevels x = new FlashLevels();
            x.set(0, 60);
            for (int i = 0; i < seedCalls; i++) {
                x.write(7, 0);
                x.erase(1);
            }
            x.write(0, 0x0f5a5a0f);
            int best = 0;
            int fewest = 99;
            for (int size = 60; size >= 0; size--) {
                for (int shift = -size; shift <= size; shift += Math.max(1, 2 * size)) {
                    int wrong = wrongByShift(x, shift);
                    // sizes fall, and of a size the one above 0 comes last
                    if (wrong <= fewest) {
                        fewest = wrong;
                        best = shift;
                    }
                }
            }
            Check.due("bestShift(0, 0) of " + seedCalls, x.bestShift(0, 0), best);
            Check.due("bestShift(0, 1) of " + seedCalls, x.bestShift(0, 1), fewest);
        }
    }

    /** The wrong bits that a match with this shift in all three places has. */
    private static int wrongByShift(FlashLevels x, int shift) {
        int match = x.addMatch(shift, shift, shift);
        int wrong = x.wrong(0, match);
        x.undo();
        return wrong;
    }

    private static void lostIn() {
        FlashLevels x = still();
        x.removeMatch(2);
        x.removeMatch(1);
        x.write(0, 0xaaaaaaaa);
        x.write(2, -1);
        x.write(7, 0xaaaaaaaa);
        Check.due("lostIn(0)", x.lostIn(0), 0);
        Check.due("lostIn(50)", x.lostIn(50), 0);
        Check.due("lostIn(51)", x.lostIn(51), 0x81);
        Check.due("lostIn(300)", x.lostIn(300), 0x81);
        x.pass(51);
        Check.due("lostIn(0) then", x.lostIn(0), 0x81);
        x.read(0);
        Check.due("a lost page is not written", x.lostIn(0), 0x80);
        x.erase(1);
        Check.due("an erased page neither", x.lostIn(300), 0);
        Check.refuses("lostIn(301)", ARGUMENT, () -> x.lostIn(301));
        Check.refuses("lostIn(-1)", ARGUMENT, () -> x.lostIn(-1));
    }

    private static void spare() {
        FlashLevels x = still();
        Check.due("no written page: the lowest number", x.spare(), 0);
        x.write(0, 0xaaaaaaaa);
        x.pass(81);
        Check.due("the page needs the match 2: the lowest one of the others", x.spare(), 0);
        x.set(3, 30);
        x.write(4, 0x55555555);
        x.write(5, 0x55555555);
        Check.due("disturbed, 180 is read as the level 1 by 0 alone", x.wrong(4, 1), 16);
        Check.due("one page needs 0, another one 2", x.spare(), 1);
        x.removeMatch(1);
        Check.due("two matches, both needed; the lowest number", x.spare(), 0);
        x.write(6, 0xaaaaaaaa);
        Check.due("disturbed by 30, 180 is the level 1 by 0 alone", x.wrong(5, 1), 16);
        Check.due("one page needs 1, another one needs 0", x.spare(), 1);
        x.set(2, 8);
        x.removeMatch(1);
        Check.due("one match alone", x.spare(), -1);
    }

    private static void meanFee() {
        FlashLevels x = still();
        Check.due("no read", x.meanFee() == 0.0);
        x.write(0, 0xaaaaaaaa);
        x.pass(51);
        x.read(0);
        Check.due("5 / 1", x.meanFee() == 5.0);
        x.read(0);
        x.read(0);
        Check.due("5 / 3", x.meanFee() == 5.0 / 3.0);
        FlashLevels lost = lostPage();
        Check.due("fees without a read", lost.count(9), 10);
        Check.due("no read though fees", lost.meanFee() == 0.0);
    }

    private static void digest() {
        FlashLevels x = new FlashLevels();
        Check.due("digest of a new object", x.digest(), new PlainModel().digest());
        long empty = x.digest();
        x.append('r');
        Check.due("the buffer is in it", x.digest() != empty);
        long one = x.digest();
        x.clearBuffer();
        x.append('w');
        Check.due("its codes are in it", x.digest() != one);
        x.clearBuffer();
        Check.due("the same again", x.digest(), empty);
        // fees of 1/1, 1/2, 1/3 .. bring many mean fees, below and above 1
        FlashLevels f = still();
        PlainModel m = new PlainModel();
        m.set(0, 0);
        f.write(0, 0xaaaaaaaa);
        m.write(0, 0xaaaaaaaa);
        f.pass(51);
        m.pass(51);
        f.set(4, 1);
        m.set(4, 1);
        for (int i = 0; i < 30; i++) {
            f.read(0);
            m.read(0);
            Check.due("digest with the mean fee " + f.meanFee(), f.digest(), m.digest());
        }
    }

    // ---- exceptions, and what would be

    private static void refusedCallsChangeNothing() {
        FlashLevels x = still();
        x.write(0, 77);
        type(x, "r0;");
        long before = x.digest();
        Check.Call[] calls = {() -> x.write(0, 1), () -> x.write(8, 1), () -> x.read(1), () -> x.erase(2),
                () -> x.copy(0, 0), () -> x.copy(1, 2), () -> x.pass(0), () -> x.addMatch(81, 0, 0), () -> x.removeMatch(3),
                () -> x.set(0, 61), () -> x.set(6, 0), () -> x.append(32), x::run};
        for (int i = 0; i < calls.length; i++) {
            String outcome = Check.outcome(calls[i]);
            Check.due("call " + i + " throws", outcome.startsWith("java.lang."));
            Check.due("call " + i + " changes nothing", x.digest(), before);
        }
    }

    private static void lookingChangesNothing() {
        FlashLevels x = still();
        x.write(0, 0xaaaaaaaa);
        x.pass(51);
        long before = x.digest();
        Check.Call[] calls = {() -> x.wrong(0, 1), () -> x.ifRead(0, 0), () -> x.life(0), () -> x.bestShift(0, 0),
                () -> x.lostIn(300), x::spare, () -> (long) x.meanFee(), x::digest, x::firstError, () -> x.page(0, 2)};
        for (int i = 0; i < calls.length; i++) {
            calls[i].answer();
            Check.due("looking " + i + " changes nothing", x.digest(), before);
        }
    }
}
