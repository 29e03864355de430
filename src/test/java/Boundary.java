import java.util.ArrayList;
import java.util.List;

/** What the tests of boundary cases share: kinds of tests, scenes to begin with, and steps. */
abstract class Boundary {
    interface Scene {
        FlashLevels make();
    }

    interface Steps {
        long on(FlashLevels x);
    }

    static final Class<IndexOutOfBoundsException> INDEX = IndexOutOfBoundsException.class;
    static final Class<IllegalArgumentException> ARGUMENT = IllegalArgumentException.class;
    static final Class<IllegalStateException> STATE = IllegalStateException.class;
    static final int NONE = -1;

    /** The data by which each cell gets this level. */
    static final int[] ALL_OF_LEVEL = {0xffffffff, 0x55555555, 0x00000000, 0xaaaaaaaa};
    static final int[] MOST_SETTINGS = {60, 50, 8, 30, 100, 10};

    /** seed / 65536 behind each of the first draws: as many as 320 writes need. */
    static final int[] DRAWS = draws(5120);

    // ---- kinds of tests

    /** The steps, ended by the call that is tested, answer this. */
    static void answers(String name, long due, Scene scene, Steps steps) {
        Check.test(name, () -> Check.due("the last call", steps.on(scene.make()), due));
    }

    /** The call throws exactly this exception, and all is as on a twin on which it was not made. */
    static void refused(String name, Class<? extends RuntimeException> due, Scene scene, Steps call) {
        Check.test(name, () -> {
            FlashLevels x = scene.make();
            Check.refuses("the call", due, () -> call.on(x));
            sameAsTwin(x, scene.make());
        });
    }

    /** The call answers, and all is as on a twin on which it was not made. */
    static void changesNothing(String name, Scene scene, Steps call) {
        Check.test(name, () -> {
            FlashLevels x = scene.make();
            call.on(x);
            sameAsTwin(x, scene.make());
        });
    }

    /** The call saves one state, and undo() makes all as on a twin on which it was not made. */
    static void undone(String name, Scene scene, Steps call) {
        Check.test(name, () -> {
            FlashLevels x = scene.make();
            int saved = x.count(11);
            Check.due("fewer than 6 saved states to begin with", saved < 6);
            call.on(x);
            Check.due("saved states behind the call", x.count(11), saved + 1);
            Check.due("undo()", x.undo(), saved);
            sameAsTwin(x, scene.make());
        });
    }

    static void sameAsTwin(FlashLevels x, FlashLevels twin) {
        List<String> got = trace(x);
        List<String> due = trace(twin);
        Check.due("as many answers as the twin's", got.size(), due.size());
        for (int i = 0; i < Math.min(got.size(), due.size()); i++) {
            if (!got.get(i).equals(due.get(i))) {
                Check.fail("then " + got.get(i) + ", the twin's is " + due.get(i));
                return;
            }
        }
    }

    /** What shows of an object, and of each of its saved states: these are gone then. */
    private static List<String> trace(FlashLevels x) {
        List<String> rows = new ArrayList<>();
        for (int what = 0; what <= 11; what++) {
            rows.add("count(" + what + ") = " + x.count(what));
        }
        for (int setting = 0; setting < 6; setting++) {
            rows.add("setting(" + setting + ") = " + x.setting(setting));
        }
        for (int place = 0; place < 3 * x.count(6); place++) {
            rows.add("match(" + place / 3 + ", " + place % 3 + ") = " + x.match(place / 3, place % 3));
        }
        for (int page = 0; page < 8; page++) {
            for (int what = 0; what <= 6; what++) {
                rows.add("page(" + page + ", " + what + ") = " + x.page(page, what));
            }
            rows.add("data(" + page + ") = " + x.data(page));
            for (int cell = 0; cell < 16; cell++) {
                rows.add("cell(" + page + ", " + cell + ", 0) = " + x.cell(page, cell, 0));
            }
        }
        rows.add("firstError() = " + x.firstError());
        rows.add("digest() = " + x.digest());
        for (int saved = x.count(11); saved > 0; saved--) {
            rows.add("undo() = " + x.undo());
            rows.add("digest() behind undo() = " + x.digest());
        }
        rows.add("clearBuffer() = " + x.clearBuffer());
        return rows;
    }

    /** The first values beside a range, and the farthest ones. */
    static int[] beside(int least, int most) {
        return new int[] {least - 1, most + 1, Integer.MIN_VALUE, Integer.MAX_VALUE};
    }

    private static int[] draws(int number) {
        int[] draws = new int[number];
        long seed = 1;
        for (int i = 0; i < number; i++) {
            seed = (1103515245L * seed + 12345L) % 2147483648L;
            draws[i] = (int) (seed / 65536);
        }
        return draws;
    }

    // ---- scenes

    static FlashLevels fresh() {
        return new FlashLevels();
    }

    /** Without jitter: a cell that is written has the charge 50, 150, 250 or 350. */
    static FlashLevels still() {
        FlashLevels x = new FlashLevels();
        x.set(0, 0);
        return x;
    }

    /** The page 0 is written with the level 3, and has drifted to 299: the match 0 has 16 wrong bits, the match 1 none. */
    static FlashLevels faded() {
        FlashLevels x = still();
        x.write(0, ALL_OF_LEVEL[3]);
        x.pass(51);
        return x;
    }

    /** The page 0 is written with the level 3, and has drifted to 19: all matches have 16 wrong bits. */
    static FlashLevels gone() {
        FlashLevels x = still();
        x.set(1, 50);
        x.write(0, ALL_OF_LEVEL[3]);
        x.pass(100);
        return x;
    }

    /** The same, and the page has been read: it is lost. */
    static FlashLevels lost() {
        FlashLevels x = gone();
        x.read(0);
        return x;
    }

    /**
     * The pages 0 and 5 are written, 2 is lost, the others are erased; the favorite of 0 is 1, the block 1 has been
     * erased once, there are six saved states, and commands in the buffer.
     */
    static FlashLevels used() {
        FlashLevels x = new FlashLevels();
        x.erase(1);
        x.set(0, 0);
        x.write(2, ALL_OF_LEVEL[3]);
        x.set(1, 50);
        x.pass(100);
        x.read(2);
        x.set(1, 4);
        x.write(0, ALL_OF_LEVEL[3]);
        x.write(5, 0x12345678);
        x.pass(51);
        x.read(0);
        x.set(0, 7);
        type(x, "r0;h1");
        return x;
    }

    /** The same with two saved states alone: four others have pushed the older ones out, and are undone. */
    static FlashLevels usedWithRoom() {
        FlashLevels x = used();
        for (int i = 0; i < 4; i++) {
            x.pass(1);
        }
        for (int i = 0; i < 4; i++) {
            x.undo();
        }
        return x;
    }

    /** The block's wear is this. */
    static FlashLevels worn(int block, int wear) {
        FlashLevels x = still();
        eraseOften(x, block, wear);
        return x;
    }

    /** These are the matches, and no others. */
    static FlashLevels matched(int[]... matches) {
        FlashLevels x = still();
        x.addMatch(matches[0][0], matches[0][1], matches[0][2]);
        for (int i = 0; i < 3; i++) {
            x.removeMatch(0);
        }
        for (int i = 1; i < matches.length; i++) {
            x.addMatch(matches[i][0], matches[i][1], matches[i][2]);
        }
        return x;
    }

    static FlashLevels oneMatch() {
        return matched(new int[] {0, 0, 0});
    }

    static FlashLevels sixMatches() {
        FlashLevels x = still();
        x.addMatch(1, 2, 3);
        x.addMatch(4, 5, 6);
        x.addMatch(7, 8, 9);
        return x;
    }

    /**
     * Six matches; the match that is the favorite of the page 0 reads its charges of 250 and not those of 239 to which
     * it has drifted, the other one reads these alone, and the others neither.
     */
    static FlashLevels favoriteFails(int favorite, int other) {
        int[][] matches = new int[6][];
        for (int i = 0; i < 6; i++) {
            matches[i] = i == favorite ? new int[] {0, 45, 0} : i == other ? new int[] {0, 0, -60} : new int[] {0, 80, 80};
        }
        FlashLevels x = matched(matches);
        x.write(0, ALL_OF_LEVEL[2]);
        x.read(0);
        x.set(1, 5);
        x.pass(11);
        return x;
    }

    static FlashLevels typed(String text) {
        FlashLevels x = usedWithRoom();
        x.clearBuffer();
        type(x, text);
        return x;
    }

    // ---- steps

    static void type(FlashLevels x, String text) {
        for (int i = 0; i < text.length(); i++) {
            x.append(text.charAt(i));
        }
    }

    static int runText(FlashLevels x, String text) {
        type(x, text);
        return x.run();
    }

    static void eraseOften(FlashLevels x, int block, int times) {
        for (int i = 0; i < times; i++) {
            x.erase(block);
        }
    }

    /** The data by which the cells of the lowest numbers get the level 3, and the others the level 0. */
    static int someOfLevel3(int cells) {
        int data = -1;
        for (int cell = 0; cell < cells; cell++) {
            data &= ~(1 << (2 * cell));
        }
        return data;
    }

    /** So many writes, each of 16 draws, in the block 1, which is erased in between. */
    static void writeFarAway(FlashLevels x, int writes) {
        for (int i = 0; i < writes; i++) {
            if (i > 0 && i % 4 == 0) {
                x.erase(1);
            }
            x.write(4 + i % 4, 0);
        }
    }
}
