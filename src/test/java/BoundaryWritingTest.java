/** The boundary cases of the promises 1 to 6: a new object, write, read, erase, copy, pass. */
public final class BoundaryWritingTest extends Boundary {
    /** seed / 65536 behind each of the first draws. */
    private static final int[] FIRST_DRAWS = {16838, 5758, 10113, 17515, 31051, 5627, 23010, 7419,
        16212, 4086, 2749, 12767, 9084, 12060, 32225, 17543};

    private BoundaryWritingTest() {
    }

    public static void main(String[] args) {
        newObject();
        writeArguments();
        writeStates();
        writeData();
        writeDraws();
        writeCharges();
        writeNeighbors();
        readArguments();
        readTries();
        readFees();
        readFavorites();
        readCounts();
        erase();
        erasedPages();
        copyArguments();
        copyStates();
        copyEffects();
        passArguments();
        passDrift();
        Check.end("BoundaryWritingTest");
    }

    // ---- promise 1

    private static void newObject() {
        answers("promise 1, NONE is -1", -1, Boundary::fresh, x -> FlashLevels.NONE);
        int[] properties = {0, NONE, NONE, 0, 0, 0, 0};
        for (int page = 0; page < 8; page++) {
            int p = page;
            for (int what = 0; what < 7; what++) {
                int w = what;
                answers("promise 1, new: property " + w + " of the page " + p, properties[w], Boundary::fresh,
                        x -> x.page(p, w));
            }
            answers("promise 1, new: data of the page " + p, 0, Boundary::fresh, x -> x.data(p));
            Check.test("promise 1, new: charges of the page " + p, () -> {
                FlashLevels x = fresh();
                for (int cell = 0; cell < 16; cell++) {
                    Check.due("charge of " + cell, x.cell(p, cell, 0), 0);
                }
            });
        }
        int[] counts = {0, 1, 0, 0, 0, 0, 3, 0, 0, 0, 0, 0};
        for (int what = 0; what < counts.length; what++) {
            int w = what;
            answers("promise 1, new: count " + w, counts[w], Boundary::fresh, x -> x.count(w));
        }
        int[] settings = {10, 4, 2, 3, 5, 1};
        for (int setting = 0; setting < settings.length; setting++) {
            int s = setting;
            answers("promise 1, new: setting " + s, settings[s], Boundary::fresh, x -> x.setting(s));
        }
        int[] offsets = {0, 0, 0, -10, -20, -30, -20, -40, -60};
        for (int i = 0; i < offsets.length; i++) {
            int match = i / 3;
            int place = i % 3;
            answers("promise 1, new: match " + match + " at the place " + place, offsets[i], Boundary::fresh,
                    x -> x.match(match, place));
        }
        answers("promise 1, new: the buffer is empty", 0, Boundary::fresh, FlashLevels::clearBuffer);
        Check.test("promise 1, new: nothing comes from another object", () -> {
            FlashLevels x = fresh();
            used();
            sameAsTwin(x, fresh());
            sameAsTwin(fresh(), fresh());
        });
    }

    // ---- promise 2

    private static void writeArguments() {
        answers("promise 2, write: page 0, the first", 4000, Boundary::still, x -> x.write(0, 0));
        answers("promise 2, write: page 7, the last", 4000, Boundary::still, x -> x.write(7, 0));
        for (int page : beside(0, 7)) {
            refused("promise 2, write: no page " + page, INDEX, Boundary::used, x -> x.write(page, 0));
        }
        int[] farthest = {0, 1, -1, Integer.MIN_VALUE, Integer.MAX_VALUE};
        for (int data : farthest) {
            answers("promise 2, write: data " + data + " as any number", data, Boundary::still, x -> {
                x.write(3, data);
                return x.data(3);
            });
        }
    }

    private static void writeStates() {
        refused("promise 2, write: a written page", STATE, Boundary::used, x -> x.write(0, 1));
        refused("promise 2, write: a lost page", STATE, Boundary::used, x -> x.write(2, 1));
        refused("promise 2, write: a written page with its own data", STATE, Boundary::used, x -> x.write(0, x.data(0)));
        answers("promise 2, write: a page that has been erased", 800, Boundary::lost, x -> {
            x.erase(0);
            x.set(5, 0);
            return x.write(0, -1);
        });
        answers("promise 2, write: all 8 pages can be written", 8, Boundary::fresh, x -> {
            for (int page = 0; page < 8; page++) {
                x.write(page, page);
            }
            return x.count(4);
        });
        answers("promise 2, write: no hours since then", 0, Boundary::used, x -> {
            x.write(7, 1);
            return x.page(7, 1);
        });
        answers("promise 2, write: the favorite is 0, also if it was another one ahead of an erasing", 0, Boundary::faded,
                x -> {
                    x.read(0);
                    x.erase(0);
                    x.write(0, 0);
                    return x.page(0, 2);
                });
        undone("promise 2, write: undone", Boundary::usedWithRoom, x -> x.write(1, 0x76543210));
    }

    private static void writeData() {
        for (int level = 0; level < 4; level++) {
            int due = level;
            answers("promise 2, write: the sum of 16 charges of the level " + level, 16 * (50 + 100 * level),
                    Boundary::still, x -> x.write(6, ALL_OF_LEVEL[due]));
        }
        answers("promise 2, write: bit 0 is the lower one of the cell 0", 150, Boundary::still, x -> {
            x.write(0, 1);
            return x.cell(0, 0, 0);
        });
        answers("promise 2, write: bit 1 is the higher one of the cell 0", 350, Boundary::still, x -> {
            x.write(0, 2);
            return x.cell(0, 0, 0);
        });
        answers("promise 2, write: bit 2 is the lower one of the cell 1", 150, Boundary::still, x -> {
            x.write(0, 4);
            return x.cell(0, 1, 0);
        });
        answers("promise 2, write: bit 30 is the lower one of the cell 15", 150, Boundary::still, x -> {
            x.write(0, 1 << 30);
            return x.cell(0, 15, 0);
        });
        answers("promise 2, write: bit 31 is the higher one of the cell 15", 350, Boundary::still, x -> {
            x.write(0, 1 << 31);
            return x.cell(0, 15, 0);
        });
        answers("promise 2, write: both bits of the cell 15", 50, Boundary::still, x -> {
            x.write(0, 3 << 30);
            return x.cell(0, 15, 0);
        });
        answers("promise 2, write: no bit of the cell 15", 250, Boundary::still, x -> {
            x.write(0, -1 >>> 2);
            return x.cell(0, 15, 0);
        });
    }

    private static void writeDraws() {
        for (int cell = 0; cell < 16; cell++) {
            int c = cell;
            answers("promise 2, write: the cell " + c + " gets the draw " + (c + 1) + " of a new object",
                    250 + FIRST_DRAWS[c] % 21 - 10, Boundary::fresh, x -> {
                        x.write(0, 0);
                        return x.cell(0, c, 0);
                    });
        }
        long seed = 1;
        for (int i = 0; i < 16; i++) {
            seed = (1103515245L * seed + 12345L) % 2147483648L;
        }
        answers("promise 2, write: the seed wraps around at 2147483648", seed, Boundary::fresh, x -> {
            x.write(0, 0);
            return x.count(1);
        });
        answers("promise 2, write: the seed moves without jitter too", seed, Boundary::still, x -> {
            x.write(0, 0);
            return x.count(1);
        });
        Check.test("promise 2, write: the seed stays below 2147483648 and not below 0", () -> {
            FlashLevels x = fresh();
            for (int block = 0; block < 80; block++) {
                for (int page = 4; page < 8; page++) {
                    x.write(page, 0);
                }
                Check.due("seed / 65536 behind " + 4 * (block + 1) + " writes", x.count(1) / 65536, DRAWS[64 * block + 63]);
                x.erase(1);
            }
        });
        charge("promise 2, write: the lowest draw of the jitter 1", 2, 1, 0, 249, 249);
        charge("promise 2, write: the middle draw of the jitter 1", 2, 1, 0, 250, 250);
        charge("promise 2, write: the highest draw of the jitter 1", 2, 1, 0, 251, 251);
        charge("promise 2, write: the lowest draw of the jitter 60", 2, 60, 0, 190, 190);
        charge("promise 2, write: the highest draw of the jitter 60", 2, 60, 0, 310, 310);
        charge("promise 2, write: the lowest draw of the jitter 10 and 1 by wear", 2, 10, 1, 239, 239);
        charge("promise 2, write: the highest draw of the jitter 10 and 1 by wear", 2, 10, 1, 261, 261);
        answers("promise 2, write: no jitter by wear if setting 5 is 0", 4000, () -> worn(0, 100), x -> {
            x.set(5, 0);
            return x.write(0, 0);
        });
        answers("promise 2, write: no jitter by the wear of the other block", 4000, () -> worn(1, 100), x -> {
            x.set(5, 10);
            return x.write(3, 0);
        });
        answers("promise 2, write: setting 5 times the wear 100", Math.min(450, 250 + 16838 % 2001 - 1000),
                () -> worn(1, 100), x -> {
                    x.set(5, 10);
                    x.write(4, 0);
                    return x.cell(4, 0, 0);
                });
    }

    private static void writeCharges() {
        charge("promise 2, write: 1 below 0 becomes 0", 0, 51, 0, -1, 0);
        charge("promise 2, write: 0 is not below 0", 0, 51, 0, 0, 0);
        charge("promise 2, write: 1 stays", 0, 51, 0, 1, 1);
        charge("promise 2, write: 10 below 0 becomes 0", 0, 60, 0, -10, 0);
        charge("promise 2, write: 449 stays", 3, 51, 50, 449, 449);
        charge("promise 2, write: 450 is not above 450", 3, 51, 50, 450, 450);
        charge("promise 2, write: 451 becomes 450", 3, 51, 50, 451, 450);
        answers("promise 2, write: far below 0 becomes 0", 0, () -> worn(0, 100), x -> {
            x.set(5, 10);
            x.write(0, -1);
            // 50 + 10113 % 2001 - 1000 is -842
            return x.cell(0, 2, 0);
        });
        answers("promise 2, write: far above 450 becomes 450", 450, () -> worn(0, 100), x -> {
            x.set(5, 10);
            x.write(0, -1);
            // 50 + 5758 % 2001 - 1000 is 806
            return x.cell(0, 1, 0);
        });
    }

    /**
     * The first cell, of all that are drawn, that would get this charge if there was no least and no most one,
     * gets the due charge; the other draws ahead of it are used up in the block 1.
     */
    private static void charge(String name, int level, int jitter, int wearJitter, int raw, int due) {
        Check.test(name, () -> {
            int draw = firstDrawOf(raw - 50 - 100 * level, jitter + wearJitter);
            FlashLevels x = jittering(jitter, wearJitter, draw / 16);
            x.write(0, ALL_OF_LEVEL[level]);
            Check.due("the charge", x.cell(0, draw % 16, 0), due);
        });
    }

    /** The index of the first draw that, less the jitter, is this. */
    private static int firstDrawOf(int shift, int jitter) {
        for (int i = 0; i < DRAWS.length; i++) {
            if (DRAWS[i] % (2 * jitter + 1) - jitter == shift) {
                return i;
            }
        }
        throw new IllegalArgumentException("no draw is " + shift);
    }

    /** So many writes are done in the block 1; the wear of the block 0 brings so much jitter, by 10 at most each. */
    private static FlashLevels jittering(int jitter, int wearJitter, int writes) {
        FlashLevels x = fresh();
        x.set(0, jitter);
        x.set(5, Math.min(10, wearJitter));
        eraseOften(x, 0, (wearJitter + 9) / 10);
        writeFarAway(x, writes);
        return x;
    }

    private static void writeNeighbors() {
        for (int page = 0; page < 8; page++) {
            int written = page;
            for (int other = 0; other < 8; other++) {
                int o = other;
                boolean neighbor = Math.abs(o - written) == 1 && o / 4 == written / 4;
                if (o != written) {
                    answers("promise 2, write: " + written + (neighbor ? " disturbs " : " does not disturb ") + o,
                            16 * (neighbor ? 180 : 150), Boundary::still, x -> {
                                x.set(3, 30);
                                x.write(o, ALL_OF_LEVEL[1]);
                                x.write(written, 0);
                                return x.page(o, 6);
                            });
                }
            }
            answers("promise 2, write: " + written + " does not disturb itself", 16 * 150, Boundary::still, x -> {
                x.set(3, 30);
                x.write(written, ALL_OF_LEVEL[1]);
                return x.page(written, 6);
            });
        }
        answers("promise 2, write: an erased neighbor is not disturbed", 0, Boundary::still, x -> {
            x.write(1, 0);
            return x.page(0, 6) + x.page(2, 6);
        });
        answers("promise 2, write: a lost neighbor is disturbed", 16 * (19 + 3), Boundary::lost, x -> {
            x.write(1, 0);
            return x.page(0, 6);
        });
        answers("promise 2, write: both neighbors are disturbed", 32 * (250 + 3), Boundary::still, x -> {
            x.write(4, 0);
            x.write(6, 0);
            x.write(5, 0);
            return x.page(4, 6) + x.page(6, 6);
        });
        answers("promise 2, write: a neighbor is disturbed by each write", 16 * (250 + 6), Boundary::still, x -> {
            x.write(2, 0);
            x.write(1, 0);
            x.write(3, 0);
            return x.page(2, 6);
        });
        answers("promise 2, write: the disturbing 0", 4000, Boundary::still, x -> {
            x.set(3, 0);
            x.write(0, 0);
            x.write(1, 0);
            return x.page(0, 6);
        });
        disturbed("promise 2, write: a neighbor of 419 gets 449", 419, 449);
        disturbed("promise 2, write: a neighbor of 420 gets 450", 420, 450);
        disturbed("promise 2, write: a neighbor of 421 gets 450 at most", 421, 450);
        disturbed("promise 2, write: a neighbor of 430 gets 450 at most", 430, 450);
    }

    private static void disturbed(String name, int before, int due) {
        Check.test(name, () -> {
            int draw = firstDrawOf(before - 350, 80);
            FlashLevels x = jittering(60, 20, draw / 16);
            x.set(3, 30);
            x.write(0, ALL_OF_LEVEL[3]);
            Check.due("the charge ahead of it", x.cell(0, draw % 16, 0), before);
            x.write(1, 0);
            Check.due("the charge behind it", x.cell(0, draw % 16, 0), due);
        });
    }

    // ---- promise 3

    private static void readArguments() {
        for (int page = 0; page < 8; page += 7) {
            int p = page;
            answers("promise 3, read: page " + p + (p == 0 ? ", the first" : ", the last"), 0, Boundary::still, x -> {
                x.write(p, 0);
                return x.read(p);
            });
        }
        for (int page : beside(0, 7)) {
            refused("promise 3, read: no page " + page, INDEX, Boundary::used, x -> x.read(page));
        }
        refused("promise 3, read: a page that was never written", STATE, Boundary::used, x -> x.read(1));
        refused("promise 3, read: a page that has been erased", STATE, () -> {
            FlashLevels x = faded();
            x.erase(0);
            return x;
        }, x -> x.read(0));
        refused("promise 3, read: a lost page", STATE, Boundary::used, x -> x.read(2));
        undone("promise 3, read: undone", Boundary::usedWithRoom, x -> x.read(0));
        undone("promise 3, read: undone though the page is lost", Boundary::gone, x -> x.read(0));
    }

    private static void readTries() {
        int[] correctable = {0, 2, 8};
        for (int bits : correctable) {
            answers("promise 3, read: " + bits + " wrong bits of " + bits, 0, Boundary::still, x -> {
                x.write(0, someOfLevel3(bits));
                x.pass(51);
                x.set(2, bits);
                return x.read(0);
            });
            answers("promise 3, read: " + (bits + 1) + " wrong bits of " + bits, 1, Boundary::still, x -> {
                x.write(0, someOfLevel3(bits + 1));
                x.pass(51);
                x.set(2, bits);
                return x.read(0);
            });
        }
        answers("promise 3, read: no try fails", 0, Boundary::still, x -> {
            x.write(0, 0);
            return x.read(0);
        });
        answers("promise 3, read: the last one of three tries", 2, () -> {
            FlashLevels x = still();
            x.write(0, ALL_OF_LEVEL[3]);
            x.pass(81);
            return x;
        }, x -> x.read(0));
        answers("promise 3, read: all three tries fail", NONE, Boundary::gone, x -> x.read(0));
        answers("promise 3, read: one match alone, which fails", NONE, Boundary::oneMatch, x -> {
            x.write(0, ALL_OF_LEVEL[3]);
            x.pass(51);
            return x.read(0);
        });
        answers("promise 3, read: the last one of six tries", 5, () -> sixTries(-51), x -> x.read(0));
        answers("promise 3, read: all six tries fail", NONE, () -> sixTries(-50), x -> x.read(0));
    }

    /** Charges of 249, which only the match 5 can read as the level 3. */
    private static FlashLevels sixTries(int lastOffset) {
        int[] high = {0, 0, 0};
        FlashLevels x = matched(high, high, high, high, high, new int[] {0, 0, lastOffset});
        x.write(0, ALL_OF_LEVEL[3]);
        x.pass(100);
        x.pass(1);
        return x;
    }

    private static void readFees() {
        readThenProperty("promise 3, read: the first try costs nothing", 0, () -> {
            FlashLevels x = still();
            x.write(0, 0);
            return x;
        }, 5);
        readThenProperty("promise 3, read: the second try costs a fee", 5, Boundary::faded, 5);
        readThenProperty("promise 3, read: a lost page costs all tries but the first", 10, Boundary::gone, 5);
        readThenProperty("promise 3, read: six tries cost five fees", 25, () -> sixTries(-51), 5);
        readThenProperty("promise 3, read: six tries that fail cost five fees", 25, () -> sixTries(-50), 5);
        readThenProperty("promise 3, read: one match alone that fails costs nothing", 0, () -> {
            FlashLevels x = oneMatch();
            x.write(0, ALL_OF_LEVEL[3]);
            x.pass(51);
            return x;
        }, 5);
        readThenProperty("promise 3, read: the fee 0", 0, () -> {
            FlashLevels x = gone();
            x.set(4, 0);
            return x;
        }, 5);
        readThenProperty("promise 3, read: the fee 100", 200, () -> {
            FlashLevels x = gone();
            x.set(4, 100);
            return x;
        }, 5);
    }

    private static void readThenProperty(String name, int due, Scene scene, int what) {
        answers(name, due, scene, x -> {
            x.read(0);
            return x.page(0, what);
        });
    }

    /** The favorite is 2; by charges of 239 it fails, and both others succeed. */
    private static FlashLevels twoBesideFavorite() {
        int[] low = {0, 0, -60};
        FlashLevels x = matched(low, low, new int[] {0, 45, 0});
        x.write(0, 0);
        x.read(0);
        x.set(1, 5);
        x.pass(11);
        return x;
    }

    private static void readFavorites() {
        for (int favorite = 0; favorite < 6; favorite++) {
            for (int other = 0; other < 6; other++) {
                int f = favorite;
                int o = other;
                if (f != o) {
                    answers("promise 3, read: the favorite " + f + " fails, and all others but " + o, o < f ? o + 1 : o,
                            () -> favoriteFails(f, o), x -> x.read(0));
                    readThenProperty("promise 3, read: behind the favorite " + f + " it is " + o, o,
                            () -> favoriteFails(f, o), 2);
                }
            }
        }
        answers("promise 3, read: the favorite is tried first", 0, Boundary::faded, x -> {
            x.read(0);
            return x.read(0);
        });
        answers("promise 3, read: behind the favorite the lowest number is tried", 1, () -> twoBesideFavorite(), x -> x.read(0));
        readThenProperty("promise 3, read: the lowest number that succeeds is the favorite", 0, () -> twoBesideFavorite(), 2);
        answers("promise 3, read: the favorite is not tried a second time", 2, Boundary::faded, x -> {
            x.read(0);
            x.pass(30);
            return x.read(0);
        });
        readThenProperty("promise 3, read: a first try leaves the favorite 0", 0, () -> {
            FlashLevels x = still();
            x.write(0, 0);
            return x;
        }, 2);
        readThenProperty("promise 3, read: the last match becomes the favorite", 5, () -> sixTries(-51), 2);
        answers("promise 3, read: with a favorite all tries fail as often as there are matches", 1 + 3, Boundary::faded,
                x -> {
                    x.read(0);
                    x.set(1, 50);
                    x.pass(100);
                    x.read(0);
                    return x.page(0, 4);
                });
    }

    private static void readCounts() {
        readThenProperty("promise 3, read: it stays written", 1, Boundary::faded, 0);
        readThenProperty("promise 3, read: it is lost", 2, Boundary::gone, 0);
        readThenProperty("promise 3, read: a success is counted", 1, Boundary::faded, 3);
        readThenProperty("promise 3, read: a loss is no success", 0, Boundary::gone, 3);
        readThenProperty("promise 3, read: failed tries ahead of a success", 1, Boundary::faded, 4);
        readThenProperty("promise 3, read: failed tries of a loss", 3, Boundary::gone, 4);
        readThenProperty("promise 3, read: the charges stay", 16 * 299, Boundary::faded, 6);
        answers("promise 3, read: the data stays when the page is lost", ALL_OF_LEVEL[3], Boundary::lost, x -> x.data(0));
        answers("promise 3, read: a loss is counted", 1, Boundary::gone, x -> {
            x.read(0);
            return x.count(10);
        });
        answers("promise 3, read: a success is no loss", 0, Boundary::faded, x -> {
            x.read(0);
            return x.count(10);
        });
    }

    // ---- promise 4

    private static void erase() {
        answers("promise 4, erase: block 0, the first", 1, Boundary::fresh, x -> x.erase(0));
        answers("promise 4, erase: block 1, the last", 1, Boundary::fresh, x -> x.erase(1));
        for (int block : beside(0, 1)) {
            refused("promise 4, erase: no block " + block, INDEX, Boundary::used, x -> x.erase(block));
        }
        for (int block = 0; block < 2; block++) {
            int b = block;
            answers("promise 4, erase: block " + b + " of the wear 99", 100, () -> worn(b, 99), x -> x.erase(b));
            refused("promise 4, erase: block " + b + " of the wear 100", STATE, () -> worn(b, 100), x -> x.erase(b));
            answers("promise 4, erase: the other block, with " + b + " of the wear 100", 1, () -> worn(b, 100),
                    x -> x.erase(1 - b));
            refused("promise 4, erase: a written block " + b + " of the wear 100", STATE, () -> {
                FlashLevels x = worn(b, 100);
                x.write(4 * b, 77);
                return x;
            }, x -> x.erase(b));
        }
        refused("promise 4, erase: no block 2 though both have the wear 100", INDEX, () -> {
            FlashLevels x = worn(0, 100);
            eraseOften(x, 1, 100);
            return x;
        }, x -> x.erase(2));
        answers("promise 4, erase: an empty block wears too", 2, Boundary::fresh, x -> {
            x.erase(0);
            return x.erase(0);
        });
        undone("promise 4, erase: undone", Boundary::usedWithRoom, x -> x.erase(0));
        undone("promise 4, erase: undone from the wear 100 to 99", () -> {
            FlashLevels x = worn(0, 100);
            x.undo();
            return x;
        }, x -> x.erase(0));
    }

    private static void erasedPages() {
        for (int page = 0; page < 8; page++) {
            int p = page;
            for (int block = 0; block < 2; block++) {
                int b = block;
                boolean inside = p / 4 == b;
                answers("promise 4, erase: block " + b + (inside ? " with page " : " without page ") + p,
                        inside ? 0 : 1, Boundary::still, x -> {
                            x.write(p, 1);
                            x.erase(b);
                            return x.page(p, 0);
                        });
                answers("promise 4, erase: block " + b + (inside ? " with the charges of " : " without the charges of ") + p,
                        inside ? 0 : 4000, Boundary::still, x -> {
                            x.write(p, 0);
                            x.erase(b);
                            return x.page(p, 6);
                        });
            }
        }
        answers("promise 4, erase: a lost page is erased", 0, Boundary::lost, x -> {
            x.erase(0);
            return x.page(0, 0);
        });
        answers("promise 4, erase: the data is 0 then", 0, Boundary::lost, x -> {
            x.erase(0);
            return x.data(0);
        });
        int[] counted = {0, 3, 10};
        for (int what = 3; what <= 5; what++) {
            int w = what;
            answers("promise 4, erase: property " + w + " goes on from ahead of it", counted[w - 3], Boundary::lost, x -> {
                x.erase(0);
                return x.page(0, w);
            });
        }
        answers("promise 4, erase: the seed stays", 1, Boundary::fresh, x -> {
            x.erase(0);
            return x.count(1);
        });
    }

    // ---- promise 5

    private static void copyArguments() {
        answers("promise 5, copy: from the first page to the last", 0, Boundary::still, x -> {
            x.write(0, 1);
            return x.copy(0, 7);
        });
        answers("promise 5, copy: from the last page to the first", 0, Boundary::still, x -> {
            x.write(7, 1);
            return x.copy(7, 0);
        });
        for (int page : beside(0, 7)) {
            refused("promise 5, copy: from no page " + page, INDEX, Boundary::used, x -> x.copy(page, 1));
            refused("promise 5, copy: to no page " + page, INDEX, Boundary::used, x -> x.copy(0, page));
            refused("promise 5, copy: from an erased page to no page " + page, INDEX, Boundary::used, x -> x.copy(1, page));
            refused("promise 5, copy: from no page " + page + " to a written one", INDEX, Boundary::used,
                    x -> x.copy(page, 5));
            refused("promise 5, copy: from and to no page " + page, INDEX, Boundary::used, x -> x.copy(page, page));
        }
    }

    private static void copyStates() {
        refused("promise 5, copy: from an erased page", STATE, Boundary::used, x -> x.copy(1, 3));
        refused("promise 5, copy: from a lost page", STATE, Boundary::used, x -> x.copy(2, 3));
        refused("promise 5, copy: to a written page", STATE, Boundary::used, x -> x.copy(0, 5));
        refused("promise 5, copy: to a lost page", STATE, Boundary::used, x -> x.copy(0, 2));
        refused("promise 5, copy: from an erased page to a written one", STATE, Boundary::used, x -> x.copy(1, 0));
        refused("promise 5, copy: a written page to itself", STATE, Boundary::used, x -> x.copy(0, 0));
        refused("promise 5, copy: an erased page to itself", STATE, Boundary::used, x -> x.copy(1, 1));
        refused("promise 5, copy: to a written page, though the first one would be lost", STATE, () -> {
            FlashLevels x = gone();
            x.write(4, 1);
            return x;
        }, x -> x.copy(0, 4));
        undone("promise 5, copy: undone", Boundary::usedWithRoom, x -> x.copy(0, 1));
        undone("promise 5, copy: undone though the page is lost", Boundary::gone, x -> x.copy(0, 1));
    }

    private static void copyEffects() {
        answers("promise 5, copy: tries that failed", 1, Boundary::faded, x -> x.copy(0, 7));
        answers("promise 5, copy: the last one of six tries", 5, () -> sixTries(-51), x -> x.copy(0, 7));
        answers("promise 5, copy: all tries fail", NONE, Boundary::gone, x -> x.copy(0, 7));
        copied("promise 5, copy: the other one has the data", ALL_OF_LEVEL[3], 0, 7, x -> x.data(7));
        copied("promise 5, copy: the other one has new charges", 16 * 350, 0, 7, x -> x.page(7, 6));
        copied("promise 5, copy: the favorite of the other one is 0", 0, 0, 7, x -> x.page(7, 2));
        copied("promise 5, copy: the favorite of the first one moves", 1, 0, 7, x -> x.page(0, 2));
        copied("promise 5, copy: hours since the other one was written", 0, 0, 7, x -> x.page(7, 1));
        copied("promise 5, copy: hours since the first one was written", 51, 0, 7, x -> x.page(0, 1));
        copied("promise 5, copy: the first one pays", 5, 0, 7, x -> x.page(0, 5));
        copied("promise 5, copy: the other one pays nothing", 0, 0, 7, x -> x.page(7, 5));
        copied("promise 5, copy: a neighbor disturbs the first one", 16 * (299 + 3), 0, 1, x -> x.page(0, 6));
        copied("promise 5, copy: no neighbor does not disturb it", 16 * 299, 0, 2, x -> x.page(0, 6));
        copied("promise 5, copy: the page of the other block is no neighbor", 16 * 299, 0, 4, x -> x.page(0, 6));
        copied("promise 5, copy: both pages are written", 2, 0, 1, x -> x.count(4));
        answers("promise 5, copy: one that is lost writes nothing", 0, Boundary::gone, x -> {
            x.copy(0, 1);
            return x.page(1, 0) + x.data(1) + x.page(1, 6);
        });
        answers("promise 5, copy: one that is lost is lost", 2, Boundary::gone, x -> {
            x.copy(0, 1);
            return x.page(0, 0);
        });
        answers("promise 5, copy: one that is lost is not disturbed", 16 * 19, Boundary::gone, x -> {
            x.copy(0, 1);
            return x.page(0, 6);
        });
        Check.test("promise 5, copy: one that is lost draws nothing", () -> {
            FlashLevels x = gone();
            int seed = x.count(1);
            x.copy(0, 1);
            Check.due("the seed", x.count(1), seed);
        });
        answers("promise 5, copy: one that is lost is counted", 1, Boundary::gone, x -> {
            x.copy(0, 1);
            return x.count(10);
        });
    }

    private static void copied(String name, long due, int from, int to, Steps steps) {
        answers(name, due, Boundary::faded, x -> {
            x.copy(from, to);
            return steps.on(x);
        });
    }

    // ---- promise 6

    private static void passArguments() {
        answers("promise 6, pass: 1, the least", 1, Boundary::fresh, x -> x.pass(1));
        answers("promise 6, pass: 100, the most", 100, Boundary::fresh, x -> x.pass(100));
        for (int hours : beside(1, 100)) {
            refused("promise 6, pass: " + hours + " is out of range", ARGUMENT, Boundary::used, x -> x.pass(hours));
        }
        refused("promise 6, pass: -1 is out of range", ARGUMENT, Boundary::used, x -> x.pass(-1));
        answers("promise 6, pass: the hours so far", 101, Boundary::fresh, x -> {
            x.pass(100);
            return x.pass(1);
        });
        answers("promise 6, pass: 512 calls of the most hours", 51200, Boundary::fresh, x -> {
            for (int i = 0; i < 511; i++) {
                x.pass(100);
            }
            return x.pass(100);
        });
        undone("promise 6, pass: undone", Boundary::usedWithRoom, x -> x.pass(100));
    }

    private static void passDrift() {
        charged("promise 6, pass: 250 loses 250 * 4 / 1000", 249, 2, 4, 0, 1);
        charged("promise 6, pass: 249 * 4 / 1000 is rounded down to 0", 249, 2, 4, 0, 2);
        charged("promise 6, pass: no charge stands above it", 249, 3, 4, 0, 300);
        charged("promise 6, pass: 334 loses 334 * 3 / 1000", 333, 3, 3, 0, 17);
        charged("promise 6, pass: 333 * 3 / 1000, of 999, is rounded down to 0", 333, 3, 3, 0, 18);
        charged("promise 6, pass: the drift 0", 350, 3, 0, 0, 100);
        charged("promise 6, pass: the drift 50", 350 - 17, 3, 50, 0, 1);
        charged("promise 6, pass: each hour takes of what is left", 350 - 17 - 16, 3, 50, 0, 2);
        charged("promise 6, pass: the wear is added to the drift 0", 349, 3, 0, 3, 1);
        charged("promise 6, pass: 350 * 2 / 1000 by wear alone is 0", 350, 3, 0, 2, 1);
        charged("promise 6, pass: the drift 50 and the wear 100", 350 - 52, 3, 50, 100, 1);
        charged("promise 6, pass: 6 stands at 150 / 1000", 6, 3, 50, 100, 100);
        answers("promise 6, pass: the wear of the other block is not added", 350, () -> worn(1, 100), x -> {
            x.set(1, 0);
            x.write(3, ALL_OF_LEVEL[3]);
            x.pass(1);
            return x.cell(3, 0, 0);
        });
        for (int page = 0; page < 8; page++) {
            int p = page;
            answers("promise 6, pass: page " + p + " drifts in each of its cells", 16 * 349, Boundary::still, x -> {
                x.write(p, ALL_OF_LEVEL[3]);
                x.pass(1);
                return x.page(p, 6);
            });
        }
        answers("promise 6, pass: a lost page drifts", 16 * (22 - 1), Boundary::lost, x -> {
            x.write(1, 0);
            x.pass(1);
            return x.page(0, 6);
        });
        answers("promise 6, pass: an erased page stays at 0", 0, Boundary::lost, x -> {
            x.pass(100);
            return x.page(1, 6);
        });
        answers("promise 6, pass: an erased page has no hours", NONE, Boundary::lost, x -> {
            x.pass(100);
            return x.page(1, 1);
        });
        answers("promise 6, pass: the seed stays", 1, Boundary::fresh, x -> {
            x.pass(100);
            return x.count(1);
        });
    }

    /** The charge of a cell of a level behind these hours. */
    private static void charged(String name, int due, int level, int drift, int wear, int hours) {
        answers(name, due, () -> worn(0, wear), x -> {
            x.set(1, drift);
            x.set(5, 0);
            x.write(0, ALL_OF_LEVEL[level]);
            for (int left = hours; left > 0; left -= 100) {
                x.pass(Math.min(100, left));
            }
            return x.cell(0, 15, 0);
        });
    }
}
