/** The boundary cases of the promises 21 to 28: wrong, ifRead, life, bestShift, lostIn, spare, meanFee, digest. */
public final class BoundaryAheadTest extends Boundary {
    /** Six matches; each reads only the two levels that stand beside it. */
    private static final int[][] PAIR_MATCHES = {
        {0, 80, 80}, {0, -50, 80}, {0, -50, -50}, {-50, 0, 80}, {-50, 0, -50}, {-50, -50, 0}};
    private static final int[][] PAIR_LEVELS = {{0, 1}, {0, 2}, {0, 3}, {1, 2}, {1, 3}, {2, 3}};

    private BoundaryAheadTest() {
    }

    public static void main(String[] args) {
        wrongArguments();
        wrongBits();
        ifReadArguments();
        ifReadTries();
        lifeArguments();
        lifeHours();
        bestShiftArguments();
        bestShiftEnds();
        bestShiftOfSeveral();
        lostInArguments();
        lostInPages();
        spareOfPairs();
        spareOfFew();
        meanFee();
        digest();
        Check.end("BoundaryAheadTest");
    }

    // ---- promise 21

    private static void wrongArguments() {
        answers("promise 21, wrong: page 0, the first, by the match 0, the first", 16, Boundary::used, x -> x.wrong(0, 0));
        answers("promise 21, wrong: by the match 2, the last of three", 0, Boundary::used, x -> x.wrong(0, 2));
        answers("promise 21, wrong: by the match 5, the last of six", 0, Boundary::sixMatches, x -> {
            x.write(7, 0);
            return x.wrong(7, 5);
        });
        answers("promise 21, wrong: page 7, the last", 0, Boundary::still, x -> {
            x.write(7, 0);
            return x.wrong(7, 0);
        });
        for (int page : beside(0, 7)) {
            refused("promise 21, wrong: no page " + page, INDEX, Boundary::used, x -> x.wrong(page, 0));
            refused("promise 21, wrong: no page " + page + " by no match 3", INDEX, Boundary::used, x -> x.wrong(page, 3));
        }
        for (int match : beside(0, 2)) {
            refused("promise 21, wrong: a written page by no match " + match + " of three", INDEX, Boundary::used,
                    x -> x.wrong(0, match));
            refused("promise 21, wrong: an erased page by no match " + match + " of three", INDEX, Boundary::used,
                    x -> x.wrong(1, match));
        }
        for (int match : beside(0, 5)) {
            refused("promise 21, wrong: a written page by no match " + match + " of six", INDEX, () -> {
                FlashLevels x = sixMatches();
                x.write(0, 0);
                return x;
            }, x -> x.wrong(0, match));
        }
        refused("promise 21, wrong: no match 1 beside the only one", INDEX, Boundary::oneMatch, x -> x.wrong(0, 1));
        refused("promise 21, wrong: a match that is gone", INDEX, () -> {
            FlashLevels x = used();
            x.removeMatch(0);
            return x;
        }, x -> x.wrong(0, 2));
        answers("promise 21, wrong: an erased page", NONE, Boundary::used, x -> x.wrong(1, 0));
        answers("promise 21, wrong: a page that has been erased", NONE, Boundary::used, x -> {
            x.erase(0);
            return x.wrong(0, 0);
        });
        answers("promise 21, wrong: a lost page", 16, Boundary::lost, x -> x.wrong(0, 0));
        changesNothing("promise 21, wrong: nothing is changed", Boundary::used, x -> x.wrong(0, 2));
    }

    private static void wrongBits() {
        answers("promise 21, wrong: no bit", 0, Boundary::still, x -> {
            x.write(0, 0x12345678);
            return x.wrong(0, 0);
        });
        answers("promise 21, wrong: all 32 bits", 32, Boundary::still, x -> {
            x.write(0, 0);
            x.set(1, 50);
            x.pass(100);
            return x.wrong(0, 0);
        });
        for (int cells = 1; cells <= 16; cells++) {
            int c = cells;
            answers("promise 21, wrong: one bit in each of the lowest " + c + " cells", c, Boundary::still, x -> {
                x.write(0, someOfLevel3(c));
                x.pass(51);
                return x.wrong(0, 0);
            });
        }
        answers("promise 21, wrong: a higher bit of the cell 15 alone", 1, Boundary::still, x -> {
            x.write(0, -1 ^ 1 << 30);
            x.pass(51);
            return x.wrong(0, 0);
        });
        wrongBetween(0, 0, 0, new int[] {80, 80, 80});
        wrongBetween(0, 1, 1, new int[] {-80, 80, 80});
        wrongBetween(1, 0, 1, new int[] {80, 80, 80});
        wrongBetween(1, 1, 0, new int[] {0, 0, 0});
        wrongBetween(1, 2, 1, new int[] {0, -80, 0});
        wrongBetween(2, 1, 1, new int[] {0, 80, 0});
        wrongBetween(2, 2, 0, new int[] {0, 0, 0});
        wrongBetween(2, 3, 1, new int[] {0, 0, -80});
        wrongBetween(3, 2, 1, new int[] {0, 0, 80});
        wrongBetween(3, 3, 0, new int[] {0, 0, 50});
        wrongFaded(1, 0, 1);
        wrongFaded(2, 0, 2);
        wrongFaded(3, 0, 1);
        for (int written = 0; written < 4; written++) {
            wrongByJitter(written);
        }
        answers("promise 21, wrong: the level 3 read as 1", 32, () -> matched(new int[] {0, 80, 0}), x -> {
            x.write(0, ALL_OF_LEVEL[3]);
            x.set(1, 5);
            x.pass(71);
            return x.wrong(0, 0);
        });
    }

    private static void wrongBetween(int written, int read, int bits, int[] match) {
        Check.test("promise 21, wrong: the level " + written + " read as " + read, () -> {
            FlashLevels x = matched(match);
            x.write(0, ALL_OF_LEVEL[written]);
            Check.due("level as which it is read", x.cell(0, 0, 10), read);
            Check.due("wrong bits", x.wrong(0, 0), 16 * bits);
        });
    }

    private static void wrongFaded(int written, int read, int bits) {
        Check.test("promise 21, wrong: the level " + written + " faded to " + read, () -> {
            FlashLevels x = still();
            x.write(0, ALL_OF_LEVEL[written]);
            x.set(1, 50);
            x.pass(100);
            Check.due("level as which it is read", x.cell(0, 0, 10), read);
            Check.due("wrong bits", x.wrong(0, 0), 16 * bits);
        });
    }

    /** The bits 11, 01, 00 and 10 differ from one another by so many. */
    private static void wrongByJitter(int written) {
        int[][] bits = {{0, 1, 2, 1}, {1, 0, 1, 2}, {2, 1, 0, 1}, {1, 2, 1, 0}};
        Check.test("promise 21, wrong: the level " + written + " read as any level, by the jitter 1000", () -> {
            FlashLevels x = worn(0, 100);
            x.set(5, 10);
            x.write(0, ALL_OF_LEVEL[written]);
            int due = 0;
            int levels = 0;
            for (int cell = 0; cell < 16; cell++) {
                int read = x.cell(0, cell, 10);
                due += bits[written][read];
                levels |= 1 << read;
            }
            Check.due("the levels 0 and 3 are among them", (levels & 9) == 9);
            Check.due("wrong bits", x.wrong(0, 0), due);
        });
    }

    // ---- promise 22

    private static void ifReadArguments() {
        int[] first = {0, 1, 0};
        for (int what = 0; what <= 2; what++) {
            int w = what;
            answers("promise 22, ifRead: number " + w + " of page 0, the first", first[w], Boundary::used, x -> x.ifRead(0, w));
            answers("promise 22, ifRead: number " + w + " of page 7, the last", 0, Boundary::still, x -> {
                x.write(7, 0);
                return x.ifRead(7, w);
            });
            answers("promise 22, ifRead: number " + w + " of an erased page", NONE, Boundary::used, x -> x.ifRead(1, w));
            answers("promise 22, ifRead: number " + w + " of a lost page", NONE, Boundary::used, x -> x.ifRead(2, w));
            for (int page : beside(0, 7)) {
                refused("promise 22, ifRead: number " + w + " of no page " + page, INDEX, Boundary::used,
                        x -> x.ifRead(page, w));
            }
            changesNothing("promise 22, ifRead: number " + w + " of a page that would be read", Boundary::faded,
                    x -> x.ifRead(0, w));
            changesNothing("promise 22, ifRead: number " + w + " of a page that would be lost", Boundary::gone,
                    x -> x.ifRead(0, w));
        }
        for (int what : beside(0, 2)) {
            for (int page = 0; page < 3; page++) {
                int p = page;
                refused("promise 22, ifRead: no number " + what + " of the page " + p, ARGUMENT, Boundary::used,
                        x -> x.ifRead(p, what));
            }
            for (int page : beside(0, 7)) {
                refused("promise 22, ifRead: no number " + what + " of no page " + page, INDEX, Boundary::used,
                        x -> x.ifRead(page, what));
            }
        }
    }

    private static void ifRead(String name, int failed, int match, int fees, Scene scene) {
        answers("promise 22, ifRead: tries that would fail: " + name, failed, scene, x -> x.ifRead(0, 0));
        answers("promise 22, ifRead: the match: " + name, match, scene, x -> x.ifRead(0, 1));
        answers("promise 22, ifRead: the fees: " + name, fees, scene, x -> x.ifRead(0, 2));
    }

    private static void ifReadTries() {
        ifRead("the first try", 0, 0, 0, () -> {
            FlashLevels x = still();
            x.write(0, 0);
            return x;
        });
        ifRead("the second try", 1, 1, 5, Boundary::faded);
        ifRead("the favorite", 0, 1, 0, () -> {
            FlashLevels x = faded();
            x.read(0);
            return x;
        });
        ifRead("a favorite that fails is not tried again", 2, 2, 10, () -> {
            FlashLevels x = faded();
            x.read(0);
            x.pass(30);
            return x;
        });
        ifRead("all of three", 3, NONE, 10, Boundary::gone);
        ifRead("one match alone fails", 1, NONE, 0, () -> {
            FlashLevels x = oneMatch();
            x.write(0, ALL_OF_LEVEL[3]);
            x.pass(51);
            return x;
        });
        ifRead("the last one of six", 5, 5, 25, () -> pairPages(5));
        ifRead("all of six", 6, NONE, 25, () -> {
            FlashLevels x = pairPages();
            x.write(0, 0b10000111);
            x.set(2, 0);
            return x;
        });
        ifRead("the fee 0", 3, NONE, 0, () -> {
            FlashLevels x = gone();
            x.set(4, 0);
            return x;
        });
        ifRead("the fee 100", 3, NONE, 200, () -> {
            FlashLevels x = gone();
            x.set(4, 100);
            return x;
        });
        for (int favorite = 0; favorite < 6; favorite++) {
            for (int other = 0; other < 6; other++) {
                int f = favorite;
                int o = other;
                if (f != o) {
                    int failed = o < f ? o + 1 : o;
                    ifRead("the favorite " + f + " fails, and all others but " + o, failed, o, 5 * failed,
                            () -> favoriteFails(f, o));
                }
            }
        }
        int[] correctable = {0, 2, 8};
        for (int bits : correctable) {
            ifRead(bits + " wrong bits of " + bits, 0, 0, 0, () -> partlyFaded(bits, bits));
            ifRead((bits + 1) + " wrong bits of " + bits, 1, 1, 5, () -> partlyFaded(bits + 1, bits));
        }
    }

    /** So many cells have faded below the threshold of the match 0. */
    private static FlashLevels partlyFaded(int cells, int correctable) {
        FlashLevels x = still();
        x.write(0, someOfLevel3(cells));
        x.pass(51);
        x.set(2, correctable);
        return x;
    }

    // ---- promise 23

    private static void lifeArguments() {
        for (int page : beside(0, 7)) {
            refused("promise 23, life: no page " + page, INDEX, Boundary::used, x -> x.life(page));
        }
        answers("promise 23, life: an erased page", NONE, Boundary::gone, x -> x.life(1));
        answers("promise 23, life: a lost page", NONE, Boundary::lost, x -> x.life(0));
        answers("promise 23, life: a page that has been erased", NONE, Boundary::gone, x -> {
            x.erase(0);
            return x.life(0);
        });
        changesNothing("promise 23, life: nothing is changed", Boundary::used, x -> x.life(0));
        changesNothing("promise 23, life: nothing is changed though it would be lost", Boundary::gone, x -> x.life(0));
        for (int page = 0; page < 8; page++) {
            int p = page;
            answers("promise 23, life: page " + p, 51, Boundary::oneMatch, x -> {
                x.write(p, ALL_OF_LEVEL[3]);
                return x.life(p);
            });
        }
    }

    /** The life of a page of charges of 350 by a match with this threshold for the level 3. */
    private static void lives(String name, int due, int drift, int threshold) {
        answers("promise 23, life: " + name, due, () -> matched(new int[] {0, 0, threshold - 300}), x -> {
            x.set(1, drift);
            x.write(0, ALL_OF_LEVEL[3]);
            return x.life(0);
        });
    }

    private static void lifeHours() {
        lives("lost now", 0, 4, 351);
        lives("lost in an hour", 1, 4, 350);
        lives("lost in two hours", 2, 4, 349);
        lives("lost as the charge comes to stand at 249", 101, 4, 250);
        lives("not lost by 249, where the charge stands", NONE, 4, 249);
        lives("behind the 100 hours of a call", 131, 5, 220);
        lives("without drift", NONE, 0, 350);
        lives("lost now without drift", 0, 0, 351);
        lives("the drift 50", 1, 50, 334);
        lives("the drift 50, an hour more", 2, 50, 333);
        // no charge drifts for more than 225 hours: those that are not lost by then are not by 300
        answers("promise 23, life: the charges of 410 that are lost in 185 hours", 185,
                () -> matched(new int[] {0, 0, -80}), x -> disturbedLife(x, 30));
        answers("promise 23, life: the charges of 408 that are lost in 184 hours", 184,
                () -> matched(new int[] {0, 0, -80}), x -> disturbedLife(x, 28));
        answers("promise 23, life: as many wrong bits as can be corrected", NONE, Boundary::oneMatch, x -> {
            x.write(0, someOfLevel3(2));
            return x.life(0);
        });
        answers("promise 23, life: one more than can be corrected", 51, Boundary::oneMatch, x -> {
            x.write(0, someOfLevel3(3));
            return x.life(0);
        });
        for (int match = 0; match < 6; match++) {
            int m = match;
            answers("promise 23, life: of six matches " + m + " alone reads it", NONE, () -> pairPages(m), x -> {
                x.set(1, 0);
                return x.life(0);
            });
        }
        answers("promise 23, life: the last match counts too", 101, Boundary::still, x -> {
            x.write(0, ALL_OF_LEVEL[3]);
            x.removeMatch(2);
            x.addMatch(0, 0, -50);
            return x.life(0);
        });
        answers("promise 23, life: the wear of its block", 17, () -> worn(0, 3), x -> {
            x.set(1, 0);
            x.set(5, 0);
            x.write(0, ALL_OF_LEVEL[3]);
            x.addMatch(0, 0, 34);
            for (int i = 0; i < 3; i++) {
                x.removeMatch(0);
            }
            return x.life(0);
        });
        answers("promise 23, life: the hours so far do not count", 1, Boundary::oneMatch, x -> {
            x.write(0, ALL_OF_LEVEL[3]);
            x.pass(50);
            return x.life(0);
        });
        answers("promise 23, life: lost now, though it would be read later", 0, () -> matched(new int[] {0, -50, 0}), x -> {
            x.set(1, 20);
            x.write(0, ALL_OF_LEVEL[1]);
            return x.life(0);
        });
        answers("promise 23, life: the first hour, though it would be read again behind it", 6,
                BoundaryAheadTest::lostInBetween, x -> x.life(0));
    }

    /** 250 loses 1 an hour: it is read from 250 down to 245, and again from 239 on. */
    private static FlashLevels lostInBetween() {
        FlashLevels x = matched(new int[] {0, 45, 0}, new int[] {0, 0, -60});
        x.set(1, 5);
        x.write(0, ALL_OF_LEVEL[2]);
        return x;
    }

    /** The page 1 gets 30 and this more by its neighbors; by the drift 5 it is lost below 220. */
    private static long disturbedLife(FlashLevels x, int disturbing) {
        x.set(1, 5);
        x.write(1, ALL_OF_LEVEL[3]);
        x.set(3, 30);
        x.write(0, 0);
        x.set(3, disturbing);
        x.write(2, 0);
        return x.life(1);
    }

    // ---- promise 24

    private static void bestShiftArguments() {
        int[] wrongByShiftOfLost = {0, 16};
        for (int what = 0; what <= 1; what++) {
            int w = what;
            answers("promise 24, bestShift: number " + w + " of page 0, the first", 0, BoundaryAheadTest::freshPages,
                    x -> x.bestShift(0, w));
            answers("promise 24, bestShift: number " + w + " of page 7, the last", 0, BoundaryAheadTest::freshPages,
                    x -> x.bestShift(7, w));
            answers("promise 24, bestShift: number " + w + " of an erased page", NONE, Boundary::used,
                    x -> x.bestShift(1, w));
            answers("promise 24, bestShift: number " + w + " of a page that has been erased", NONE, Boundary::used, x -> {
                x.erase(0);
                return x.bestShift(0, w);
            });
            answers("promise 24, bestShift: number " + w + " of a lost page", wrongByShiftOfLost[w], Boundary::lost,
                    x -> x.bestShift(0, w));
            for (int page : beside(0, 7)) {
                refused("promise 24, bestShift: number " + w + " of no page " + page, INDEX, Boundary::used,
                        x -> x.bestShift(page, w));
            }
            changesNothing("promise 24, bestShift: nothing is changed by number " + w, Boundary::used,
                    x -> x.bestShift(0, w));
        }
        for (int what : beside(0, 1)) {
            for (int page = 0; page < 3; page++) {
                int p = page;
                refused("promise 24, bestShift: no number " + what + " of the page " + p, ARGUMENT, Boundary::used,
                        x -> x.bestShift(p, what));
            }
            for (int page : beside(0, 7)) {
                refused("promise 24, bestShift: no number " + what + " of no page " + page, INDEX, Boundary::used,
                        x -> x.bestShift(page, what));
            }
        }
    }

    private static FlashLevels freshPages() {
        FlashLevels x = still();
        x.write(0, 0x12345678);
        x.write(7, 0x87654321);
        return x;
    }

    private static void bestShift(String name, int shift, int wrong, Scene scene) {
        answers("promise 24, bestShift: the shift, " + name, shift, scene, x -> x.bestShift(1, 0));
        answers("promise 24, bestShift: the wrong bits, " + name, wrong, scene, x -> x.bestShift(1, 1));
    }

    /** The page 1 of the level 3 has drifted from 350 down to this. */
    private static FlashLevels driftedTo(int charge) {
        FlashLevels x = still();
        x.set(1, 5);
        x.write(1, ALL_OF_LEVEL[3]);
        for (int left = 350 - charge; left > 0; left -= 100) {
            x.pass(Math.min(100, left));
        }
        return x;
    }

    /**
     * The page 1 of the level 0, with the jitter 60, disturbed by 60: the charges are those of the first row of 16
     * draws, of those behind one another, whose greatest one brings this charge.
     */
    private static FlashLevels jitteredTo(int greatest) {
        for (int writes = 0; writes < 300; writes++) {
            if (greatestBehind(writes) == greatest) {
                FlashLevels x = fresh();
                x.set(0, 60);
                x.set(3, 30);
                writeFarAway(x, writes);
                x.write(1, ALL_OF_LEVEL[0]);
                x.write(0, 0);
                x.write(2, 0);
                return x;
            }
        }
        throw new IllegalArgumentException("no row comes to " + greatest);
    }

    private static int greatestBehind(int writes) {
        int greatest = 0;
        for (int cell = 0; cell < 16; cell++) {
            greatest = Math.max(greatest, 50 + DRAWS[16 * writes + cell] % 121 - 60);
        }
        return greatest + 60;
    }

    /** The page 1 without jitter, disturbed by 30 and by this. */
    private static FlashLevels disturbedTwice(int data, int disturbing) {
        FlashLevels x = still();
        x.write(1, data);
        x.set(3, 30);
        x.write(0, 0);
        x.set(3, disturbing);
        x.write(2, 0);
        return x;
    }

    /**
     * Behind these hours the cells of the level 1 are at 180 and the disturbing, those of the level 3 at
     * 380 and the disturbing, less the hours.
     */
    private static FlashLevels ofTwoLevels(int data, int disturbing, int hours) {
        FlashLevels x = disturbedTwice(data, disturbing);
        x.pass(100);
        x.pass(hours - 100);
        Check.due("charge of the level 1", x.cell(1, 15, 0), 180 + disturbing);
        Check.due("charge of the level 3", x.cell(1, 0, 0), 380 + disturbing - hours);
        return x;
    }

    private static void bestShiftEnds() {
        bestShift("no shift is needed", 0, 0, () -> driftedTo(300));
        bestShift("1 below 300 needs -1", -1, 0, () -> driftedTo(299));
        bestShift("-59", -59, 0, () -> driftedTo(241));
        bestShift("-60, the least", -60, 0, () -> driftedTo(240));
        bestShift("-61 is none", 0, 16, () -> driftedTo(239));
        bestShift("99 of the level 0 needs none", 0, 0, () -> disturbedTwice(ALL_OF_LEVEL[0], 19));
        bestShift("100 of the level 0 needs 1", 1, 0, () -> disturbedTwice(ALL_OF_LEVEL[0], 20));
        bestShift("59", 59, 0, () -> jitteredTo(158));
        bestShift("60, the most", 60, 0, () -> jitteredTo(159));
        Check.test("promise 24, bestShift: 61 is none, the best one leaves 160 wrong", () -> {
            FlashLevels x = jitteredTo(160);
            int above = 0;
            int second = 0;
            for (int cell = 0; cell < 16; cell++) {
                int charge = x.cell(1, cell, 0);
                above += charge >= 160 ? 1 : 0;
                second = Math.max(second, charge >= 160 ? 0 : charge);
            }
            Check.due("some need 61", above > 0);
            Check.due("the wrong bits", x.bestShift(1, 1), above);
            Check.due("the shift", x.bestShift(1, 0), second - 99);
        });
    }

    private static void bestShiftOfSeveral() {
        bestShift("10 and -10 fit as well: the one above 0", 10, 8, () -> ofTwoLevels(0x5555aaaa, 29, 119));
        bestShift("10 and -9 fit as well: the lesser size", -9, 8, () -> ofTwoLevels(0x5555aaaa, 29, 118));
        bestShift("10 and -11 fit as well: the lesser size", 10, 8, () -> ofTwoLevels(0x5555aaaa, 29, 120));
        bestShift("11 and -10 fit as well: the lesser size", -10, 8, () -> ofTwoLevels(0x5555aaaa, 30, 120));
        bestShift("10 is better than -9 for nine cells of 16", 10, 7, () -> ofTwoLevels(0x55556aaa, 29, 118));
        bestShift("-11 is better than 10 for nine cells of 16", -11, 7, () -> ofTwoLevels(0x5556aaaa, 29, 120));
        answers("promise 24, bestShift: the matches do not count", -60, () -> driftedTo(240), x -> {
            x.addMatch(0, 0, -60);
            x.removeMatch(0);
            return x.bestShift(1, 0);
        });
        answers("promise 24, bestShift: the correctable bits do not count", -1, () -> partlyFaded(1, 8),
                x -> x.bestShift(0, 0));
    }

    // ---- promise 25

    private static void lostInArguments() {
        answers("promise 25, lostIn: 0 hours, the least", 1, Boundary::gone, x -> x.lostIn(0));
        answers("promise 25, lostIn: 300 hours, the most", 1, Boundary::gone, x -> x.lostIn(300));
        for (int hours : beside(0, 300)) {
            refused("promise 25, lostIn: " + hours + " is out of range", ARGUMENT, Boundary::used, x -> x.lostIn(hours));
            refused("promise 25, lostIn: " + hours + " is out of range of an empty memory", ARGUMENT, Boundary::fresh,
                    x -> x.lostIn(hours));
        }
        changesNothing("promise 25, lostIn: nothing is changed in 0 hours", Boundary::used, x -> x.lostIn(0));
        changesNothing("promise 25, lostIn: nothing is changed in 300 hours", Boundary::used, x -> x.lostIn(300));
    }

    private static void lostAt(String name, int due, int hours, Scene scene) {
        answers("promise 25, lostIn: " + name, due, scene, x -> x.lostIn(hours));
    }

    private static void lostInPages() {
        lostAt("no page is written", 0, 300, Boundary::fresh);
        lostAt("a lost page is not in it", 0, 300, Boundary::lost);
        lostAt("an erased page is not in it", 0, 0, () -> {
            FlashLevels x = gone();
            x.erase(0);
            return x;
        });
        for (int page = 0; page < 8; page++) {
            int p = page;
            Scene written = () -> {
                FlashLevels x = oneMatch();
                x.write(p, ALL_OF_LEVEL[3]);
                return x;
            };
            lostAt("page " + p + " in 51 hours", 1 << p, 51, written);
            lostAt("page " + p + " not in 50 hours", 0, 50, written);
        }
        Scene all = () -> {
            FlashLevels x = oneMatch();
            x.set(3, 0);
            for (int page = 0; page < 8; page++) {
                x.write(page, ALL_OF_LEVEL[3]);
            }
            return x;
        };
        lostAt("all 8 pages", 255, 51, all);
        lostAt("all 8 pages in 300 hours", 255, 300, all);
        lostAt("none of 8 pages", 0, 50, all);
        for (int match = 0; match < 6; match++) {
            int m = match;
            lostAt("of six matches " + m + " alone reads it", 0, 300, () -> {
                FlashLevels x = pairPages(m);
                x.set(1, 0);
                return x;
            });
        }
        lostAt("ahead of the gap", 0, 5, BoundaryAheadTest::lostInBetween);
        lostAt("the first hour of the gap", 1, 6, BoundaryAheadTest::lostInBetween);
        lostAt("the last hour of the gap", 1, 10, BoundaryAheadTest::lostInBetween);
        lostAt("behind the gap", 0, 11, BoundaryAheadTest::lostInBetween);
        lostAt("as many wrong bits as can be corrected", 0, 0, () -> partlyFaded(2, 2));
        Scene alone = () -> {
            FlashLevels x = partlyFaded(3, 2);
            x.removeMatch(1);
            x.removeMatch(1);
            return x;
        };
        lostAt("one more than can be corrected", 1, 0, alone);
        lostAt("the wear of each block for its own pages", 0x10, 1, () -> {
            FlashLevels x = matched(new int[] {0, 0, 50});
            eraseOften(x, 1, 3);
            x.set(1, 0);
            x.set(5, 0);
            x.write(0, ALL_OF_LEVEL[3]);
            x.write(4, ALL_OF_LEVEL[3]);
            return x;
        });
        lostAt("in the hour at which the charge comes to stand", 1, 101, () -> standing(250));
        lostAt("an hour ahead of it", 0, 100, () -> standing(250));
        lostAt("not by the charge that stands", 0, 300, () -> standing(249));
    }

    /** 350 that comes to stand at 249, with this threshold for the level 3. */
    private static FlashLevels standing(int threshold) {
        FlashLevels x = matched(new int[] {0, 0, threshold - 300});
        x.write(0, ALL_OF_LEVEL[3]);
        return x;
    }

    // ---- promise 26

    /** The pages, from 0 on, are written so that of the six matches only the one that is told can read them. */
    private static FlashLevels pairPages(int... matches) {
        FlashLevels x = matched(PAIR_MATCHES);
        x.set(3, 0);
        for (int page = 0; page < matches.length; page++) {
            x.write(page, pairData(matches[page]));
        }
        return x;
    }

    private static int pairData(int match) {
        int[] levels = PAIR_LEVELS[match];
        return ALL_OF_LEVEL[levels[0]] & 0xffff | ALL_OF_LEVEL[levels[1]] & 0xffff0000;
    }

    private static void spare(String name, int due, int... matches) {
        answers("promise 26, spare: " + name, due, () -> pairPages(matches), FlashLevels::spare);
    }

    private static void spareOfPairs() {
        Check.test("promise 26, spare: the pages of these tests are read by one match alone", () -> {
            FlashLevels x = pairPages(0, 1, 2, 3, 4, 5);
            for (int page = 0; page < 6; page++) {
                for (int match = 0; match < 6; match++) {
                    Check.due(page + " by " + match, x.wrong(page, match) <= 2, page == match);
                }
            }
        });
        spare("of six, no written page: the lowest number", 0);
        spare("of six, each is missed once: the lowest number", 0, 0, 1, 2, 3, 4, 5);
        spare("of six, all but 0 are missed", 0, 1, 2, 3, 4, 5);
        spare("of six, all but 1 are missed", 1, 0, 2, 3, 4, 5);
        spare("of six, all but 2 are missed", 2, 0, 1, 3, 4, 5);
        spare("of six, all but 3 are missed", 3, 0, 1, 2, 4, 5);
        spare("of six, all but 4 are missed", 4, 0, 1, 2, 3, 5);
        spare("of six, all but 5, the last, are missed", 5, 0, 1, 2, 3, 4);
        spare("of six, 0 is missed twice: the lowest of the others", 1, 0, 0, 1, 2, 3, 4, 5);
        spare("of six, 0 and 1 are missed twice: the lowest of the others", 2, 0, 0, 1, 1, 2, 3, 4, 5);
        spare("of six, 5 and 4 are missed not at all: the lowest of both", 4, 0, 1, 2, 3);
        changesNothing("promise 26, spare: nothing is changed", () -> pairPages(0, 1, 2), FlashLevels::spare);
        changesNothing("promise 26, spare: nothing is changed though pages would be lost", Boundary::gone, FlashLevels::spare);
    }

    private static void spareOfFew() {
        answers("promise 26, spare: one match alone", NONE, Boundary::oneMatch, FlashLevels::spare);
        answers("promise 26, spare: one match alone, by which a page is read", NONE, Boundary::oneMatch, x -> {
            x.write(0, 0);
            return x.spare();
        });
        answers("promise 26, spare: two matches, no written page", 0, () -> matched(PAIR_MATCHES[0], PAIR_MATCHES[1]),
                FlashLevels::spare);
        answers("promise 26, spare: two matches, the first is missed", 1, () -> matched(PAIR_MATCHES[0], PAIR_MATCHES[1]),
                x -> {
                    x.write(0, pairData(0));
                    return x.spare();
                });
        answers("promise 26, spare: two matches, the last is missed", 0, () -> matched(PAIR_MATCHES[0], PAIR_MATCHES[1]),
                x -> {
                    x.write(0, pairData(1));
                    return x.spare();
                });
        answers("promise 26, spare: all matches of three fail: the lowest number", 0, Boundary::gone, FlashLevels::spare);
        answers("promise 26, spare: a lost page does not count", 2, () -> matched(PAIR_MATCHES[0], PAIR_MATCHES[1]), x -> {
            x.set(3, 0);
            x.write(0, pairData(0));
            x.write(1, pairData(1));
            x.write(2, pairData(3));
            x.read(2);
            x.addMatch(PAIR_MATCHES[3][0], PAIR_MATCHES[3][1], PAIR_MATCHES[3][2]);
            return x.spare();
        });
        answers("promise 26, spare: the same page, written anew, counts", 0, () -> matched(PAIR_MATCHES[0], PAIR_MATCHES[1]),
                x -> {
                    x.set(3, 0);
                    x.write(0, pairData(0));
                    x.write(1, pairData(1));
                    x.write(2, pairData(3));
                    x.addMatch(PAIR_MATCHES[3][0], PAIR_MATCHES[3][1], PAIR_MATCHES[3][2]);
                    return x.spare();
                });
        answers("promise 26, spare: as many wrong bits as can be corrected are not missed", 0, () -> partlyFaded(2, 2),
                FlashLevels::spare);
        answers("promise 26, spare: the match that reads one more than can be corrected", 0, () -> {
            FlashLevels x = partlyFaded(3, 2);
            x.removeMatch(2);
            return x;
        }, FlashLevels::spare);
        answers("promise 26, spare: the match by which as many are wrong as can be corrected", 1, () -> {
            // by the match 1 three cells are wrong, by 0 two of them
            FlashLevels x = matched(new int[] {0, 0, 0}, new int[] {0, 0, 51});
            x.write(0, someOfLevel3(3));
            return x;
        }, FlashLevels::spare);
    }

    // ---- promise 27

    private static void mean(String name, double due, Scene scene) {
        Check.test("promise 27, meanFee: " + name, () -> {
            double got = scene.make().meanFee();
            Check.due("bits of the answer " + got, Double.doubleToRawLongBits(got), Double.doubleToRawLongBits(due));
        });
    }

    private static FlashLevels fadedRead(int reads, int fee) {
        FlashLevels x = faded();
        x.set(4, fee);
        for (int i = 0; i < reads; i++) {
            x.read(0);
        }
        return x;
    }

    private static void meanFee() {
        mean("no read", 0.0, Boundary::fresh);
        mean("fees, but no read that succeeded", 0.0, Boundary::lost);
        mean("reads, but no fee", 0.0, () -> fadedRead(3, 0));
        mean("one read", 5.0, () -> fadedRead(1, 5));
        mean("two reads, a half is not cut", 2.5, () -> fadedRead(2, 5));
        mean("three reads", 5.0 / 3.0, () -> fadedRead(3, 5));
        mean("below 1", 1.0 / 7.0, () -> fadedRead(7, 1));
        mean("the greatest fee", 100.0, () -> fadedRead(1, 100));
        mean("five greatest fees for one read", 500.0, () -> {
            FlashLevels x = pairPages(5);
            x.set(4, 100);
            x.read(0);
            return x;
        });
        mean("fees of losses count, the losses do not", 15.0, Boundary::used);
        mean("all from ahead of an erasing", 15.0, () -> {
            FlashLevels x = used();
            x.erase(0);
            return x;
        });
        mean("as before, behind undo", 0.0, () -> {
            FlashLevels x = fadedRead(1, 5);
            x.undo();
            return x;
        });
        mean("the fee of many reads", 1.0 / 450.0, () -> fadedRead(450, 1));
        changesNothing("promise 27, meanFee: nothing is changed", Boundary::used, x -> (long) x.meanFee());
        changesNothing("promise 27, meanFee: nothing is changed without a read", Boundary::fresh, x -> (long) x.meanFee());
    }

    // ---- promise 28

    /** The hash of the answers that the document lists, those of each page by a twin of its own. */
    private static void digest(String name, String buffer, Scene scene) {
        Check.test("promise 28, digest: " + name, () -> {
            FlashLevels x = scene.make();
            long hash = 2437;
            for (int what = 0; what <= 11; what++) {
                hash = 31 * hash + x.count(what);
            }
            for (int setting = 0; setting <= 5; setting++) {
                hash = 31 * hash + x.setting(setting);
            }
            for (int i = 0; i < 3 * x.count(6); i++) {
                hash = 31 * hash + x.match(i / 3, i % 3);
            }
            for (int page = 0; page <= 7; page++) {
                hash = withPage(hash, scene.make(), page);
            }
            hash = 31 * hash + x.lostIn(24);
            hash = 31 * hash + x.spare();
            hash = 31 * hash + Double.doubleToLongBits(x.meanFee());
            hash = 31 * hash + buffer.length();
            for (int i = 0; i < buffer.length(); i++) {
                hash = 31 * hash + buffer.charAt(i);
            }
            Check.due("the hash", scene.make().digest(), hash);
        });
    }

    private static long withPage(long before, FlashLevels x, int page) {
        long hash = before;
        for (int what = 0; what <= 6; what++) {
            hash = 31 * hash + x.page(page, what);
        }
        hash = 31 * hash + x.data(page);
        for (int cell = 0; cell <= 15; cell++) {
            hash = 31 * hash + x.cell(page, cell, 0);
            hash = 31 * hash + x.cell(page, cell, 1);
            hash = 31 * hash + x.cell(page, cell, 10);
        }
        int matches = x.count(6);
        for (int match = 0; match < matches; match++) {
            hash = 31 * hash + x.wrong(page, match);
        }
        for (int what = 0; what <= 2; what++) {
            hash = 31 * hash + x.ifRead(page, what);
        }
        hash = 31 * hash + x.life(page);
        hash = 31 * hash + x.bestShift(page, 0);
        return 31 * hash + x.bestShift(page, 1);
    }

    private static void digest() {
        digest("a new object", "", Boundary::fresh);
        digest("written, erased and lost pages", "r0;h1", Boundary::used);
        digest("few saved states", "r0;h1", Boundary::usedWithRoom);
        digest("one match", "", Boundary::oneMatch);
        digest("six matches", "", () -> pairPages(0, 1, 2, 3, 4, 5, 0, 1));
        digest("a worn block", "", () -> worn(1, 100));
        digest("one character", "~", () -> typed("~"));
        digest("a full buffer of greatest codes", "~".repeat(60), () -> typed("~".repeat(60)));
        digest("a full buffer of least codes", "!".repeat(60), () -> typed("!".repeat(60)));
        digest("an empty buffer", "", () -> typed(""));
        digest("pages that would be lost", "", Boundary::gone);
        digest("a page that would be lost in 24 hours", "", () -> {
            FlashLevels x = oneMatch();
            x.write(7, ALL_OF_LEVEL[3]);
            x.pass(27);
            return x;
        });
        digest("a page that would be lost in 25 hours", "", () -> {
            FlashLevels x = oneMatch();
            x.write(7, ALL_OF_LEVEL[3]);
            x.pass(26);
            return x;
        });
        for (int fee = 0; fee <= 5; fee++) {
            int f = fee;
            digest("the mean fee " + f + " / 3", "", () -> fadedRead(3, f));
        }
        digest("the mean fee 1", "", () -> fadedRead(1, 1));
        digest("the mean fee 1 / 300", "", () -> fadedRead(300, 1));
        digest("the mean fee 500", "", () -> {
            FlashLevels x = pairPages(5);
            x.set(4, 100);
            x.read(0);
            return x;
        });
        Check.test("promise 28, digest: the order of the characters counts", () ->
                Check.due("hashes differ", typed("ab").digest() != typed("ba").digest()));
        changesNothing("promise 28, digest: nothing is changed", Boundary::used, FlashLevels::digest);
        changesNothing("promise 28, digest: nothing is changed though pages would be lost", Boundary::gone,
                FlashLevels::digest);
    }
}
