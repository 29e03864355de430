/** The boundary cases of the promises 15 to 20: page, data, cell, match, count, setting. */
public final class BoundaryLookingTest extends Boundary {
    private BoundaryLookingTest() {
    }

    public static void main(String[] args) {
        pageArguments();
        pageProperties();
        pageCounts();
        data();
        cellArguments();
        cellWritten();
        cellRead();
        matchArguments();
        countArguments();
        countPages();
        countReads();
        countSaved();
        settingArguments();
        Check.end("BoundaryLookingTest");
    }

    // ---- promise 15

    private static void pageArguments() {
        for (int what = 0; what <= 6; what++) {
            int w = what;
            int[] first = {1, 51, 1, 1, 1, 5, 16 * 299};
            answers("promise 15, page: property " + w + " of page 0, the first", first[w], Boundary::used, x -> x.page(0, w));
            int[] last = {0, NONE, NONE, 0, 0, 0, 0};
            answers("promise 15, page: property " + w + " of page 7, the last", last[w], Boundary::used, x -> x.page(7, w));
            for (int page : beside(0, 7)) {
                refused("promise 15, page: property " + w + " of no page " + page, INDEX, Boundary::used,
                        x -> x.page(page, w));
            }
            changesNothing("promise 15, page: looking at property " + w, Boundary::used, x -> x.page(0, w));
        }
        for (int what : beside(0, 6)) {
            refused("promise 15, page: no property " + what + " of a written page", ARGUMENT, Boundary::used,
                    x -> x.page(0, what));
            refused("promise 15, page: no property " + what + " of an erased page", ARGUMENT, Boundary::used,
                    x -> x.page(7, what));
            refused("promise 15, page: no property " + what + " of a lost page", ARGUMENT, Boundary::used,
                    x -> x.page(2, what));
            for (int page : beside(0, 7)) {
                refused("promise 15, page: no property " + what + " of no page " + page, INDEX, Boundary::used,
                        x -> x.page(page, what));
            }
        }
    }

    private static void pageProperties() {
        answers("promise 15, page: erased is 0", 0, Boundary::used, x -> x.page(1, 0));
        answers("promise 15, page: written is 1", 1, Boundary::used, x -> x.page(5, 0));
        answers("promise 15, page: lost is 2", 2, Boundary::used, x -> x.page(2, 0));
        answers("promise 15, page: a page that is erased behind a loss is 0", 0, Boundary::used, x -> {
            x.erase(0);
            return x.page(2, 0);
        });
        answers("promise 15, page: no hours since it was written now", 0, Boundary::used, x -> {
            x.write(1, 0);
            return x.page(1, 1);
        });
        answers("promise 15, page: 1 hour", 1, Boundary::used, x -> {
            x.write(1, 0);
            x.pass(1);
            return x.page(1, 1);
        });
        answers("promise 15, page: hours of a lost page go on", 151, Boundary::used, x -> x.page(2, 1));
        answers("promise 15, page: hours of an erased page that had some", NONE, Boundary::used, x -> {
            x.erase(0);
            return x.page(0, 1);
        });
        answers("promise 15, page: hours anew when it is written again", 0, Boundary::used, x -> {
            x.erase(0);
            x.write(0, 0);
            return x.page(0, 1);
        });
        answers("promise 15, page: hours by 300 calls", 30000, Boundary::still, x -> {
            x.write(0, 0);
            for (int i = 0; i < 300; i++) {
                x.pass(100);
            }
            return x.page(0, 1);
        });
        answers("promise 15, page: the favorite of a page that was not read yet", 0, Boundary::used, x -> x.page(5, 2));
        answers("promise 15, page: no favorite of a lost page", NONE, Boundary::used, x -> x.page(2, 2));
        answers("promise 15, page: no favorite of a page that had one and is erased", NONE, Boundary::used, x -> {
            x.erase(0);
            return x.page(0, 2);
        });
        answers("promise 15, page: no favorite of a page that had one and is lost", NONE, Boundary::faded, x -> {
            x.read(0);
            x.set(1, 50);
            x.pass(100);
            x.read(0);
            return x.page(0, 2);
        });
        answers("promise 15, page: the sum of charges of a lost page", 16 * 19, Boundary::lost, x -> x.page(0, 6));
        answers("promise 15, page: the sum of charges of an erased page", 0, Boundary::used, x -> x.page(4, 6));
    }

    private static void pageCounts() {
        int[] ofLost = {0, 3, 10};
        int[] ofRead = {1, 1, 5};
        int[] twice = {0, 6, 20};
        for (int what = 3; what <= 5; what++) {
            int w = what;
            answers("promise 15, page: property " + w + " of a page never read", 0, Boundary::used, x -> x.page(5, w));
            answers("promise 15, page: property " + w + " behind a read", ofRead[w - 3], Boundary::used, x -> x.page(0, w));
            answers("promise 15, page: property " + w + " behind a loss", ofLost[w - 3], Boundary::used, x -> x.page(2, w));
            answers("promise 15, page: property " + w + " behind an erasing", ofLost[w - 3], Boundary::used, x -> {
                x.erase(0);
                return x.page(2, w);
            });
            answers("promise 15, page: property " + w + " behind an erasing and a writing", ofLost[w - 3], Boundary::used,
                    x -> {
                        x.erase(0);
                        x.write(2, 0);
                        return x.page(2, w);
                    });
            answers("promise 15, page: property " + w + " of two losses", twice[w - 3], Boundary::lost, x -> {
                x.erase(0);
                x.write(0, ALL_OF_LEVEL[3]);
                x.pass(100);
                x.read(0);
                return x.page(0, w);
            });
        }
    }

    // ---- promise 16

    private static void data() {
        answers("promise 16, data: page 0, the first", ALL_OF_LEVEL[3], Boundary::used, x -> x.data(0));
        answers("promise 16, data: page 7, the last", 0x0badcafe, Boundary::used, x -> {
            x.write(7, 0x0badcafe);
            return x.data(7);
        });
        for (int page : beside(0, 7)) {
            refused("promise 16, data: no page " + page, INDEX, Boundary::used, x -> x.data(page));
        }
        answers("promise 16, data: a page never written", 0, Boundary::used, x -> x.data(1));
        answers("promise 16, data: an erased page", 0, Boundary::used, x -> {
            x.erase(1);
            return x.data(5);
        });
        answers("promise 16, data: a lost page", ALL_OF_LEVEL[3], Boundary::used, x -> x.data(2));
        answers("promise 16, data: wrong bits do not show", ALL_OF_LEVEL[3], Boundary::gone, x -> x.data(0));
        answers("promise 16, data: 0 may be written too", 0, Boundary::used, x -> {
            x.write(1, 0);
            return x.data(1);
        });
        int[] farthest = {-1, Integer.MIN_VALUE, Integer.MAX_VALUE};
        for (int data : farthest) {
            answers("promise 16, data: " + data, data, Boundary::used, x -> {
                x.write(1, data);
                return x.data(1);
            });
        }
        changesNothing("promise 16, data: looking", Boundary::used, x -> x.data(0));
    }

    // ---- promise 17

    private static void cellArguments() {
        int[] properties = {0, 1, 10, 11, 12, 13, 14, 15};
        for (int what : properties) {
            for (int page : beside(0, 7)) {
                refused("promise 17, cell: property " + what + " on no page " + page, INDEX, Boundary::used,
                        x -> x.cell(page, 0, what));
            }
            for (int cell : beside(0, 15)) {
                refused("promise 17, cell: property " + what + " of no cell " + cell, INDEX, Boundary::used,
                        x -> x.cell(0, cell, what));
            }
            changesNothing("promise 17, cell: looking at property " + what, Boundary::used, x -> x.cell(0, 3, what));
        }
        int[] odd = {-1, 2, 3, 9, 16, Integer.MIN_VALUE, Integer.MAX_VALUE, Integer.MIN_VALUE + 10};
        for (int what : odd) {
            for (int page = 0; page < 3; page++) {
                int p = page;
                refused("promise 17, cell: no property " + what + " on the page " + p, ARGUMENT, Boundary::used,
                        x -> x.cell(p, 0, what));
            }
            refused("promise 17, cell: no property " + what + " with six matches", ARGUMENT, Boundary::sixMatches,
                    x -> x.cell(0, 0, what));
            refused("promise 17, cell: no property " + what + " of no cell 16", INDEX, Boundary::used,
                    x -> x.cell(0, 16, what));
            refused("promise 17, cell: no property " + what + " of no cell -1", INDEX, Boundary::used,
                    x -> x.cell(0, -1, what));
            refused("promise 17, cell: no property " + what + " on no page 8", INDEX, Boundary::used,
                    x -> x.cell(8, 0, what));
            refused("promise 17, cell: no property " + what + " on no page -1", INDEX, Boundary::used,
                    x -> x.cell(-1, 0, what));
        }
        answers("promise 17, cell: cell 0 of page 0, the first ones", 299, Boundary::used, x -> x.cell(0, 0, 0));
        answers("promise 17, cell: cell 15 of page 7, the last ones", 350, Boundary::still, x -> {
            x.write(7, 1 << 31);
            return x.cell(7, 15, 0);
        });
        answers("promise 17, cell: cell 14 of page 7 beside it", 250, Boundary::still, x -> {
            x.write(7, 1 << 31);
            return x.cell(7, 14, 0);
        });
    }

    private static void cellWritten() {
        for (int level = 0; level < 4; level++) {
            int l = level;
            for (int cell = 0; cell < 16; cell += 15) {
                int c = cell;
                answers("promise 17, cell: the level " + l + " was written to the cell " + c, l, Boundary::still, x -> {
                    x.write(0, ALL_OF_LEVEL[l]);
                    return x.cell(0, c, 1);
                });
            }
        }
        answers("promise 17, cell: each cell has the level of its own bits", 3210, Boundary::still, x -> {
            // from the lowest bits on: 11, 01, 00, 10
            x.write(0, 0b10000111);
            return x.cell(0, 0, 1) + 10 * x.cell(0, 1, 1) + 100 * x.cell(0, 2, 1) + 1000 * x.cell(0, 3, 1);
        });
        answers("promise 17, cell: no level was written if the page is erased", NONE, Boundary::used, x -> x.cell(1, 0, 1));
        answers("promise 17, cell: no level any more behind an erasing", NONE, Boundary::used, x -> {
            x.erase(0);
            return x.cell(0, 0, 1);
        });
        answers("promise 17, cell: the level of a lost page", 3, Boundary::used, x -> x.cell(2, 0, 1));
        answers("promise 17, cell: the charge of an erased page", 0, Boundary::used, x -> x.cell(1, 0, 0));
        answers("promise 17, cell: the charge of a lost page", 19, Boundary::lost, x -> x.cell(0, 0, 0));
    }

    /** The level as which a charge of 150 is read by a match with these offsets. */
    private static void levelOf150(int due, int first, int second, int third) {
        levelOf(1, due, first, second, third);
    }

    private static void levelOf(int written, int due, int first, int second, int third) {
        answers("promise 17, cell: " + (50 + 100 * written) + " by thresholds " + (100 + first) + ", " + (200 + second) + ", "
                + (300 + third), due, () -> matched(new int[] {first, second, third}), x -> {
                    x.write(0, ALL_OF_LEVEL[written]);
                    return x.cell(0, 0, 10);
                });
    }

    private static void cellRead() {
        levelOf150(1, 0, 0, 0);
        levelOf150(1, 50, 0, 0);
        levelOf150(0, 51, 0, 0);
        levelOf150(2, 0, -50, 0);
        levelOf150(1, 0, -49, 0);
        levelOf150(0, 80, 0, 0);
        // of thresholds that stand in another order all that are at most the charge count
        levelOf150(1, 80, -80, 80);
        levelOf150(1, 80, -50, 0);
        levelOf150(0, 80, -49, 0);
        levelOf(2, 3, 0, 0, -50);
        levelOf(2, 2, 0, 0, -49);
        levelOf(2, 2, 0, 50, 0);
        levelOf(2, 1, 0, 51, 0);
        levelOf(2, 3, -80, -80, -80);
        levelOf(2, 1, 0, 80, 0);
        levelOf(2, 2, 0, 80, -50);
        levelOf(3, 3, 0, 0, 50);
        levelOf(3, 2, 0, 0, 51);
        levelOf(3, 2, 80, 80, 80);
        levelOf(0, 0, -49, 0, 0);
        levelOf(0, 1, -50, 0, 0);
        levelOf(0, 1, -80, -80, -80);
        for (int what = 10; what <= 15; what++) {
            int match = what - 10;
            int w = what;
            answers("promise 17, cell: by the match " + match + " of three", match < 3 ? 0 : NONE, Boundary::used,
                    x -> x.cell(1, 0, w));
            answers("promise 17, cell: by the match " + match + " of six", 0, Boundary::sixMatches, x -> x.cell(1, 0, w));
            answers("promise 17, cell: by the match " + match + " of one", match < 1 ? 1 : NONE, Boundary::oneMatch, x -> {
                x.write(0, ALL_OF_LEVEL[1]);
                return x.cell(0, 0, w);
            });
            answers("promise 17, cell: by the match " + match + ", which alone has a threshold at the charge", 3, () -> {
                int[][] matches = new int[6][];
                for (int i = 0; i < 6; i++) {
                    matches[i] = new int[] {0, 0, i == match ? 50 : 51};
                }
                return matched(matches);
            }, x -> {
                x.write(0, ALL_OF_LEVEL[3]);
                return x.cell(0, 0, w);
            });
        }
        answers("promise 17, cell: by a match that is gone", NONE, Boundary::used, x -> {
            x.removeMatch(0);
            return x.cell(0, 0, 12);
        });
        answers("promise 17, cell: an erased page is read by the lowest thresholds", 0,
                () -> matched(new int[] {-80, -80, -80}), x -> x.cell(0, 0, 10));
        answers("promise 17, cell: a lost page is read", 0, Boundary::lost, x -> x.cell(0, 0, 10));
        answers("promise 17, cell: a lost page of 19 + 1 is read by the threshold 20", 1, Boundary::lost, x -> {
            x.addMatch(-80, 0, 0);
            x.set(3, 1);
            x.write(1, 0);
            return x.cell(0, 0, 13);
        });
        answers("promise 17, cell: a lost page of 19 is not", 0, Boundary::lost, x -> {
            x.addMatch(-80, 0, 0);
            return x.cell(0, 0, 13);
        });
    }

    // ---- promise 18

    private static void matchArguments() {
        for (int place = 0; place < 3; place++) {
            int p = place;
            answers("promise 18, match: the first one of three at the place " + p, 0, Boundary::used, x -> x.match(0, p));
            answers("promise 18, match: the last one of three at the place " + p, -20 * (p + 1), Boundary::used,
                    x -> x.match(2, p));
            answers("promise 18, match: the last one of six at the place " + p, 7 + p, Boundary::sixMatches,
                    x -> x.match(5, p));
            for (int match : beside(0, 2)) {
                refused("promise 18, match: no match " + match + " of three at the place " + p, INDEX, Boundary::used,
                        x -> x.match(match, p));
            }
            for (int match : beside(0, 5)) {
                refused("promise 18, match: no match " + match + " of six at the place " + p, INDEX, Boundary::sixMatches,
                        x -> x.match(match, p));
            }
            refused("promise 18, match: no match 1 of one at the place " + p, INDEX, Boundary::oneMatch, x -> x.match(1, p));
        }
        for (int place : beside(0, 2)) {
            refused("promise 18, match: no place " + place, ARGUMENT, Boundary::used, x -> x.match(0, place));
            refused("promise 18, match: no place " + place + " of the last one", ARGUMENT, Boundary::used,
                    x -> x.match(2, place));
            refused("promise 18, match: no place " + place + " of no match 3", INDEX, Boundary::used,
                    x -> x.match(3, place));
            refused("promise 18, match: no place " + place + " of no match -1", INDEX, Boundary::used,
                    x -> x.match(-1, place));
        }
        answers("promise 18, match: one that was added", 80, Boundary::used, x -> {
            x.addMatch(-80, 80, 0);
            return x.match(3, 1);
        });
        refused("promise 18, match: one that is gone", INDEX, () -> {
            FlashLevels x = used();
            x.removeMatch(2);
            return x;
        }, x -> x.match(2, 0));
        changesNothing("promise 18, match: looking", Boundary::used, x -> x.match(2, 2));
    }

    // ---- promise 19

    private static void countArguments() {
        int[] counts = {151, 0, 0, 1, 2, 1, 3, 1, 4, 15, 1, 6};
        for (int what = 0; what <= 11; what++) {
            int w = what;
            if (w != 1) {
                answers("promise 19, count: " + w, counts[w], Boundary::used, x -> x.count(w));
            }
            changesNothing("promise 19, count: looking at " + w, Boundary::used, x -> x.count(w));
        }
        for (int what : beside(0, 11)) {
            refused("promise 19, count: no number " + what, ARGUMENT, Boundary::used, x -> x.count(what));
        }
        answers("promise 19, count: the seed behind no draw", 1, Boundary::fresh, x -> x.count(1));
        answers("promise 19, count: the seed / 65536 behind 16 draws", 17543, Boundary::fresh, x -> {
            x.write(0, 0);
            return x.count(1) / 65536;
        });
        answers("promise 19, count: the wear 100 of the block 0", 100, () -> worn(0, 100), x -> x.count(2));
        answers("promise 19, count: the wear 100 of the block 1", 100, () -> worn(1, 100), x -> x.count(3));
        answers("promise 19, count: the wear of the block 0 beside it", 0, () -> worn(1, 100), x -> x.count(2));
        answers("promise 19, count: the wear of the block 1 beside it", 0, () -> worn(0, 100), x -> x.count(3));
        answers("promise 19, count: one match", 1, Boundary::oneMatch, x -> x.count(6));
        answers("promise 19, count: six matches", 6, Boundary::sixMatches, x -> x.count(6));
    }

    private static FlashLevels allGone() {
        FlashLevels x = still();
        x.set(1, 50);
        for (int page = 0; page < 8; page++) {
            x.write(page, ALL_OF_LEVEL[3]);
        }
        x.pass(100);
        return x;
    }

    private static FlashLevels allLost() {
        FlashLevels x = allGone();
        for (int page = 0; page < 8; page++) {
            x.read(page);
        }
        return x;
    }

    private static void countPages() {
        answers("promise 19, count: no written page", 0, Boundary::lost, x -> x.count(4));
        answers("promise 19, count: no lost page", 0, Boundary::gone, x -> x.count(5));
        answers("promise 19, count: all 8 pages are written", 8, () -> allGone(), x -> x.count(4));
        answers("promise 19, count: all 8 pages are lost", 8, () -> allLost(), x -> x.count(5));
        answers("promise 19, count: none of 8 lost pages is written", 0, () -> allLost(), x -> x.count(4));
        answers("promise 19, count: 8 pages became lost", 8, () -> allLost(), x -> x.count(10));
        answers("promise 19, count: pages that became lost outlast an erasing", 8, () -> allLost(), x -> {
            x.erase(0);
            x.erase(1);
            return x.count(10);
        });
        answers("promise 19, count: lost pages do not outlast an erasing", 4, () -> allLost(), x -> {
            x.erase(0);
            return x.count(5);
        });
        answers("promise 19, count: written pages do not outlast an erasing", 4, () -> allGone(), x -> {
            x.erase(1);
            return x.count(4);
        });
        answers("promise 19, count: a page that becomes lost twice counts twice", 2, Boundary::lost, x -> {
            x.erase(0);
            x.write(0, ALL_OF_LEVEL[3]);
            x.pass(100);
            x.read(0);
            return x.count(10);
        });
    }

    private static void countReads() {
        answers("promise 19, count: no read succeeded though there was one", 0, Boundary::lost, x -> x.count(7));
        answers("promise 19, count: no try failed though there was a read", 0, Boundary::still, x -> {
            x.write(0, 0);
            x.read(0);
            return x.count(8);
        });
        answers("promise 19, count: failed tries of 8 lost pages", 24, () -> allLost(), x -> x.count(8));
        answers("promise 19, count: fees of 8 lost pages", 80, () -> allLost(), x -> x.count(9));
        answers("promise 19, count: reads of each page", 8, Boundary::still, x -> {
            for (int page = 0; page < 8; page++) {
                x.write(page, 0);
                x.read(page);
            }
            return x.count(7);
        });
        int[] due = {1, 4, 15};
        for (int what = 7; what <= 9; what++) {
            int w = what;
            answers("promise 19, count: " + w + " outlasts an erasing", due[w - 7], Boundary::used, x -> {
                x.erase(0);
                return x.count(w);
            });
        }
        answers("promise 19, count: reads by copy", 2, Boundary::used, x -> {
            x.copy(0, 1);
            return x.count(7);
        });
        answers("promise 19, count: reads by run", 2, Boundary::used, x -> {
            x.run();
            return x.count(7);
        });
    }

    private static void countSaved() {
        answers("promise 19, count: no saved state", 0, Boundary::fresh, x -> x.count(11));
        for (int calls = 1; calls <= 8; calls++) {
            int c = calls;
            answers("promise 19, count: saved states behind " + c + " calls", Math.min(6, c), Boundary::fresh, x -> {
                for (int i = 0; i < c; i++) {
                    x.set(0, 0);
                }
                return x.count(11);
            });
        }
        answers("promise 19, count: saved states behind undo", 5, Boundary::used, x -> {
            x.undo();
            return x.count(11);
        });
    }

    // ---- promise 20

    private static void settingArguments() {
        int[] first = {10, 4, 2, 3, 5, 1};
        for (int setting = 0; setting < 6; setting++) {
            int s = setting;
            answers("promise 20, setting: " + s + " at first", first[s], Boundary::fresh, x -> x.setting(s));
            answers("promise 20, setting: " + s + " as its most", MOST_SETTINGS[s], Boundary::fresh, x -> {
                x.set(s, MOST_SETTINGS[s]);
                return x.setting(s);
            });
            answers("promise 20, setting: " + s + " as 0", 0, Boundary::fresh, x -> {
                x.set(s, 0);
                return x.setting(s);
            });
            changesNothing("promise 20, setting: looking at " + s, Boundary::used, x -> x.setting(s));
        }
        for (int setting : beside(0, 5)) {
            refused("promise 20, setting: no setting " + setting, INDEX, Boundary::used, x -> x.setting(setting));
        }
    }
}
