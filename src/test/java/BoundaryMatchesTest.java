/** The boundary cases of the promises 7 to 9: addMatch, removeMatch, set. */
public final class BoundaryMatchesTest extends Boundary {
    private static final String[] PLACES = {"first", "second", "third"};
    private static final String[] SETTINGS = {"jitter", "drift", "correctable bits", "disturbing", "fee", "jitter by wear"};
    private static final int[] FIRST_SETTINGS = {10, 4, 2, 3, 5, 1};

    private BoundaryMatchesTest() {
    }

    public static void main(String[] args) {
        addMatchArguments();
        addMatchRoom();
        removeMatchArguments();
        removeMatchMoves();
        removeMatchFavorites();
        setArguments();
        setEffects();
        Check.end("BoundaryMatchesTest");
    }

    // ---- promise 7

    private static int addAt(FlashLevels x, int place, int offset) {
        return x.addMatch(place == 0 ? offset : 0, place == 1 ? offset : 0, place == 2 ? offset : 0);
    }

    private static void addMatchArguments() {
        int[] farthest = {-80, 80};
        for (int place = 0; place < 3; place++) {
            int p = place;
            for (int offset : farthest) {
                answers("promise 7, addMatch: the " + PLACES[p] + " offset " + offset, offset, Boundary::used, x -> {
                    addAt(x, p, offset);
                    return x.match(3, p);
                });
                answers("promise 7, addMatch: the other offsets beside the " + PLACES[p] + " one " + offset, 0,
                        Boundary::used, x -> {
                            addAt(x, p, offset);
                            return x.match(3, (p + 1) % 3) + x.match(3, (p + 2) % 3);
                        });
            }
            for (int offset : beside(-80, 80)) {
                refused("promise 7, addMatch: the " + PLACES[p] + " offset " + offset + " is out of range", ARGUMENT,
                        Boundary::used, x -> addAt(x, p, offset));
                refused("promise 7, addMatch: a seventh match with the " + PLACES[p] + " offset " + offset, ARGUMENT,
                        Boundary::sixMatches, x -> addAt(x, p, offset));
            }
        }
        answers("promise 7, addMatch: all offsets -80", -240, Boundary::fresh, x -> {
            x.addMatch(-80, -80, -80);
            return x.match(3, 0) + x.match(3, 1) + x.match(3, 2);
        });
        answers("promise 7, addMatch: all offsets 80", 240, Boundary::fresh, x -> {
            x.addMatch(80, 80, 80);
            return x.match(3, 0) + x.match(3, 1) + x.match(3, 2);
        });
    }

    private static void addMatchRoom() {
        answers("promise 7, addMatch: the number of the fourth one", 3, Boundary::used, x -> x.addMatch(1, 2, 3));
        answers("promise 7, addMatch: the sixth one, the last", 5, Boundary::fresh, x -> {
            x.addMatch(1, 2, 3);
            x.addMatch(1, 2, 3);
            return x.addMatch(1, 2, 3);
        });
        answers("promise 7, addMatch: the sixth one has its offsets", 789, Boundary::sixMatches,
                x -> 100 * x.match(5, 0) + 10 * x.match(5, 1) + x.match(5, 2));
        refused("promise 7, addMatch: a seventh one", STATE, Boundary::sixMatches, x -> x.addMatch(0, 0, 0));
        answers("promise 7, addMatch: behind one alone", 1, Boundary::oneMatch, x -> x.addMatch(0, 0, 0));
        answers("promise 7, addMatch: again when one of six is gone", 5, Boundary::sixMatches, x -> {
            x.removeMatch(0);
            return x.addMatch(0, 0, 0);
        });
        answers("promise 7, addMatch: the same offsets once more", 3, Boundary::fresh, x -> x.addMatch(0, 0, 0));
        answers("promise 7, addMatch: the offsets of one that is gone do not come back", 0, Boundary::sixMatches, x -> {
            x.removeMatch(5);
            x.addMatch(0, 0, 0);
            return 100 * x.match(5, 0) + 10 * x.match(5, 1) + x.match(5, 2);
        });
        answers("promise 7, addMatch: the favorites stay", 1, Boundary::used, x -> {
            x.addMatch(0, 0, 0);
            return x.page(0, 2);
        });
        answers("promise 7, addMatch: a page is read by it when all others fail", 1, Boundary::oneMatch, x -> {
            x.write(0, ALL_OF_LEVEL[3]);
            x.pass(51);
            x.addMatch(0, 0, -1);
            return x.read(0);
        });
        undone("promise 7, addMatch: undone", Boundary::usedWithRoom, x -> x.addMatch(1, 2, 3));
        undone("promise 7, addMatch: the sixth one is undone", () -> {
            FlashLevels x = sixMatches();
            x.undo();
            return x;
        }, x -> x.addMatch(1, 2, 3));
    }

    // ---- promise 8

    private static void removeMatchArguments() {
        answers("promise 8, removeMatch: 0, the first of three", 2, Boundary::used, x -> x.removeMatch(0));
        answers("promise 8, removeMatch: 2, the last of three", 2, Boundary::used, x -> x.removeMatch(2));
        answers("promise 8, removeMatch: 5, the last of six", 5, Boundary::sixMatches, x -> x.removeMatch(5));
        answers("promise 8, removeMatch: 0, the first of six", 5, Boundary::sixMatches, x -> x.removeMatch(0));
        answers("promise 8, removeMatch: one of two, one is left", 1, Boundary::used, x -> {
            x.removeMatch(1);
            return x.removeMatch(1);
        });
        for (int match : beside(0, 2)) {
            refused("promise 8, removeMatch: no match " + match + " of three", INDEX, Boundary::used,
                    x -> x.removeMatch(match));
        }
        for (int match : beside(0, 5)) {
            refused("promise 8, removeMatch: no match " + match + " of six", INDEX, Boundary::sixMatches,
                    x -> x.removeMatch(match));
        }
        refused("promise 8, removeMatch: the only one", STATE, Boundary::oneMatch, x -> x.removeMatch(0));
        for (int match : beside(0, 0)) {
            refused("promise 8, removeMatch: no match " + match + " beside the only one", INDEX, Boundary::oneMatch,
                    x -> x.removeMatch(match));
        }
        undone("promise 8, removeMatch: undone", Boundary::usedWithRoom, x -> x.removeMatch(1));
        undone("promise 8, removeMatch: the first one is undone", Boundary::usedWithRoom, x -> x.removeMatch(0));
        for (int match = 0; match < 6; match++) {
            int m = match;
            undone("promise 8, removeMatch: " + m + " of six is undone", Boundary::sixMatches, x -> x.removeMatch(m));
        }
    }

    private static void removeMatchMoves() {
        int[] offsets = {0, -10, -20, 1, 4, 7};
        for (int match = 0; match < 6; match++) {
            int gone = match;
            for (int left = 0; left < 5; left++) {
                int l = left;
                answers("promise 8, removeMatch: the match " + l + " of six, without " + gone,
                        offsets[l < gone ? l : l + 1], Boundary::sixMatches, x -> {
                            x.removeMatch(gone);
                            return x.match(l, 0);
                        });
            }
        }
        answers("promise 8, removeMatch: all three offsets move up", -204060, Boundary::fresh, x -> {
            x.removeMatch(0);
            return 10000 * x.match(1, 0) + 100 * x.match(1, 1) + x.match(1, 2);
        });
    }

    /** Six matches, of which this one alone reads charges of 299 as the level 3; it is the favorite of the page 0. */
    private static FlashLevels favorite(int match) {
        int[][] matches = new int[6][];
        for (int i = 0; i < 6; i++) {
            matches[i] = new int[] {0, 0, i == match ? -1 : 0};
        }
        FlashLevels x = matched(matches);
        x.write(0, ALL_OF_LEVEL[3]);
        x.write(7, 0);
        x.pass(51);
        x.read(0);
        return x;
    }

    private static void removeMatchFavorites() {
        for (int favorite = 0; favorite < 6; favorite++) {
            int f = favorite;
            for (int gone = 0; gone < 6; gone++) {
                int g = gone;
                answers("promise 8, removeMatch: the favorite " + f + " without the match " + g,
                        g == f ? 0 : g < f ? f - 1 : f, () -> favorite(f), x -> {
                            x.removeMatch(g);
                            return x.page(0, 2);
                        });
            }
        }
        answers("promise 8, removeMatch: the favorite 0 of another page stays 0", 0, () -> favorite(5), x -> {
            x.removeMatch(0);
            return x.page(7, 2);
        });
        answers("promise 8, removeMatch: a lost page has no favorite then", NONE, Boundary::lost, x -> {
            x.removeMatch(0);
            return x.page(0, 2);
        });
        answers("promise 8, removeMatch: a moved favorite is tried first", 0, () -> favorite(5), x -> {
            x.removeMatch(0);
            return x.read(0);
        });
    }

    // ---- promise 9

    private static void setArguments() {
        for (int setting = 0; setting < 6; setting++) {
            int s = setting;
            int most = MOST_SETTINGS[s];
            answers("promise 9, set: the " + SETTINGS[s] + " to 0, the least", 0, Boundary::fresh, x -> {
                x.set(s, 0);
                return x.setting(s);
            });
            answers("promise 9, set: the " + SETTINGS[s] + " to " + most + ", the most", most, Boundary::fresh, x -> {
                x.set(s, most);
                return x.setting(s);
            });
            answers("promise 9, set: the " + SETTINGS[s] + " at first", FIRST_SETTINGS[s], Boundary::fresh,
                    x -> x.set(s, most));
            answers("promise 9, set: the previous " + SETTINGS[s], most, Boundary::fresh, x -> {
                x.set(s, most);
                return x.set(s, 0);
            });
            for (int value : beside(0, most)) {
                refused("promise 9, set: the " + SETTINGS[s] + " to " + value + " is out of range", ARGUMENT,
                        Boundary::used, x -> x.set(s, value));
            }
            answers("promise 9, set: the " + SETTINGS[s] + " leaves the others", 25 - FIRST_SETTINGS[s], Boundary::fresh,
                    x -> {
                        x.set(s, 0);
                        int sum = 0;
                        for (int other = 0; other < 6; other++) {
                            sum += x.setting(other);
                        }
                        return sum;
                    });
            undone("promise 9, set: the " + SETTINGS[s] + " is undone", Boundary::usedWithRoom, x -> x.set(s, most));
            undone("promise 9, set: the same " + SETTINGS[s] + " saves a state too", Boundary::usedWithRoom,
                    x -> x.set(s, x.setting(s)));
        }
        for (int setting : beside(0, 5)) {
            refused("promise 9, set: no setting " + setting, INDEX, Boundary::used, x -> x.set(setting, 0));
            refused("promise 9, set: no setting " + setting + ", and a value below 0", INDEX, Boundary::used,
                    x -> x.set(setting, -1));
            refused("promise 9, set: no setting " + setting + ", and a value above all", INDEX, Boundary::used,
                    x -> x.set(setting, 101));
        }
    }

    private static void setEffects() {
        answers("promise 9, set: the charges that are there stay", 16 * 299, Boundary::faded, x -> {
            for (int setting = 0; setting < 6; setting++) {
                x.set(setting, MOST_SETTINGS[setting]);
            }
            return x.page(0, 6);
        });
        answers("promise 9, set: the fees that are there stay", 5, Boundary::faded, x -> {
            x.read(0);
            x.set(4, 100);
            return x.count(9);
        });
        answers("promise 9, set: the next fee is the new one", 105, Boundary::faded, x -> {
            x.read(0);
            x.set(4, 100);
            x.pass(1);
            x.removeMatch(1);
            // 298: the favorite is 0 again, which fails, and the match that was 2 is 1
            x.read(0);
            return x.count(9);
        });
    }
}
