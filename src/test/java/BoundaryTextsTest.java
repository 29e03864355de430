/** The boundary cases of the promises 10 to 14: append, clearBuffer, firstError, run, undo. */
public final class BoundaryTextsTest extends Boundary {
    /** 20 commands of 60 characters. */
    private static final String FULL_ROW = "h1;".repeat(19) + "h10";
    private static final String WRITE = "w0=00000000";

    private BoundaryTextsTest() {
    }

    public static void main(String[] args) {
        appendArguments();
        appendRoom();
        clearBuffer();
        firstErrorOfWhole();
        firstErrorOfLetters();
        firstErrorOfDigits();
        firstErrorOfData();
        firstErrorOfHours();
        firstErrorOfSeparators();
        runRefuses();
        runSingleCommands();
        runStopsAtRefusals();
        runStopsAtLosses();
        runAsOneCall();
        undoRoom();
        undoRestores();
        undoLeaves();
        Check.end("BoundaryTextsTest");
    }

    private static FlashLevels filled(String text) {
        FlashLevels x = fresh();
        type(x, text);
        return x;
    }

    private static FlashLevels full() {
        return typed(FULL_ROW);
    }

    // ---- promise 10

    private static void appendArguments() {
        answers("promise 10, append: 33, the least code", 1, Boundary::fresh, x -> x.append(33));
        answers("promise 10, append: 126, the most", 1, Boundary::fresh, x -> x.append(126));
        for (int code : beside(33, 126)) {
            refused("promise 10, append: no code " + code, ARGUMENT, Boundary::used, x -> x.append(code));
            refused("promise 10, append: no code " + code + " to a full buffer", ARGUMENT, BoundaryTextsTest::full,
                    x -> x.append(code));
        }
        refused("promise 10, append: no code 0", ARGUMENT, Boundary::used, x -> x.append(0));
        refused("promise 10, append: no code -1", ARGUMENT, Boundary::used, x -> x.append(-1));
        refused("promise 10, append: no code that is 'r' by its lowest 16 bits", ARGUMENT, Boundary::used,
                x -> x.append(65536 + 'r'));
        Check.test("promise 10, append: each code from 33 to 126", () -> {
            for (int code = 33; code <= 126; code++) {
                Check.due("append(" + code + ")", fresh().append(code), 1);
            }
        });
    }

    private static void appendRoom() {
        answers("promise 10, append: the first character", 1, Boundary::fresh, x -> x.append('r'));
        answers("promise 10, append: the 60th character, the last", 60, () -> filled("r".repeat(59)), x -> x.append('r'));
        refused("promise 10, append: a 61st character", STATE, BoundaryTextsTest::full, x -> x.append(';'));
        refused("promise 10, append: a 61st one of the least code", STATE, BoundaryTextsTest::full, x -> x.append(33));
        refused("promise 10, append: a 61st one of the most", STATE, BoundaryTextsTest::full, x -> x.append(126));
        answers("promise 10, append: behind clearBuffer of a full buffer", 1, BoundaryTextsTest::full, x -> {
            x.clearBuffer();
            return x.append('r');
        });
        answers("promise 10, append: behind run of a full buffer", 1, BoundaryTextsTest::full, x -> {
            x.run();
            return x.append('r');
        });
        answers("promise 10, append: behind a syntax error", 3, () -> filled("??"), x -> x.append('r'));
        answers("promise 10, append: saves no state", 0, Boundary::fresh, x -> {
            x.append('r');
            return x.count(11);
        });
        answers("promise 10, append: is not undone", 1, Boundary::still, x -> {
            x.append('r');
            x.undo();
            return x.clearBuffer();
        });
    }

    // ---- promise 11

    private static void clearBuffer() {
        answers("promise 11, clearBuffer: empty", 0, Boundary::fresh, FlashLevels::clearBuffer);
        answers("promise 11, clearBuffer: one character", 1, () -> filled("r"), FlashLevels::clearBuffer);
        answers("promise 11, clearBuffer: full", 60, BoundaryTextsTest::full, FlashLevels::clearBuffer);
        answers("promise 11, clearBuffer: cleared ahead of it", 0, BoundaryTextsTest::full, x -> {
            x.clearBuffer();
            return x.clearBuffer();
        });
        answers("promise 11, clearBuffer: run ahead of it", 0, BoundaryTextsTest::full, x -> {
            x.run();
            return x.clearBuffer();
        });
        answers("promise 11, clearBuffer: saves no state", 0, Boundary::fresh, x -> {
            x.clearBuffer();
            return x.count(11);
        });
        answers("promise 11, clearBuffer: is not undone", 0, Boundary::used, x -> {
            x.clearBuffer();
            x.undo();
            return x.clearBuffer();
        });
        answers("promise 11, clearBuffer: what was there does not come back", 1, () -> filled("h1;h1"), x -> {
            x.clearBuffer();
            type(x, "h2");
            return x.run();
        });
        changesNothing("promise 11, clearBuffer: an empty buffer", Boundary::lost, FlashLevels::clearBuffer);
    }

    // ---- promise 12

    private static void error(String text, int due) {
        answers("promise 12, firstError: at " + due + " of " + text, due, () -> filled(text), FlashLevels::firstError);
    }

    private static void noError(String text) {
        answers("promise 12, firstError: none in " + text, text.length(), () -> filled(text), FlashLevels::firstError);
    }

    private static void firstErrorOfWhole() {
        noError("");
        noError(FULL_ROW);
        noError("r0;".repeat(20));
        noError("h1;".repeat(16) + "w1=12345678;");
        noError("h1;".repeat(19) + "h1;");
        error("?" + "r".repeat(59), 0);
        error("r0;".repeat(19) + "r0?", 59);
        error("r0;".repeat(19) + "r8;", 58);
        error("r0?r0;r0", 2);
        error("r0?r0?", 2);
        answers("promise 12, firstError: an error that is cleared", 2, () -> filled("?"), x -> {
            x.clearBuffer();
            type(x, "r0");
            return x.firstError();
        });
        changesNothing("promise 12, firstError: a full buffer stays", BoundaryTextsTest::full, FlashLevels::firstError);
        changesNothing("promise 12, firstError: an error stays", () -> typed("r0?;"), FlashLevels::firstError);
        answers("promise 12, firstError: whether the commands can be carried out does not count", 23,
                () -> typed("r1;" + WRITE + ";" + WRITE.substring(0, 8)), FlashLevels::firstError);
    }

    private static void firstErrorOfLetters() {
        String letters = "wreh";
        for (int code = 33; code <= 126; code++) {
            String sign = String.valueOf((char) code);
            if (letters.indexOf(code) >= 0) {
                noError(sign);
                noError("e1;" + sign);
            } else {
                error(sign, 0);
                error("e1;" + sign, 3);
            }
        }
    }

    private static void firstErrorOfDigits() {
        for (String letter : new String[] {"w", "r"}) {
            noError(letter + "0");
            noError(letter + "7");
            error(letter + "/", 1);
            error(letter + "8", 1);
            error(letter + "9", 1);
            error(letter + ";", 1);
            error(letter + "-1", 1);
            error(letter + letter, 1);
        }
        noError("e0");
        noError("e1");
        error("e/", 1);
        error("e2", 1);
        error("e;", 1);
        error("r00", 2);
        error("r0=", 2);
        error("e00", 2);
        error("e10", 2);
        error("r0r1", 2);
        error("e0e1", 2);
    }

    private static void firstErrorOfData() {
        noError("w3=");
        error("w3<", 2);
        error("w3>", 2);
        error("w3;", 2);
        error("w33", 2);
        error("w3==", 3);
        error("w3=;", 3);
        noError(WRITE);
        error("w0=0000000;", 10);
        error(WRITE + "0", 11);
        error(WRITE + "a", 11);
        noError("w0=09afaf90");
        for (int digit = 0; digit < 8; digit++) {
            String before = "w7=" + "9".repeat(digit);
            for (char good : new char[] {'0', '9', 'a', 'f'}) {
                noError(before + good);
            }
            for (char bad : new char[] {'/', ':', '`', 'g', 'A', 'F', '=', 'x'}) {
                error(before + bad, 3 + digit);
            }
        }
    }

    private static void firstErrorOfHours() {
        error("h0", 1);
        error("h00", 1);
        error("h01", 1);
        error("h0100", 1);
        error("h;", 1);
        error("h/", 1);
        error("h:", 1);
        error("h-1", 1);
        error("ha", 1);
        for (int hours = 1; hours <= 100; hours++) {
            noError("h" + hours + ";");
        }
        error("h101", 3);
        error("h109", 3);
        error("h110", 3);
        error("h190", 3);
        error("h200", 3);
        error("h990", 3);
        error("h1000", 4);
        error("h1001", 4);
        error("h1/", 2);
        error("h1:", 2);
        error("h2/", 2);
        error("h2:", 2);
        error("h10/", 3);
        error("h10:", 3);
        error("h11/", 3);
        error("h100:", 4);
        error("h5h5", 2);
    }

    private static void firstErrorOfSeparators() {
        error(";r0", 0);
        error("r0;;", 3);
        error("r0;;r0", 3);
        noError("r0;");
        noError("e0;");
        noError(WRITE + ";");
        error("r0,r1", 2);
        error("r0:r1", 2);
        error("e0:", 2);
        error(WRITE + ":", 11);
        error("h1;0", 3);
        noError("h1;w1=00000000;e1;r0;h100");
    }

    // ---- promise 13

    private static void notRun(String text) {
        refused("promise 13, run: no complete row is " + text, ARGUMENT, () -> typed(text), FlashLevels::run);
    }

    private static void runRefuses() {
        String[] rows = {"", ";", "r", "w", "e", "h", "w0", "w0=", "w0=0", "w0=0000000", "w0=000000000", "r0;", "e0;", "h1;",
            "h100;", "w1=00000000;", "h1;r", "h1;e", "h1;h", "h1;w1=0000000", "h1;;h1", ";h1", "h0", "h101", "h1000", "h01",
            "r8", "w8=00000000", "e2", "w1=0000000A", "w1=0000000g", "R0", "h1;x", "h1x", "x;h1", "h1,h1",
            "r0;".repeat(20), "h1;".repeat(19) + "h1;", "h1;".repeat(19) + "h1?"};
        for (String row : rows) {
            notRun(row);
        }
        refused("promise 13, run: a second time, the buffer is empty then", ARGUMENT, () -> {
            FlashLevels x = full();
            x.run();
            return x;
        }, FlashLevels::run);
    }

    private static void runs(String name, int due, Scene scene, String text) {
        answers("promise 13, run: " + name, due, scene, x -> runText(x, text));
    }

    private static void runsThen(String name, long due, Scene scene, String text, Steps then) {
        answers("promise 13, run: " + name, due, scene, x -> {
            runText(x, text);
            return then.on(x);
        });
    }

    private static void runSingleCommands() {
        runs("one command alone", 1, Boundary::fresh, "h1");
        runs("20 commands in a full buffer", 20, Boundary::fresh, FULL_ROW);
        runsThen("the hours of 20 commands", 29, Boundary::fresh, FULL_ROW, x -> x.count(0));
        int[] hours = {1, 9, 10, 11, 99, 100};
        for (int h : hours) {
            runsThen(h + " hours", h, Boundary::fresh, "h" + h, x -> x.count(0));
        }
        runs("a write of the page 0", 1, Boundary::fresh, "w0=12345678");
        runsThen("page 0 is written", 0x12345678, Boundary::fresh, "w0=12345678", x -> x.data(0));
        runsThen("page 7 is written", 0x9abcdef0, Boundary::fresh, "w7=9abcdef0", x -> x.data(7));
        runsThen("the least data", 0, Boundary::fresh, "w3=00000000", x -> x.data(3));
        runsThen("the greatest digits", -1, Boundary::fresh, "w3=ffffffff", x -> x.data(3));
        runsThen("the first digit has the highest 4 bits", Integer.MIN_VALUE, Boundary::fresh, "w3=80000000", x -> x.data(3));
        runsThen("the last digit has the lowest 4 bits", 1, Boundary::fresh, "w3=00000001", x -> x.data(3));
        runsThen("a write as write(): charges", 16 * 353, Boundary::still, "w0=aaaaaaaa;w1=aaaaaaaa", x -> x.page(0, 6));
        runs("a read that succeeds by the second try", 1, Boundary::faded, "r0");
        runsThen("a read as read(): its fee", 5, Boundary::faded, "r0", x -> x.count(9));
        runsThen("a read as read(): its favorite", 1, Boundary::faded, "r0", x -> x.page(0, 2));
        runsThen("a read of the page 7", 1, Boundary::fresh, "w7=00000000;r7", x -> x.page(7, 3));
        runsThen("block 0 is erased", 1, Boundary::fresh, "e0", x -> x.count(2));
        runsThen("block 1 is erased", 1, Boundary::fresh, "e1", x -> x.count(3));
        runsThen("hours as pass(): drift", 16 * 349, Boundary::still, "w0=aaaaaaaa;h1", x -> x.page(0, 6));
    }

    private static void runStopsAtRefusals() {
        runs("the first command would throw", 0, Boundary::fresh, "r0;h1");
        runsThen("nothing behind it is carried out", 0, Boundary::fresh, "r0;h1", x -> x.count(0));
        runsThen("no command is carried out: it saves a state", 1, Boundary::fresh, "r0;h1", x -> x.count(11));
        runsThen("no command is carried out: the buffer is cleared", 0, Boundary::fresh, "r0;h1", FlashLevels::clearBuffer);
        runs("a read of an erased page", 1, Boundary::fresh, "h1;r0;h1");
        runsThen("hours up to a read of an erased page", 1, Boundary::fresh, "h1;r0;h1", x -> x.count(0));
        runs("a read of a lost page", 1, Boundary::lost, "h1;r0;h1");
        runs("a write to a written page", 1, Boundary::faded, "h1;w0=00000000;h1");
        runsThen("a written page keeps its data", ALL_OF_LEVEL[3], Boundary::faded, "w0=00000000", x -> x.data(0));
        runs("a write to a lost page", 1, Boundary::lost, "h1;w0=00000000;h1");
        runs("a write to the page that the row has written", 1, Boundary::fresh, "w0=00000001;w0=00000002");
        for (int block = 0; block < 2; block++) {
            int b = block;
            String row = "e" + b + ";e" + b + ";h1";
            runs("erase of the block " + b + " to the wear 100", 1, () -> worn(b, 99), row);
            runsThen("the wear stays 100 in the block " + b, 100, () -> worn(b, 99), row, x -> x.count(2 + b));
            runs("erase of the block " + b + " of the wear 100", 0, () -> worn(b, 100), "e" + b + ";h1");
            runs("erase of the other block, with " + b + " of the wear 100", 1, () -> worn(b, 100), "e" + (1 - b));
        }
        runs("the last command would throw", 2, Boundary::fresh, "h1;h1;r0");
        runsThen("the buffer is cleared ahead of the last command", 0, Boundary::fresh, "h1;h1;r0", FlashLevels::clearBuffer);
        runsThen("a command that would throw moves no seed", 1, Boundary::fresh, "r0", x -> x.count(1));
    }

    private static void runStopsAtLosses() {
        runs("a page is lost by the first command, which counts", 1, Boundary::gone, "r0;h1");
        runsThen("the page is lost", 2, Boundary::gone, "r0;h1", x -> x.page(0, 0));
        runsThen("nothing behind a loss is carried out", 100, Boundary::gone, "r0;h1", x -> x.count(0));
        runsThen("a loss is counted", 1, Boundary::gone, "r0;h1", x -> x.count(10));
        runsThen("the buffer is cleared behind a loss", 0, Boundary::gone, "r0;h1", FlashLevels::clearBuffer);
        runs("a page is lost by the last command", 2, Boundary::gone, "h1;r0");
        runs("a page that was lost before does not stop it", 2, Boundary::lost, "h1;w1=00000000");
        runs("a read by the last try does not stop it", 2, () -> {
            FlashLevels x = still();
            x.write(0, ALL_OF_LEVEL[3]);
            x.pass(81);
            return x;
        }, "r0;h1");
    }

    private static void runAsOneCall() {
        undone("promise 13, run: 20 commands are undone as one call", () -> {
            FlashLevels x = usedWithRoom();
            x.clearBuffer();
            return x;
        }, x -> runText(x, FULL_ROW));
        undone("promise 13, run: no command is carried out, undone", () -> {
            FlashLevels x = usedWithRoom();
            x.clearBuffer();
            return x;
        }, x -> runText(x, "r1;w1=00000000"));
        undone("promise 13, run: a loss is undone", Boundary::gone, x -> runText(x, "h1;r0;h1"));
        runsThen("a refused run ahead of it saves no state", 1, () -> {
            FlashLevels x = fresh();
            Check.refuses("run of an empty buffer", ARGUMENT, x::run);
            return x;
        }, "h1", x -> x.count(11));
    }

    // ---- promise 14

    private static FlashLevels passed(int calls) {
        FlashLevels x = fresh();
        for (int i = 0; i < calls; i++) {
            x.pass(1);
        }
        return x;
    }

    private static void undoTimes(FlashLevels x, int times) {
        for (int i = 0; i < times; i++) {
            x.undo();
        }
    }

    private static void undoRoom() {
        refused("promise 14, undo: a new object", STATE, Boundary::fresh, FlashLevels::undo);
        refused("promise 14, undo: the only saved state is dropped", STATE, () -> {
            FlashLevels x = still();
            x.undo();
            return x;
        }, FlashLevels::undo);
        refused("promise 14, undo: all six saved states are dropped", STATE, () -> {
            FlashLevels x = used();
            undoTimes(x, 6);
            return x;
        }, FlashLevels::undo);
        for (int calls = 1; calls <= 14; calls++) {
            int c = calls;
            int saved = Math.min(6, c);
            answers("promise 14, undo: left of " + c + " calls", saved - 1, () -> passed(c), FlashLevels::undo);
            answers("promise 14, undo: the oldest saved state of " + c + " calls", c - saved, () -> passed(c), x -> {
                undoTimes(x, saved);
                return x.count(0);
            });
            answers("promise 14, undo: the latest saved state of " + c + " calls", c - 1, () -> passed(c), x -> {
                x.undo();
                return x.count(0);
            });
            refused("promise 14, undo: once more than saved behind " + c + " calls", STATE, () -> {
                FlashLevels x = passed(c);
                undoTimes(x, saved);
                return x;
            }, FlashLevels::undo);
        }
        answers("promise 14, undo: a seventh state is saved where one was dropped", 5, () -> passed(9), x -> {
            x.undo();
            x.pass(50);
            return x.undo();
        });
        answers("promise 14, undo: states saved behind it restore what came behind it", 58, () -> passed(9), x -> {
            x.undo();
            x.pass(50);
            x.pass(1);
            x.undo();
            return x.count(0);
        });
        answers("promise 14, undo: it saves no state itself", 2, () -> passed(3), x -> {
            x.undo();
            return x.count(11);
        });
    }

    private static void undoRestores() {
        answers("promise 14, undo: hours", 0, Boundary::fresh, x -> {
            x.pass(100);
            x.undo();
            return x.count(0);
        });
        answers("promise 14, undo: the seed", 1, Boundary::fresh, x -> {
            x.write(0, 0);
            x.undo();
            return x.count(1);
        });
        answers("promise 14, undo: the wear, from 100 to 99", 99, () -> worn(1, 100), x -> {
            x.undo();
            return x.count(3);
        });
        answers("promise 14, undo: a lost page is written again", 1, Boundary::lost, x -> {
            x.undo();
            return x.page(0, 0);
        });
        for (int what = 7; what <= 10; what++) {
            int w = what;
            answers("promise 14, undo: count " + w + " behind a loss", 0, Boundary::lost, x -> {
                x.undo();
                return x.count(w);
            });
            answers("promise 14, undo: count " + w + " behind a read", 0, Boundary::faded, x -> {
                x.read(0);
                x.undo();
                return x.count(w);
            });
        }
        answers("promise 14, undo: the favorite", 0, Boundary::faded, x -> {
            x.read(0);
            x.undo();
            return x.page(0, 2);
        });
        answers("promise 14, undo: the only match", 1, Boundary::oneMatch, x -> {
            x.addMatch(1, 2, 3);
            x.undo();
            return x.count(6);
        });
        answers("promise 14, undo: the sixth match", 789, Boundary::sixMatches, x -> {
            x.removeMatch(5);
            x.undo();
            return 100 * x.match(5, 0) + 10 * x.match(5, 1) + x.match(5, 2);
        });
        answers("promise 14, undo: a setting", 10, Boundary::still, x -> {
            x.undo();
            return x.setting(0);
        });
        Check.test("promise 14, undo: a page that was erased and written anew, twice", () -> {
            FlashLevels x = faded();
            x.erase(0);
            x.write(0, 0x12345678);
            x.undo();
            x.undo();
            sameAsTwin(x, faded());
        });
        answers("promise 14, undo: what is written again draws the same", 3316, Boundary::fresh, x -> {
            x.write(0, 305419896);
            x.undo();
            return x.write(0, 305419896);
        });
    }

    private static void undoLeaves() {
        answers("promise 14, undo: the characters that were appended stay", 5, Boundary::used, x -> {
            x.undo();
            return x.clearBuffer();
        });
        answers("promise 14, undo: a buffer that was cleared stays empty", 0, Boundary::used, x -> {
            x.clearBuffer();
            x.undo();
            return x.clearBuffer();
        });
        answers("promise 14, undo: a buffer that was run stays empty", 0, Boundary::fresh, x -> {
            runText(x, "h1");
            x.undo();
            return x.clearBuffer();
        });
        answers("promise 14, undo: a full buffer stays", 60, BoundaryTextsTest::full, x -> {
            x.undo();
            return x.clearBuffer();
        });
        answers("promise 14, undo: a call that is refused saves no state", 3, () -> passed(3), x -> {
            Check.refuses("read(0)", STATE, () -> x.read(0));
            Check.refuses("pass(0)", ARGUMENT, () -> x.pass(0));
            Check.refuses("erase(2)", INDEX, () -> x.erase(2));
            return x.count(11);
        });
        answers("promise 14, undo: calls that only look save no state", 3, () -> passed(3), x -> {
            x.page(0, 0);
            x.life(0);
            x.digest();
            x.firstError();
            return x.count(11);
        });
    }
}
