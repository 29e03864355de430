import java.util.Random;

/** Long runs of calls, always the same ones, on the class and on the plain model: every answer must agree. */
public final class RandomRunsTest {
    private static final int RUNS = 400;
    private static final int CALLS = 512;

    private final Random random;
    private final int run;
    private final FlashLevels flash = new FlashLevels();
    private final PlainModel model = new PlainModel();
    private int calls = 0;
    /** Runs differ in how often a call is made with arguments that are out of range. */
    private final int oddArguments;

    private RandomRunsTest(int run) {
        this.run = run;
        random = new Random(run);
        oddArguments = 1 + random.nextInt(12);
    }

    public static void main(String[] args) {
        for (int run = 0; run < RUNS && Check.clean(); run++) {
            new RandomRunsTest(run).go();
        }
        Check.end("RandomRunsTest");
    }

    private void go() {
        // only with one block and many erasings does a wear come to 100
        boolean erases = random.nextInt(4) == 0;
        int block = random.nextInt(2);
        while (calls < CALLS - 2 && Check.clean()) {
            if (erases && random.nextInt(5) != 0) {
                compare("erase(" + block + ")", () -> flash.erase(block), () -> model.erase(block));
            } else {
                change();
            }
            look();
        }
        compare("digest()", flash::digest, model::digest);
    }

    private void compare(String name, Check.Call got, Check.Call want) {
        if (calls >= CALLS) {
            return;
        }
        calls++;
        String due = Check.outcome(want);
        String answer = Check.outcome(got);
        Check.due("run " + run + ", call " + calls + ", " + name + ": " + answer + " instead of " + due,
                answer.equals(due));
    }

    /** A number from least to most; now and then one beside them, or far away. */
    private int number(int least, int most) {
        if (random.nextInt(100) >= oddArguments) {
            return least + random.nextInt(most - least + 1);
        }
        int[] odd = {least - 1, most + 1, least, most, Integer.MIN_VALUE, Integer.MAX_VALUE};
        return odd[random.nextInt(odd.length)];
    }

    private int anyData() {
        int[] some = {0, -1, 0x55555555, 0xaaaaaaaa, 0x12345678, Integer.MIN_VALUE, Integer.MAX_VALUE};
        return random.nextInt(3) == 0 ? some[random.nextInt(some.length)] : random.nextInt();
    }

    private void change() {
        int page = number(0, 7);
        int other = number(0, 7);
        switch (random.nextInt(24)) {
            case 0: case 1: case 2: case 3: case 4: {
                int data = anyData();
                compare("write(" + page + ", " + data + ")", () -> flash.write(page, data), () -> model.write(page, data));
                break;
            }
            case 5: case 6: case 7: case 8:
                compare("read(" + page + ")", () -> flash.read(page), () -> model.read(page));
                break;
            case 9: case 10:
                compare("copy(" + page + ", " + other + ")", () -> flash.copy(page, other), () -> model.copy(page, other));
                break;
            case 11: {
                int block = number(0, 1);
                compare("erase(" + block + ")", () -> flash.erase(block), () -> model.erase(block));
                break;
            }
            case 12: case 13: case 14: {
                int hours = random.nextBoolean() ? number(1, 100) : number(1, 5);
                compare("pass(" + hours + ")", () -> flash.pass(hours), () -> model.pass(hours));
                break;
            }
            case 15: {
                int a = number(-80, 80);
                int b = number(-80, 80);
                int c = number(-80, 80);
                compare("addMatch(" + a + ", " + b + ", " + c + ")",
                        () -> flash.addMatch(a, b, c), () -> model.addMatch(a, b, c));
                break;
            }
            case 16: {
                int match = number(0, 5);
                compare("removeMatch(" + match + ")", () -> flash.removeMatch(match), () -> model.removeMatch(match));
                break;
            }
            case 17: case 18:
                changeSetting();
                break;
            case 19: case 20:
                compare("undo()", flash::undo, model::undo);
                break;
            case 21: case 22:
                text();
                break;
            default:
                compare("clearBuffer()", flash::clearBuffer, model::clearBuffer);
                break;
        }
    }

    private void changeSetting() {
        int[] most = {60, 50, 8, 30, 100, 10};
        int setting = number(0, 5);
        int value = setting < 0 || setting > 5 ? number(0, 8) : number(0, most[setting]);
        compare("set(" + setting + ", " + value + ")", () -> flash.set(setting, value), () -> model.set(setting, value));
    }

    private String command() {
        String page = Integer.toString(random.nextInt(8));
        switch (random.nextInt(6)) {
            case 0: case 1: return "w" + page + "=" + String.format("%08x", anyData());
            case 2: case 3: return "r" + page;
            case 4: return "h" + (1 + random.nextInt(random.nextBoolean() ? 100 : 12));
            default: return random.nextInt(3) == 0 ? "e" + random.nextInt(2) : "r" + page;
        }
    }

    /** Appends a row of commands, at times a spoiled one, and mostly runs it. */
    private void text() {
        StringBuilder row = new StringBuilder(command());
        for (int more = random.nextInt(8); more > 0; more--) {
            row.append(';').append(command());
        }
        if (random.nextInt(4) == 0) {
            int at = random.nextInt(row.length());
            String signs = "wreh=;0123456789afgAF~!";
            row.setCharAt(at, signs.charAt(random.nextInt(signs.length())));
        }
        if (random.nextInt(6) == 0) {
            row.setLength(random.nextInt(row.length()));
        }
        // a row of the greatest length of all that fits is wanted more often than a cut one
        while (row.length() > 60 && random.nextInt(8) != 0 && row.lastIndexOf(";") > 0) {
            row.setLength(row.lastIndexOf(";"));
        }
        for (int i = 0; i < row.length(); i++) {
            int code = row.charAt(i);
            compare("append(" + code + ")", () -> flash.append(code), () -> model.append(code));
        }
        compare("firstError()", flash::firstError, model::firstError);
        if (random.nextInt(8) != 0) {
            compare("run()", flash::run, model::run);
        }
        if (random.nextInt(3) != 0) {
            compare("clearBuffer()", flash::clearBuffer, model::clearBuffer);
        }
    }

    private void look() {
        int page = number(0, 7);
        int what = number(0, 6);
        switch (random.nextInt(22)) {
            case 0: case 1: case 2:
                compare("page(" + page + ", " + what + ")", () -> flash.page(page, what), () -> model.page(page, what));
                break;
            case 3:
                compare("data(" + page + ")", () -> flash.data(page), () -> model.data(page));
                break;
            case 4: case 5: {
                int cell = number(0, 15);
                int property = random.nextInt(3) == 0 ? number(0, 1) : number(10, 15);
                compare("cell(" + page + ", " + cell + ", " + property + ")",
                        () -> flash.cell(page, cell, property), () -> model.cell(page, cell, property));
                break;
            }
            case 6: {
                int match = number(0, 5);
                int place = number(0, 2);
                compare("match(" + match + ", " + place + ")",
                        () -> flash.match(match, place), () -> model.match(match, place));
                break;
            }
            case 7: case 8: {
                int number = number(0, 11);
                compare("count(" + number + ")", () -> flash.count(number), () -> model.count(number));
                break;
            }
            case 9: {
                int setting = number(0, 5);
                compare("setting(" + setting + ")", () -> flash.setting(setting), () -> model.setting(setting));
                break;
            }
            default:
                lookAhead(page);
                break;
        }
    }

    private void lookAhead(int page) {
        int third = number(0, 2);
        int match = number(0, 5);
        int hours = random.nextBoolean() ? number(0, 300) : number(0, 30);
        switch (random.nextInt(9)) {
            case 0:
                compare("wrong(" + page + ", " + match + ")", () -> flash.wrong(page, match), () -> model.wrong(page, match));
                break;
            case 1: case 2:
                compare("ifRead(" + page + ", " + third + ")", () -> flash.ifRead(page, third), () -> model.ifRead(page, third));
                break;
            case 3:
                compare("life(" + page + ")", () -> flash.life(page), () -> model.life(page));
                break;
            case 4:
                compare("bestShift(" + page + ", " + third + ")",
                        () -> flash.bestShift(page, third), () -> model.bestShift(page, third));
                break;
            case 5:
                compare("lostIn(" + hours + ")", () -> flash.lostIn(hours), () -> model.lostIn(hours));
                break;
            case 6:
                compare("spare()", flash::spare, model::spare);
                break;
            case 7:
                compare("meanFee()", () -> Double.doubleToLongBits(flash.meanFee()),
                        () -> Double.doubleToLongBits(model.meanFee()));
                break;
            default:
                compare("digest()", flash::digest, model::digest);
                break;
        }
    }
}
