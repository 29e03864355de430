import java.math.BigInteger;
import java.util.ArrayDeque;
import java.util.ArrayList;
import java.util.Deque;
import java.util.List;
import java.util.regex.Matcher;
import java.util.regex.Pattern;

/**
 * The document once more, written as plainly as the whole Java library allows and without the short cuts
 * of the class, so that both can be compared call by call.
 */
final class PlainModel {
    static final class Leaf {
        int status = 0;
        int data = 0;
        int since = 0;
        int favorite = 0;
        int reads = 0;
        int fails = 0;
        int fees = 0;
        int[] charge = new int[16];

        Leaf same() {
            Leaf leaf = new Leaf();
            leaf.status = status;
            leaf.data = data;
            leaf.since = since;
            leaf.favorite = favorite;
            leaf.reads = reads;
            leaf.fails = fails;
            leaf.fees = fees;
            leaf.charge = charge.clone();
            return leaf;
        }
    }

    static final class Scene {
        Leaf[] leaf = new Leaf[8];
        int[] wear = new int[2];
        int[] setting = {10, 4, 2, 3, 5, 1};
        List<int[]> matches = new ArrayList<>(List.of(
                new int[] {0, 0, 0}, new int[] {-10, -20, -30}, new int[] {-20, -40, -60}));
        int hours = 0;
        BigInteger seed = BigInteger.ONE;
        int reads = 0;
        int fails = 0;
        int fees = 0;
        int losses = 0;

        Scene() {
            for (int i = 0; i < 8; i++) {
                leaf[i] = new Leaf();
            }
        }

        Scene same() {
            Scene scene = new Scene();
            for (int i = 0; i < 8; i++) {
                scene.leaf[i] = leaf[i].same();
            }
            scene.wear = wear.clone();
            scene.setting = setting.clone();
            scene.matches = new ArrayList<>(matches);
            scene.hours = hours;
            scene.seed = seed;
            scene.reads = reads;
            scene.fails = fails;
            scene.fees = fees;
            scene.losses = losses;
            return scene;
        }
    }

    private static final int[] MOST = {60, 50, 8, 30, 100, 10};
    private static final Pattern ROW = Pattern.compile(
            "(w[0-7]=[0-9a-f]{8}|r[0-7]|e[01]|h([1-9][0-9]?|100))(;(w[0-7]=[0-9a-f]{8}|r[0-7]|e[01]|h([1-9][0-9]?|100)))*");

    private Scene now = new Scene();
    private final Deque<Scene> saved = new ArrayDeque<>();
    private String buffer = "";

    private static void index(boolean good) {
        if (!good) {
            throw new IndexOutOfBoundsException();
        }
    }

    private static void argument(boolean good) {
        if (!good) {
            throw new IllegalArgumentException();
        }
    }

    private static void state(boolean good) {
        if (!good) {
            throw new IllegalStateException();
        }
    }

    private static boolean within(int value, int least, int most) {
        return least <= value && value <= most;
    }

    private void save() {
        saved.addLast(now.same());
        if (saved.size() > 6) {
            saved.removeFirst();
        }
    }

    private int draw(int m) {
        now.seed = BigInteger.valueOf(1103515245).multiply(now.seed).add(BigInteger.valueOf(12345))
                .mod(BigInteger.valueOf(2147483648L));
        return now.seed.divide(BigInteger.valueOf(65536)).mod(BigInteger.valueOf(m)).intValue();
    }

    private static int levelFor(int data, int cell) {
        boolean lower = ((data >> (2 * cell)) & 1) == 1;
        boolean higher = ((data >> (2 * cell + 1)) & 1) == 1;
        if (lower && higher) {
            return 0;
        }
        if (lower) {
            return 1;
        }
        return higher ? 3 : 2;
    }

    private static int levelRead(int charge, int first, int second, int third) {
        int level = 0;
        for (int threshold : new int[] {100 + first, 200 + second, 300 + third}) {
            if (threshold <= charge) {
                level++;
            }
        }
        return level;
    }

    private static int wrongBits(Leaf leaf, int[] match) {
        String[] texts = {"11", "01", "00", "10"};
        int wrong = 0;
        for (int c = 0; c < 16; c++) {
            String due = texts[levelFor(leaf.data, c)];
            String got = texts[levelRead(leaf.charge[c], match[0], match[1], match[2])];
            wrong += due.charAt(0) == got.charAt(0) ? 0 : 1;
            wrong += due.charAt(1) == got.charAt(1) ? 0 : 1;
        }
        return wrong;
    }

    private void doWrite(int page, int data) {
        Leaf leaf = now.leaf[page];
        leaf.status = 1;
        leaf.data = data;
        leaf.since = now.hours;
        leaf.favorite = 0;
        int j = now.setting[0] + now.setting[5] * now.wear[page / 4];
        for (int c = 0; c < 16; c++) {
            int charge = 50 + 100 * levelFor(data, c) + draw(2 * j + 1) - j;
            leaf.charge[c] = charge < 0 ? 0 : charge > 450 ? 450 : charge;
        }
        for (int other = 0; other < 8; other++) {
            if (other / 4 == page / 4 && Math.abs(other - page) == 1 && now.leaf[other].status != 0) {
                for (int c = 0; c < 16; c++) {
                    now.leaf[other].charge[c] = Math.min(450, now.leaf[other].charge[c] + now.setting[3]);
                }
            }
        }
    }

    private List<Integer> order(Leaf leaf) {
        List<Integer> order = new ArrayList<>();
        order.add(leaf.favorite);
        for (int m = 0; m < now.matches.size(); m++) {
            if (m != leaf.favorite) {
                order.add(m);
            }
        }
        return order;
    }

    private int doRead(int page) {
        Leaf leaf = now.leaf[page];
        int tries = 0;
        for (int m : order(leaf)) {
            tries++;
            if (tries > 1) {
                leaf.fees += now.setting[4];
                now.fees += now.setting[4];
            }
            if (wrongBits(leaf, now.matches.get(m)) <= now.setting[2]) {
                leaf.favorite = m;
                leaf.reads++;
                now.reads++;
                return tries - 1;
            }
            leaf.fails++;
            now.fails++;
        }
        leaf.status = 2;
        now.losses++;
        return -1;
    }

    private void doErase(int block) {
        now.wear[block]++;
        for (int page = 4 * block; page < 4 * block + 4; page++) {
            now.leaf[page].status = 0;
            now.leaf[page].data = 0;
            now.leaf[page].charge = new int[16];
        }
    }

    private void age(Leaf leaf, int page) {
        for (int c = 0; c < 16; c++) {
            leaf.charge[c] -= leaf.charge[c] * (now.setting[1] + now.wear[page / 4]) / 1000;
        }
    }

    private void doPass(int hours) {
        for (int h = 0; h < hours; h++) {
            now.hours++;
            for (int page = 0; page < 8; page++) {
                if (now.leaf[page].status != 0) {
                    age(now.leaf[page], page);
                }
            }
        }
    }

    private boolean lost(Leaf leaf, int without) {
        for (int m = 0; m < now.matches.size(); m++) {
            if (m != without && wrongBits(leaf, now.matches.get(m)) <= now.setting[2]) {
                return false;
            }
        }
        return true;
    }

    int write(int page, int data) {
        index(within(page, 0, 7));
        state(now.leaf[page].status == 0);
        save();
        doWrite(page, data);
        return page(page, 6);
    }

    int read(int page) {
        index(within(page, 0, 7));
        state(now.leaf[page].status == 1);
        save();
        return doRead(page);
    }

    int erase(int block) {
        index(within(block, 0, 1));
        state(now.wear[block] != 100);
        save();
        doErase(block);
        return now.wear[block];
    }

    int copy(int from, int to) {
        index(within(from, 0, 7) && within(to, 0, 7));
        state(now.leaf[from].status == 1 && now.leaf[to].status == 0);
        save();
        int failed = doRead(from);
        if (failed >= 0) {
            doWrite(to, now.leaf[from].data);
        }
        return failed;
    }

    int pass(int hours) {
        argument(within(hours, 1, 100));
        save();
        doPass(hours);
        return now.hours;
    }

    int addMatch(int first, int second, int third) {
        argument(within(first, -80, 80) && within(second, -80, 80) && within(third, -80, 80));
        state(now.matches.size() < 6);
        save();
        now.matches.add(new int[] {first, second, third});
        return now.matches.size() - 1;
    }

    int removeMatch(int match) {
        index(within(match, 0, now.matches.size() - 1));
        state(now.matches.size() > 1);
        save();
        now.matches.remove(match);
        for (Leaf leaf : now.leaf) {
            if (leaf.favorite == match) {
                leaf.favorite = 0;
            } else if (leaf.favorite > match) {
                leaf.favorite--;
            }
        }
        return now.matches.size();
    }

    int set(int setting, int value) {
        index(within(setting, 0, 5));
        argument(within(value, 0, MOST[setting]));
        save();
        int previous = now.setting[setting];
        now.setting[setting] = value;
        return previous;
    }

    int append(int code) {
        argument(within(code, 33, 126));
        state(buffer.length() < 60);
        buffer += (char) code;
        return buffer.length();
    }

    int clearBuffer() {
        int length = buffer.length();
        buffer = "";
        return length;
    }

    private static boolean canGoOn(String prefix) {
        Matcher matcher = ROW.matcher(prefix);
        return prefix.isEmpty() || matcher.matches() || matcher.hitEnd();
    }

    int firstError() {
        for (int i = 0; i < buffer.length(); i++) {
            if (!canGoOn(buffer.substring(0, i + 1))) {
                return i;
            }
        }
        return buffer.length();
    }

    int run() {
        argument(ROW.matcher(buffer).matches());
        save();
        int done = 0;
        for (String command : buffer.split(";")) {
            int digit = command.charAt(1) - '0';
            int losses = now.losses;
            if (command.charAt(0) == 'w') {
                if (now.leaf[digit].status != 0) {
                    break;
                }
                doWrite(digit, Integer.parseUnsignedInt(command.substring(3), 16));
            } else if (command.charAt(0) == 'r') {
                if (now.leaf[digit].status != 1) {
                    break;
                }
                doRead(digit);
            } else if (command.charAt(0) == 'e') {
                if (now.wear[digit] == 100) {
                    break;
                }
                doErase(digit);
            } else {
                doPass(Integer.parseInt(command.substring(1)));
            }
            done++;
            if (now.losses != losses) {
                break;
            }
        }
        buffer = "";
        return done;
    }

    int undo() {
        state(!saved.isEmpty());
        now = saved.removeLast();
        return saved.size();
    }

    int page(int page, int what) {
        index(within(page, 0, 7));
        argument(within(what, 0, 6));
        Leaf leaf = now.leaf[page];
        int sum = 0;
        for (int charge : leaf.charge) {
            sum += charge;
        }
        int[] answers = {leaf.status, leaf.status == 0 ? -1 : now.hours - leaf.since,
                leaf.status == 1 ? leaf.favorite : -1, leaf.reads, leaf.fails, leaf.fees, sum};
        return answers[what];
    }

    int data(int page) {
        index(within(page, 0, 7));
        return now.leaf[page].data;
    }

    int cell(int page, int cell, int what) {
        index(within(page, 0, 7) && within(cell, 0, 15));
        argument(what == 0 || what == 1 || within(what, 10, 15));
        Leaf leaf = now.leaf[page];
        if (what == 0) {
            return leaf.charge[cell];
        }
        if (what == 1) {
            return leaf.status == 0 ? -1 : levelFor(leaf.data, cell);
        }
        if (what - 10 >= now.matches.size()) {
            return -1;
        }
        int[] match = now.matches.get(what - 10);
        return levelRead(leaf.charge[cell], match[0], match[1], match[2]);
    }

    int match(int match, int place) {
        index(within(match, 0, now.matches.size() - 1));
        argument(within(place, 0, 2));
        return now.matches.get(match)[place];
    }

    int count(int what) {
        argument(within(what, 0, 11));
        int written = 0;
        int lost = 0;
        for (Leaf leaf : now.leaf) {
            written += leaf.status == 1 ? 1 : 0;
            lost += leaf.status == 2 ? 1 : 0;
        }
        int[] answers = {now.hours, now.seed.intValueExact(), now.wear[0], now.wear[1], written, lost,
                now.matches.size(), now.reads, now.fails, now.fees, now.losses, saved.size()};
        return answers[what];
    }

    int setting(int setting) {
        index(within(setting, 0, 5));
        return now.setting[setting];
    }

    int wrong(int page, int match) {
        index(within(page, 0, 7) && within(match, 0, now.matches.size() - 1));
        return now.leaf[page].status == 0 ? -1 : wrongBits(now.leaf[page], now.matches.get(match));
    }

    int ifRead(int page, int what) {
        index(within(page, 0, 7));
        argument(within(what, 0, 2));
        if (now.leaf[page].status != 1) {
            return -1;
        }
        Scene before = now;
        now = now.same();
        int failed = doRead(page);
        Scene then = now;
        now = before;
        if (what == 0) {
            return then.leaf[page].fails - before.leaf[page].fails;
        }
        if (what == 1) {
            return failed == -1 ? -1 : then.leaf[page].favorite;
        }
        return then.fees - before.fees;
    }

    int life(int page) {
        index(within(page, 0, 7));
        if (now.leaf[page].status != 1) {
            return -1;
        }
        Leaf leaf = now.leaf[page].same();
        for (int h = 0; h <= 300; h++) {
            if (lost(leaf, -1)) {
                return h;
            }
            age(leaf, page);
        }
        return -1;
    }

    int bestShift(int page, int what) {
        index(within(page, 0, 7));
        argument(within(what, 0, 1));
        Leaf leaf = now.leaf[page];
        if (leaf.status == 0) {
            return -1;
        }
        int best = 1000;
        int fewest = 1000;
        for (int shift = -60; shift <= 60; shift++) {
            int wrong = wrongBits(leaf, new int[] {shift, shift, shift});
            // later shifts are greater ones: of the same size the one above 0 comes last
            if (wrong < fewest || wrong == fewest && Math.abs(shift) <= Math.abs(best)) {
                best = shift;
                fewest = wrong;
            }
        }
        return what == 0 ? best : fewest;
    }

    int lostIn(int hours) {
        argument(within(hours, 0, 300));
        int mask = 0;
        for (int page = 0; page < 8; page++) {
            Leaf leaf = now.leaf[page].same();
            for (int h = 0; h < hours; h++) {
                age(leaf, page);
            }
            if (leaf.status == 1 && lost(leaf, -1)) {
                mask += 1 << page;
            }
        }
        return mask;
    }

    int spare() {
        if (now.matches.size() == 1) {
            return -1;
        }
        int best = -1;
        int fewest = 9;
        for (int m = 0; m < now.matches.size(); m++) {
            int lost = 0;
            for (Leaf leaf : now.leaf) {
                lost += leaf.status == 1 && lost(leaf, m) ? 1 : 0;
            }
            if (lost < fewest) {
                best = m;
                fewest = lost;
            }
        }
        return best;
    }

    double meanFee() {
        return now.reads == 0 ? 0.0 : (double) now.fees / now.reads;
    }

    long digest() {
        List<Long> values = new ArrayList<>();
        for (int what = 0; what < 12; what++) {
            values.add((long) count(what));
        }
        for (int value : now.setting) {
            values.add((long) value);
        }
        for (int[] match : now.matches) {
            for (int offset : match) {
                values.add((long) offset);
            }
        }
        for (int page = 0; page < 8; page++) {
            addPage(values, page);
        }
        values.add((long) lostIn(24));
        values.add((long) spare());
        values.add(Double.doubleToLongBits(meanFee()));
        values.add((long) buffer.length());
        for (char code : buffer.toCharArray()) {
            values.add((long) code);
        }
        long hash = 2437;
        for (long value : values) {
            hash = 31 * hash + value;
        }
        return hash;
    }

    private void addPage(List<Long> values, int page) {
        for (int what = 0; what < 7; what++) {
            values.add((long) page(page, what));
        }
        values.add((long) data(page));
        for (int cell = 0; cell < 16; cell++) {
            for (int what : new int[] {0, 1, 10}) {
                values.add((long) cell(page, cell, what));
            }
        }
        for (int match = 0; match < now.matches.size(); match++) {
            values.add((long) wrong(page, match));
        }
        for (int what = 0; what < 3; what++) {
            values.add((long) ifRead(page, what));
        }
        values.add((long) life(page));
        values.add((long) bestShift(page, 0));
        values.add((long) bestShift(page, 1));
    }
}
