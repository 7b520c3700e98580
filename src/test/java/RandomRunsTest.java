import java.util.ArrayList;
import java.util.List;
import java.util.Random;

/** Runs of up to 512 calls, right and wrong ones, against the Reference; each seed is fixed. */
public final class RandomRunsTest {
    private static final int RUNS = 400;
    // A step can take some 25 calls, and none may come behind the 512th one.
    private static final int CALLS = 512 - 30;

    private final Check check;
    private final Random random;
    private final ChannelTracks x = new ChannelTracks();
    private final Reference due = new Reference();
    private final List<String> calls = new ArrayList<>();
    private final int nets;
    private final int dots;
    private boolean wrong;

    private RandomRunsTest(Check check, long seed) {
        this.check = check;
        random = new Random(seed);
        nets = 1 + random.nextInt(6);
        dots = random.nextInt(6);
    }

    public static void main(String[] args) {
        Check check = new Check("RandomRunsTest");
        for (long seed = 1; seed <= RUNS; seed++) {
            new RandomRunsTest(check, seed).go(seed);
        }
        check.finish();
    }

    private void go(long seed) {
        if (random.nextInt(10) > 0) readChannel();
        while (calls.size() < CALLS && !wrong) step();
        is("digest()", x.digest(), due.digest());
        if (wrong) System.out.println("seed " + seed + ": " + calls);
    }

    private void is(String call, long got, long want) {
        calls.add(call);
        wrong |= got != want;
        check.is(call, got, want);
    }

    private int number(int from, int to) {
        if (random.nextInt(40) == 0) {
            int[] odd = {Integer.MIN_VALUE, Integer.MAX_VALUE, -101, -2, from - 1, to + 1, to + 32};
            return odd[random.nextInt(odd.length)];
        }
        return from + random.nextInt(to - from + 1);
    }

    private void letter(int code) {
        is("letter(" + code + ")", x.letter(code), due.letter(code));
    }

    private void type(String text) {
        for (int i = 0; i < text.length() && !wrong; i++) letter(text.charAt(i));
    }

    private void readChannel() {
        blankSometimes();
        int n = random.nextBoolean() ? 8 : 2 + random.nextInt(7);
        StringBuilder text = new StringBuilder();
        for (int i = 0; i < 2 * n + 1; i++) text.append(i == n ? '/' : pinSign());
        if (random.nextInt(12) == 0) text.insert(random.nextInt(text.length()), '/');
        if (random.nextInt(12) == 0) text.setLength(random.nextInt(text.length()));
        if (random.nextInt(12) == 0) text.append(pinSign());
        type(text.toString());
        is("fault(0)", x.fault(0), due.fault(0));
        is("channel()", x.channel(), due.channel());
    }

    private char pinSign() {
        return random.nextInt(10) < dots ? '.' : (char) ('a' + random.nextInt(nets));
    }

    private void blankSometimes() {
        if (random.nextInt(8) > 0) is("blank()", x.blank(), due.blank());
    }

    private void sayCommand() {
        blankSometimes();
        List<String> all = Reference.commands();
        StringBuilder text = new StringBuilder(all.get(random.nextInt(all.size())));
        if (random.nextInt(6) == 0) text.setCharAt(random.nextInt(text.length()), (char) (32 + random.nextInt(95)));
        if (random.nextInt(12) == 0) text.setLength(random.nextInt(text.length()));
        type(text.toString());
        is("fault(1)", x.fault(1), due.fault(1));
        is("say()", x.say(), due.say());
    }

    private void step() {
        int kind = random.nextInt(100);
        if (kind < 2) readChannel();
        else if (kind < 6) sayCommand();
        else if (kind < 10) letter(number(32, 126));
        else if (kind < 34) change();
        else if (kind < 50) plan();
        else if (kind < 54) is("digest()", x.digest(), due.digest());
        else ask();
    }

    private void change() {
        int a = number(0, 7);
        int b = number(0, 1);
        int net = number(-1, nets - 1);
        boolean apart = random.nextBoolean();
        switch (random.nextInt(3)) {
            case 0 -> is("put(" + a + ", " + b + ", " + net + ")", x.put(a, b, net), due.put(a, b, net));
            case 1 -> is("turn(" + a + ")", x.turn(a), due.turn(a));
            default -> is("cut(" + net + ", " + apart + ")", x.cut(net, apart), due.cut(net, apart));
        }
    }

    private void plan() {
        int kind = random.nextInt(20);
        if (kind < 3) is("pack()", x.pack(), due.pack());
        else if (kind < 5) is("best()", x.best(), due.best());
        else if (kind < 6) is("clear()", x.clear(), due.clear());
        else {
            int segment = number(0, Math.max(0, due.count(4) - 1));
            int track = number(-1, random.nextInt(6) == 0 ? 13 : 4);
            is("set(" + segment + ", " + track + ")", x.set(segment, track), due.set(segment, track));
        }
    }

    private void ask() {
        int column = number(0, 7);
        int one = number(0, Math.max(0, due.count(4) - 1));
        int other = number(0, Math.max(0, due.count(4) - 1));
        int small = number(0, 10);
        switch (random.nextInt(12)) {
            case 0, 1 -> is("about(" + small + ")", x.about(small), due.about(small));
            case 2 -> is("pin(" + column + ", " + one + ")", x.pin(column, one), due.pin(column, one));
            case 3 -> {
                int net = number(0, 5);
                int what = number(0, 4);
                is("net(" + net + ", " + what + ")", x.net(net, what), due.net(net, what));
            }
            case 4 -> {
                int what = number(0, 6);
                is("segment(" + one + ", " + what + ")", x.segment(one, what), due.segment(one, what));
            }
            case 5 -> is("above(" + one + ", " + other + ")", x.above(one, other), due.above(one, other));
            case 6 -> is("may(" + one + ", " + other + ")", x.may(one, other), due.may(one, other));
            case 7 -> is("ring(" + small + ")", x.ring(small), due.ring(small));
            case 8 -> is("zone(" + small + ")", x.zone(small), due.zone(small));
            case 9 -> {
                int place = number(0, random.nextBoolean() ? 130 : 30);
                is("ink(" + place + ")", x.ink(place), due.ink(place));
            }
            case 10 -> {
                int layer = number(0, 1);
                int track = number(0, random.nextBoolean() ? 13 : 3);
                is("cell(" + track + ", " + column + ", " + layer + ")", x.cell(track, column, layer),
                        due.cell(track, column, layer));
            }
            default -> is("count(" + small + ")", x.count(small), due.count(small));
        }
    }
}
