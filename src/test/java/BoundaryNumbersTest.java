import java.math.BigInteger;
import java.util.function.Supplier;

/** The boundary cases that the document names in the promises 24 and 25, a method for each sentence. */
public final class BoundaryNumbersTest {
    private static final Check CHECK = new Check("BoundaryNumbersTest");
    private static final int NONE = -1, OUTSIDE = -102;
    private static final int MIN = Integer.MIN_VALUE, MAX = Integer.MAX_VALUE;

    public static void main(String[] args) {
        countWhat();
        countWithoutChannel();
        countTextWithoutChannel();
        countOfEmptyChannel();
        countOfLargestChannel();
        countPins();
        countSplitNets();
        countTracks();
        countText();
        countReads();
        countBests();
        digestBegins();
        digestWithoutChannel();
        digestOfText();
        digestOfEmptyChannel();
        digestOfNone();
        digestOfCycle();
        digestOfPlan();
        digestOverflows();
        digestChangesNothing();
        CHECK.finish();
    }

    private static ChannelTracks busy() {
        ChannelTracks x = Check.channel("abc./.abc");
        x.cut(4, true);
        x.set(0, 2);
        x.set(1, 1);
        Check.type(x, "pac");
        return x;
    }

    private static final Supplier<ChannelTracks> BUSY = BoundaryNumbersTest::busy;

    private static void counts(ChannelTracks x, String name, int... wants) {
        for (int what = 0; what < wants.length; what++) {
            CHECK.is(name + ": count(" + what + ")", x.count(what), wants[what]);
        }
    }

    private static void countWhat() {
        CHECK.sentence("24: what: 0 .. 8; or OUTSIDE");
        counts(busy(), "busy", 4, 6, 3, 1, 3, 2, 3, 1, 0);
        CHECK.refusedFor(BUSY, "count(?)", (x, what) -> x.count(what), OUTSIDE, -1, 9, 10, MIN, MAX);
        CHECK.refusedFor(ChannelTracks::new, "count(?)", (x, what) -> x.count(what), OUTSIDE, -1, 9, MIN, MAX);
    }

    private static void countWithoutChannel() {
        CHECK.sentence("24: 0 to 5 are 0 without a channel");
        counts(new ChannelTracks(), "new", 0, 0, 0, 0, 0, 0);
        ChannelTracks x = Check.typed("abc/abc");
        x.put(0, 0, 0);
        x.cut(0, true);
        x.set(0, 0);
        x.pack();
        counts(x, "after calls that are refused", 0, 0, 0, 0, 0, 0);
    }

    private static void countTextWithoutChannel() {
        CHECK.sentence("24: 0 to 5 are 0 without a channel (6 to 8 count then too)");
        counts(new ChannelTracks(), "new", 0, 0, 0, 0, 0, 0, 0, 0, 0);
        counts(Check.typed("abc"), "text", 0, 0, 0, 0, 0, 0, 3, 0, 0);
        counts(Check.typed("abcdefghijklmnopqrst"), "full text", 0, 0, 0, 0, 0, 0, 20, 0, 0);
    }

    private static void countOfEmptyChannel() {
        CHECK.sentence("24: of a channel without pins");
        counts(Check.channel("../.."), "no pins", 2, 0, 0, 0, 0, 0, 0, 1, 0);
        counts(Check.channel("a./.b"), "no segments", 2, 2, 2, 0, 0, 0, 0, 1, 0);
    }

    private static void countOfLargestChannel() {
        CHECK.sentence("24: of the largest channel");
        ChannelTracks x = Check.channel("aaaaaaaa/bbbbbbbb");
        for (int net = 0; net <= 5; net++) {
            x.cut(net, true);
        }
        x.pack();
        Check.type(x, "abcdefghijklmnopqrst");
        counts(x, "largest", 8, 16, 2, 6, 14, 14, 20, 1, 0);
        counts(Check.channel("abcdefab/fedcbafe"), "all nets", 8, 16, 6, 0, 6);
    }

    private static void countPins() {
        CHECK.sentence("24: 1 of pins that belong to a net, 2 of nets that exist");
        ChannelTracks x = Check.channel("f./f.");
        counts(x, "one net", 2, 2, 1);
        x.put(0, 0, NONE);
        counts(x, "one pin", 2, 1, 1);
        x.put(0, 1, NONE);
        counts(x, "no pin", 2, 0, 0);
    }

    private static void countSplitNets() {
        CHECK.sentence("24: 3 of split nets");
        ChannelTracks x = Check.channel("aa/..");
        for (int net = 0; net <= 5; net++) {
            x.cut(net, true);
            CHECK.is("count(3) after " + (net + 1), x.count(3), net + 1);
        }
        x.cut(0, false);
        CHECK.is("count(3) after one is whole", x.count(3), 5);
        Check.type(x, "aa/..");
        x.channel();
        CHECK.is("count(3) after channel()", x.count(3), 0);
    }

    private static void countTracks() {
        CHECK.sentence("24: 4 of segments, 5 of segments that have a track");
        ChannelTracks x = busy();
        x.set(2, 0);
        CHECK.is("count(5) with one on track 0", x.count(5), 3);
        x.set(2, 13);
        CHECK.is("count(5) with one on track 13", x.count(5), 3);
        x.set(2, NONE);
        CHECK.is("count(5) with one on none", x.count(5), 2);
        x.clear();
        CHECK.is("count(5) after clear()", x.count(5), 0);
        CHECK.is("count(4) after clear()", x.count(4), 3);
    }

    private static void countText() {
        CHECK.sentence("24: 6 of characters in the text buffer");
        ChannelTracks x = new ChannelTracks();
        for (int held = 1; held <= 20; held++) {
            x.letter(32);
            CHECK.is("count(6) after " + held, x.count(6), held);
        }
        x.letter(32);
        CHECK.is("count(6) after a refused one", x.count(6), 20);
        x.blank();
        CHECK.is("count(6) after blank()", x.count(6), 0);
    }

    private static void countReads() {
        CHECK.sentence("24: 7 how often a channel has been read");
        ChannelTracks x = new ChannelTracks();
        x.channel();
        CHECK.is("count(7) after a refused one", x.count(7), 0);
        for (int time = 1; time <= 30; time++) {
            Check.type(x, "ab/ba");
            x.channel();
            CHECK.is("count(7) after " + time, x.count(7), time);
        }
        Check.type(x, "ab/b");
        x.channel();
        CHECK.is("count(7) after a refused one", x.count(7), 30);
    }

    private static void countBests() {
        CHECK.sentence("24: 8 how often best() has been done");
        ChannelTracks x = Check.channel("aa/bb");
        for (int time = 1; time <= 20; time++) {
            x.best();
            CHECK.is("count(8) after " + time, x.count(8), time);
        }
        x.best();
        CHECK.is("count(8) after a refused one", x.count(8), 20);
        x.blank();
        x.clear();
        x.pack();
        CHECK.is("count(8) after other calls", x.count(8), 20);
    }

    /** The checksum of these values, in numbers that do not overflow until the end. */
    private static long sum(int... values) {
        BigInteger h = BigInteger.valueOf(1489);
        for (int v : values) {
            h = h.multiply(BigInteger.valueOf(31)).add(BigInteger.valueOf(v));
        }
        return h.longValue();
    }

    private static void digestBegins() {
        CHECK.sentence("25: h begins as 1489");
        CHECK.is("digest() of a new object", new ChannelTracks().digest(), 1489L * 31 * 31 * 31 * 31 * 31 * 31 * 31 * 31 * 31);
    }

    private static void digestWithoutChannel() {
        CHECK.sentence("25: If there is a channel: .. Then the codes of the characters .. and count() with what 0 to 8");
        CHECK.is("digest() of a new object", new ChannelTracks().digest(), sum(0, 0, 0, 0, 0, 0, 0, 0, 0));
        CHECK.is("digest() of a text", Check.typed("a~ ").digest(), sum(97, 126, 32, 0, 0, 0, 0, 0, 0, 3, 0, 0));
    }

    private static void digestOfText() {
        CHECK.sentence("25: the codes of the characters in the text buffer");
        int[] values = new int[29];
        ChannelTracks x = new ChannelTracks();
        for (int i = 0; i < 20; i++) {
            values[i] = 126 - i;
            x.letter(values[i]);
        }
        values[26] = 20;
        CHECK.is("digest() of a full text", x.digest(), sum(values));
        x.blank();
        CHECK.is("digest() of an emptied text", x.digest(), sum(0, 0, 0, 0, 0, 0, 0, 0, 0));
        x.letter(33);
        CHECK.is("digest() of a short text then", x.digest(), sum(33, 0, 0, 0, 0, 0, 0, 1, 0, 0));
    }

    private static void digestOfEmptyChannel() {
        CHECK.sentence("25: of a channel without pins, segments, cycle, zones and tracks");
        CHECK.is("digest()", Check.channel("../..").digest(), sum(2, 0, 0, 0, 0, 0, 0, 0, 1, 0,
            -1, -1, -1, -1, 0, 0, 0, 0, 0, 0, 2, 0, 0, 0, 0, 0, 0, 1, 0));
        ChannelTracks x = Check.channel("../..");
        x.cut(0, true);
        x.cut(5, true);
        CHECK.is("digest() with split nets", x.digest(), sum(2, 0, 0, 0, 0, 0, 0, 0, 1, 0,
            -1, -1, -1, -1, 1, 0, 0, 0, 0, 1, 2, 0, 0, 2, 0, 0, 0, 1, 0));
    }

    private static void digestOfNone() {
        CHECK.sentence("25: for each column the nets of the top and the bottom pin (NONE if there is none)");
        CHECK.is("digest()", Check.channel("a./.f").digest(), sum(2, 0, 0, 0, 0, 0, 0, 0, 1, 0,
            0, -1, -1, 5, 0, 0, 0, 0, 0, 0, 2, 2, 2, 0, 0, 0, 0, 1, 0));
    }

    private static void digestOfCycle() {
        CHECK.sentence("25: for each segment segment() with what 0 to 6; each segment of the cycle; each zone");
        CHECK.is("digest()", Check.channel("ba/ab").digest(), sum(2, 2, 2, -1, 2, -1, 1, 0, 0, 0,
            1, 0, 0, 1, 0, 0, 0, 0, 0, 0,
            0, 0, 1, -1, 1, 1, -1, 1, 0, 1, -1, 1, 1, -1,
            0, 1, 3, 2, 4, 2, 0, 2, 0, 0, 1, 0));
    }

    private static void digestOfPlan() {
        CHECK.sentence("25: each character of ink(); for each track .., for each column, cell() with layer 1");
        ChannelTracks x = Check.channel("a.a/.bb");
        x.set(0, 1);
        CHECK.is("digest()", x.digest(), sum(3, 2, 2, 2, 0, 0, 1, 2, 0, 0,
            0, -1, -1, 1, 0, 1, 0, 0, 0, 0, 0, 0,
            0, 0, 2, 1, 1, 0, 0, 1, 1, 2, -1, 0, 1, 1,
            3, '.', '.', '.', '/', 'a', 'a', 'a',
            0, -1, 0, 0, -1, 0,
            3, 4, 2, 0, 2, 1, 0, 1, 0));
        x.set(0, 0);
        x.set(1, 0);
        CHECK.is("digest() of two on a track", x.digest(), sum(3, 2, 2, 2, 0, 0, 1, 1, 0, 3,
            0, -1, -1, 1, 0, 1, 0, 0, 0, 0, 0, 0,
            0, 0, 2, 0, 1, 0, 0, 1, 1, 2, 0, 0, 1, 1,
            3, 'a', '#', '#',
            0, 1, 0,
            3, 4, 2, 0, 2, 2, 0, 1, 0));
    }

    private static void digestOverflows() {
        CHECK.sentence("25: h becomes 31 * h + v in long arithmetic, which may overflow");
        CHECK.is("31 * h beyond the greatest long", Check.typed("~~~~~~~~~~~~~~~~~~~~").digest(),
            sum(126, 126, 126, 126, 126, 126, 126, 126, 126, 126, 126, 126, 126, 126, 126, 126, 126, 126, 126, 126,
                0, 0, 0, 0, 0, 0, 20, 0, 0));
        boolean negative = false;
        ChannelTracks x = new ChannelTracks();
        for (int i = 0; i < 20; i++) {
            x.letter(126);
            negative |= x.digest() < 0;
        }
        CHECK.that("no digest is negative", negative);
    }

    private static void digestChangesNothing() {
        CHECK.sentence("25: Returns a checksum");
        ChannelTracks x = busy();
        long h = x.digest();
        CHECK.is("digest() again", x.digest(), h);
        CHECK.that("digest() changed something", Check.state(x).equals(Check.state(busy())));
        CHECK.is("digest() of an equal object", busy().digest(), h);
    }
}
