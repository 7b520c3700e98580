import java.util.function.Supplier;

/** The boundary cases that the document names in the promises 16 to 18, a method for each sentence. */
public final class BoundaryChangesTest {
    private static final Check CHECK = new Check("BoundaryChangesTest");
    private static final int NONE = -1, UNKNOWN = -101, OUTSIDE = -102, STATE = -103;
    private static final int MIN = Integer.MIN_VALUE, MAX = Integer.MAX_VALUE;
    private static final int[] WRONG_COLUMNS = {-1, 4, 5, 8, MIN, MAX};

    public static void main(String[] args) {
        putColumns();
        putWithoutChannel();
        putSides();
        putNets();
        putUnknownBeforeOutside();
        putPrevious();
        putFirstAndLastPins();
        putKeepsSplit();
        turnColumns();
        turnWithoutChannel();
        turnNone();
        turnOfOneNet();
        changesKeepText();
        cutNets();
        cutWithoutChannel();
        cutOfNetThatDoesNotExist();
        cutSoAlready();
        cutUnknownBeforeState();
        cutCountsSegments();
        CHECK.finish();
    }

    // Four columns and three segments, c above b above a; two have tracks, and b and e are split.
    private static ChannelTracks busy() {
        ChannelTracks x = Check.channel("abc./.abc");
        x.cut(1, true);
        x.cut(4, true);
        x.set(0, 2);
        x.set(1, 1);
        Check.type(x, "pac");
        return x;
    }

    private static final Supplier<ChannelTracks> BUSY = BoundaryChangesTest::busy;

    private static void putColumns() {
        CHECK.sentence("16: column: the column; or UNKNOWN");
        CHECK.is("put(0, 0, 3)", busy().put(0, 0, 3), 0);
        CHECK.is("put(3, 1, 3)", busy().put(3, 1, 3), 2);
        CHECK.refusedFor(BUSY, "put(?, 0, 3)", (x, c) -> x.put(c, 0, 3), UNKNOWN, WRONG_COLUMNS);
        CHECK.refusedFor(BUSY, "put(?, 1, NONE)", (x, c) -> x.put(c, 1, NONE), UNKNOWN, WRONG_COLUMNS);
    }

    private static void putWithoutChannel() {
        CHECK.sentence("16: UNKNOWN (also if there is no channel)");
        CHECK.refusedFor(ChannelTracks::new, "put(?, 0, 0)", (x, c) -> x.put(c, 0, 0), UNKNOWN, 0, 1, 7, -1, MIN, MAX);
        CHECK.refused(() -> Check.typed("ab/ba"), "put(0, 0, NONE)", x -> x.put(0, 0, NONE), UNKNOWN);
    }

    private static void putSides() {
        CHECK.sentence("16: side: 0 for the top pin, 1 for the bottom pin; or OUTSIDE");
        ChannelTracks x = busy();
        x.put(1, 0, 5);
        CHECK.is("pin(1, 0)", x.pin(1, 0), 5);
        CHECK.is("pin(1, 1)", x.pin(1, 1), 0);
        x.put(1, 1, 4);
        CHECK.is("pin(1, 0)", x.pin(1, 0), 5);
        CHECK.is("pin(1, 1)", x.pin(1, 1), 4);
        CHECK.refusedFor(BUSY, "put(0, ?, 3)", (y, side) -> y.put(0, side, 3), OUTSIDE, -1, 2, MIN, MAX);
        CHECK.refusedFor(BUSY, "put(3, ?, NONE)", (y, side) -> y.put(3, side, NONE), OUTSIDE, -1, 2, MIN, MAX);
    }

    private static void putNets() {
        CHECK.sentence("16: net: the new net, 0 to 5, or NONE; or OUTSIDE");
        ChannelTracks x = busy();
        for (int net = -1; net <= 5; net++) {
            CHECK.is("put(3, 0, " + net + ")", x.put(3, 0, net), net == -1 ? NONE : net - 1);
            CHECK.is("pin(3, 0)", x.pin(3, 0), net);
        }
        CHECK.refusedFor(BUSY, "put(0, 0, ?)", (y, net) -> y.put(0, 0, net), OUTSIDE, -2, 6, 32, UNKNOWN, MIN, MAX);
        CHECK.refusedFor(BUSY, "put(3, 1, ?)", (y, net) -> y.put(3, 1, net), OUTSIDE, -2, 6, MIN, MAX);
        CHECK.refused(BUSY, "put(0, 2, 6)", y -> y.put(0, 2, 6), OUTSIDE);
    }

    private static void putUnknownBeforeOutside() {
        CHECK.sentence("16: or UNKNOWN, OUTSIDE, in this order");
        CHECK.refusedFor(BUSY, "put(?, 2, 0)", (x, c) -> x.put(c, 2, 0), UNKNOWN, WRONG_COLUMNS);
        CHECK.refusedFor(BUSY, "put(?, 0, 6)", (x, c) -> x.put(c, 0, 6), UNKNOWN, WRONG_COLUMNS);
        CHECK.refusedFor(BUSY, "put(?, -1, -2)", (x, c) -> x.put(c, -1, -2), UNKNOWN, WRONG_COLUMNS);
        CHECK.refused(ChannelTracks::new, "put(0, 2, 0)", x -> x.put(0, 2, 0), UNKNOWN);
        CHECK.refused(ChannelTracks::new, "put(0, 0, 6)", x -> x.put(0, 0, 6), UNKNOWN);
    }

    private static void putPrevious() {
        CHECK.sentence("16: Returns the previous net, or NONE");
        ChannelTracks x = busy();
        CHECK.is("put() on a pin of none", x.put(0, 1, 5), NONE);
        CHECK.is("put() on a pin of f", x.put(0, 1, 5), 5);
        CHECK.is("put() of none on a pin of f", x.put(0, 1, NONE), 5);
        CHECK.is("put() of none on a pin of none", x.put(0, 1, NONE), NONE);
        CHECK.is("put() on a pin of a", x.put(0, 0, NONE), 0);
    }

    private static void putFirstAndLastPins() {
        CHECK.sentence("16: Changes the net of a pin");
        ChannelTracks x = Check.channel("../..");
        x.put(0, 0, 0);
        CHECK.is("net(0, 0), which exists now", x.net(0, 0), 1);
        CHECK.is("segments with one pin", x.count(4), 0);
        x.put(0, 1, 0);
        CHECK.is("segments with two pins in one column", x.count(4), 0);
        x.put(1, 1, 0);
        CHECK.is("segments with two columns", x.count(4), 1);
        x.put(0, 0, NONE);
        CHECK.is("segments with two pins in two columns", x.count(4), 1);
        x.put(0, 1, NONE);
        CHECK.is("segments with one column again", x.count(4), 0);
        x.put(1, 1, NONE);
        CHECK.is("net(0, 0), which does not exist now", x.net(0, 0), UNKNOWN);
        CHECK.is("count(1)", x.count(1), 0);
    }

    private static void putKeepsSplit() {
        CHECK.sentence("16: Changes the net of a pin (and no net becomes whole, also if it loses its last pin)");
        ChannelTracks x = Check.channel("aaa/...");
        x.cut(0, true);
        for (int column = 0; column < 3; column++) {
            x.put(column, 0, NONE);
        }
        CHECK.is("count(2) without pins", x.count(2), 0);
        CHECK.is("count(3) without pins", x.count(3), 1);
        for (int column = 0; column < 3; column++) {
            x.put(column, 1, 0);
        }
        CHECK.is("net(0, 3) when it is back", x.net(0, 3), 1);
        CHECK.is("net(0, 4) when it is back", x.net(0, 4), 2);
        x.turn(1);
        CHECK.is("net(0, 3) after turn()", x.net(0, 3), 1);
    }

    private static void turnColumns() {
        CHECK.sentence("17: column: the column; or UNKNOWN");
        ChannelTracks x = busy();
        CHECK.is("turn(0)", x.turn(0), NONE);
        CHECK.is("turn(3)", x.turn(3), 2);
        CHECK.is("pin(0, 1)", x.pin(0, 1), 0);
        CHECK.is("pin(3, 0)", x.pin(3, 0), 2);
        CHECK.is("pin(3, 1)", x.pin(3, 1), NONE);
        CHECK.is("pin(1, 0), not turned", x.pin(1, 0), 1);
        CHECK.refusedFor(BUSY, "turn(?)", (y, c) -> y.turn(c), UNKNOWN, WRONG_COLUMNS);
        CHECK.refusedFor(() -> Check.channel("abcdefab/........"), "turn(?)", (y, c) -> y.turn(c), UNKNOWN, 8, 9, -1);
    }

    private static void turnWithoutChannel() {
        CHECK.sentence("17: UNKNOWN (also if there is no channel)");
        CHECK.refusedFor(ChannelTracks::new, "turn(?)", (x, c) -> x.turn(c), UNKNOWN, 0, 1, 7, -1, MIN, MAX);
    }

    private static void turnNone() {
        CHECK.sentence("17: Returns the net of the top pin then, or NONE");
        ChannelTracks x = Check.channel("ab./.c.");
        CHECK.is("turn(0), a over none", x.turn(0), NONE);
        CHECK.is("turn(0), none over a", x.turn(0), 0);
        CHECK.is("turn(1), b over c", x.turn(1), 2);
        CHECK.is("turn(2), none over none", x.turn(2), NONE);
        CHECK.is("pin(2, 0)", x.pin(2, 0), NONE);
    }

    private static void turnOfOneNet() {
        CHECK.sentence("17: Exchanges the top and bottom pins of a column (of one net)");
        ChannelTracks x = Check.channel("fa/f.");
        CHECK.is("turn(0)", x.turn(0), 5);
        CHECK.is("pin(0, 0)", x.pin(0, 0), 5);
        CHECK.is("pin(0, 1)", x.pin(0, 1), 5);
    }

    private static void changesKeepText() {
        CHECK.sentence("16 to 18: what put(), turn() and cut() do (nothing to the text buffer)");
        ChannelTracks x = busy();
        x.put(0, 0, 5);
        x.turn(1);
        x.cut(0, true);
        CHECK.is("blank()", x.blank(), 3);
    }

    private static void cutNets() {
        CHECK.sentence("18: net: the net, 0 to 5; or UNKNOWN");
        ChannelTracks x = Check.channel("afafaf/......");
        CHECK.is("cut(0, true)", x.cut(0, true), 3);
        CHECK.is("cut(5, true)", x.cut(5, true), 4);
        CHECK.is("net(0, 3)", x.net(0, 3), 1);
        CHECK.is("net(5, 3)", x.net(5, 3), 1);
        // 32 and 37 are 0 and 5 as shifts of an int.
        int[] wrong = {-1, 6, 7, 32, 37, MIN, MAX};
        CHECK.refusedFor(BUSY, "cut(?, true)", (y, net) -> y.cut(net, true), UNKNOWN, wrong);
        CHECK.refusedFor(BUSY, "cut(?, false)", (y, net) -> y.cut(net, false), UNKNOWN, wrong);
    }

    private static void cutWithoutChannel() {
        CHECK.sentence("18: UNKNOWN (also if there is no channel)");
        CHECK.refusedFor(ChannelTracks::new, "cut(?, true)", (x, net) -> x.cut(net, true), UNKNOWN, 0, 5, 6, -1);
        CHECK.refusedFor(ChannelTracks::new, "cut(?, false)", (x, net) -> x.cut(net, false), UNKNOWN, 0, 5, 6, -1);
        ChannelTracks x = new ChannelTracks();
        x.cut(0, true);
        Check.type(x, "aaa/...");
        x.channel();
        CHECK.is("count(3) of the channel read then", x.count(3), 0);
    }

    private static void cutOfNetThatDoesNotExist() {
        CHECK.sentence("18: which need not exist");
        ChannelTracks x = Check.channel("a../...");
        CHECK.is("cut(5, true)", x.cut(5, true), 0);
        CHECK.is("count(3)", x.count(3), 1);
        CHECK.is("cut(5, true) again", x.cut(5, true), STATE);
        for (int column = 0; column < 3; column++) {
            x.put(column, 1, 5);
        }
        CHECK.is("net(5, 3) when it exists", x.net(5, 3), 1);
        CHECK.is("net(5, 4) when it exists", x.net(5, 4), 2);
        CHECK.is("cut(5, false)", x.cut(5, false), 1);
    }

    private static void cutSoAlready() {
        CHECK.sentence("18: STATE if it is so already");
        CHECK.refusedFor(BUSY, "cut(?, false)", (x, net) -> x.cut(net, false), STATE, 0, 2, 3, 5);
        CHECK.refusedFor(BUSY, "cut(?, true)", (x, net) -> x.cut(net, true), STATE, 1, 4);
        ChannelTracks x = busy();
        CHECK.is("cut(0, true)", x.cut(0, true), 3);
        CHECK.is("cut(0, true) again", x.cut(0, true), STATE);
        CHECK.is("cut(0, false)", x.cut(0, false), 3);
        CHECK.is("cut(0, false) again", x.cut(0, false), STATE);
    }

    private static void cutUnknownBeforeState() {
        CHECK.sentence("18: or UNKNOWN, STATE, in this order");
        CHECK.refusedFor(BUSY, "cut(?, false)", (x, net) -> x.cut(net, false), UNKNOWN, -1, 6, MIN, MAX);
        CHECK.refusedFor(ChannelTracks::new, "cut(?, false)", (x, net) -> x.cut(net, false), UNKNOWN, 0, 3, 5);
    }

    private static void cutCountsSegments() {
        CHECK.sentence("18: Returns how many segments there are then");
        ChannelTracks x = Check.channel("aaaaaaaa/bbbbbbbb");
        CHECK.is("cut(0, true)", x.cut(0, true), 8);
        CHECK.is("cut(1, true), the most", x.cut(1, true), 14);
        CHECK.is("cut(0, false)", x.cut(0, false), 8);
        CHECK.is("cut(1, false)", x.cut(1, false), 2);
        CHECK.is("cut() without segments", Check.channel("ab/ab").cut(0, true), 0);
        CHECK.is("cut() of a net of two columns", Check.channel("aa/..").cut(0, true), 1);
    }
}
