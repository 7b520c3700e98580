import java.util.function.Supplier;

/** The boundary cases that the document names in the promises 8 to 15, a method for each sentence. */
public final class BoundaryChannelTest {
    private static final Check CHECK = new Check("BoundaryChannelTest");
    private static final int NONE = -1, UNKNOWN = -101, OUTSIDE = -102, STATE = -103;
    private static final int MIN = Integer.MIN_VALUE, MAX = Integer.MAX_VALUE;
    private static final int[] WRONG_COLUMNS = {-1, 4, 5, 8, 16, MIN, MAX};
    private static final int[] WRONG_SEGMENTS = {-1, 3, 4, 14, 32, MIN, MAX};

    public static void main(String[] args) {
        aboutWhat();
        aboutWithoutChannel();
        aboutOutsideBeforeState();
        aboutChainWithCycle();
        aboutCycleIfNone();
        aboutBreakingSetIfNone();
        aboutValid();
        pinColumns();
        pinWithoutChannel();
        pinSides();
        pinOfNone();
        pinUnknownBeforeOutside();
        netNumbers();
        netThatDoesNotExist();
        netWhat();
        netUnknownBeforeOutside();
        netColumns();
        netSplit();
        netSegments();
        segmentNumbers();
        segmentWithoutSegments();
        segmentWhat();
        segmentUnknownBeforeOutside();
        segmentTrack();
        segmentConstraints();
        segmentLevel();
        aboveNumbers();
        aboveItself();
        mayNumbers();
        mayOverlap();
        mayOfSequences();
        mayItself();
        ringPlaces();
        ringWithoutCycle();
        zoneNumbers();
        zoneWithoutZones();
        CHECK.finish();
    }

    // Four columns and three segments, c above b above a; two have tracks, and e is split.
    private static ChannelTracks busy() {
        ChannelTracks x = Check.channel("abc./.abc");
        x.cut(4, true);
        x.set(0, 2);
        x.set(1, 1);
        Check.type(x, "pac");
        return x;
    }

    private static ChannelTracks cyclic() {
        ChannelTracks x = Check.channel("abcc/ba..");
        x.set(2, 13);
        return x;
    }

    private static void aboutWhat() {
        CHECK.sentence("8: what: 0 .. 9; or OUTSIDE");
        int[] wants = {4, 3, 2, 3, 0, 0, 2, 3, 0, 0};
        for (int what = 0; what <= 9; what++) {
            CHECK.is("about(" + what + ")", busy().about(what), wants[what]);
        }
        CHECK.refusedFor(BoundaryChannelTest::busy, "about(?)", (x, what) -> x.about(what), OUTSIDE, -1, 10, MIN, MAX);
    }

    private static void aboutWithoutChannel() {
        CHECK.sentence("8: STATE if there is no channel");
        for (int what = 0; what <= 9; what++) {
            int asked = what;
            CHECK.refused(ChannelTracks::new, "about(" + what + ")", x -> x.about(asked), STATE);
            CHECK.refused(() -> Check.typed("ab/ba"), "about(" + what + ")", x -> x.about(asked), STATE);
        }
    }

    private static void aboutOutsideBeforeState() {
        CHECK.sentence("8: or OUTSIDE, STATE, in this order");
        CHECK.refusedFor(ChannelTracks::new, "about(?)", (x, what) -> x.about(what), OUTSIDE, -1, 10, MIN, MAX);
    }

    private static void aboutChainWithCycle() {
        CHECK.sentence("8: 3 the chain (NONE if there is a cycle)");
        CHECK.is("about(3) with a cycle", cyclic().about(3), NONE);
        CHECK.is("about(3) without one", busy().about(3), 3);
        CHECK.is("about(3) without segments", Check.channel("../..").about(3), 0);
    }

    private static void aboutCycleIfNone() {
        CHECK.sentence("8: 4 the number of segments in the cycle (0 if there is none)");
        CHECK.is("about(4) with a cycle", cyclic().about(4), 2);
        CHECK.is("about(4) without one", busy().about(4), 0);
        CHECK.is("about(4) without segments", Check.channel("../..").about(4), 0);
        ChannelTracks x = cyclic();
        x.turn(0);
        CHECK.is("about(4) when it is gone", x.about(4), 0);
    }

    private static void aboutBreakingSetIfNone() {
        CHECK.sentence("8: 5 the breaking set, or NONE if there is none");
        CHECK.is("about(5) that is none", cyclic().about(5), NONE);
        CHECK.is("about(5) that is empty", busy().about(5), 0);
        CHECK.is("about(5) of one net", Check.channel("a.b/baa").about(5), 1);
        CHECK.refused(BoundaryChannelTest::cyclic, "about(5)", x -> x.about(5), NONE);
        CHECK.refused(() -> Check.channel("a.b/baa"), "about(5)", x -> x.about(5), 1);
    }

    private static void aboutValid() {
        CHECK.sentence("8: 8 1 if the plan is valid, else 0");
        ChannelTracks x = busy();
        CHECK.is("about(8) with a segment without a track", x.about(8), 0);
        x.set(2, 0);
        CHECK.is("about(8)", x.about(8), 1);
        CHECK.is("about(8) without segments", Check.channel("../..").about(8), 1);
    }

    private static void pinColumns() {
        CHECK.sentence("9: column: the column; or UNKNOWN");
        CHECK.is("pin(0, 0)", busy().pin(0, 0), 0);
        CHECK.is("pin(3, 1)", busy().pin(3, 1), 2);
        CHECK.refusedFor(BoundaryChannelTest::busy, "pin(?, 0)", (x, c) -> x.pin(c, 0), UNKNOWN, WRONG_COLUMNS);
        CHECK.refusedFor(BoundaryChannelTest::busy, "pin(?, 1)", (x, c) -> x.pin(c, 1), UNKNOWN, WRONG_COLUMNS);
        ChannelTracks x = Check.channel("abcdefab/abcdefab");
        CHECK.is("pin(7, 0) of 8", x.pin(7, 0), 1);
        CHECK.is("pin(8, 0) of 8", x.pin(8, 0), UNKNOWN);
    }

    private static void pinWithoutChannel() {
        CHECK.sentence("9: UNKNOWN (also if there is no channel)");
        CHECK.refusedFor(ChannelTracks::new, "pin(?, 0)", (x, c) -> x.pin(c, 0), UNKNOWN, 0, 1, 7, -1, MIN, MAX);
        CHECK.refusedFor(ChannelTracks::new, "pin(0, ?)", (x, side) -> x.pin(0, side), UNKNOWN, 0, 1, 2, -1);
    }

    private static void pinSides() {
        CHECK.sentence("9: side: 0 for the top pin, 1 for the bottom pin; or OUTSIDE");
        CHECK.is("pin(1, 0)", busy().pin(1, 0), 1);
        CHECK.is("pin(1, 1)", busy().pin(1, 1), 0);
        CHECK.refusedFor(BoundaryChannelTest::busy, "pin(0, ?)", (x, side) -> x.pin(0, side), OUTSIDE, -1, 2, MIN, MAX);
        CHECK.refusedFor(BoundaryChannelTest::busy, "pin(3, ?)", (x, side) -> x.pin(3, side), OUTSIDE, -1, 2, MIN, MAX);
    }

    private static void pinOfNone() {
        CHECK.sentence("9: Returns the net, or NONE");
        CHECK.is("pin(3, 0)", busy().pin(3, 0), NONE);
        CHECK.is("pin(0, 1)", busy().pin(0, 1), NONE);
    }

    private static void pinUnknownBeforeOutside() {
        CHECK.sentence("9: or UNKNOWN, OUTSIDE, in this order");
        for (int side : new int[] {-1, 2, MIN, MAX}) {
            CHECK.refusedFor(BoundaryChannelTest::busy, "pin(?, " + side + ")", (x, c) -> x.pin(c, side), UNKNOWN,
                WRONG_COLUMNS);
            CHECK.refused(ChannelTracks::new, "pin(0, " + side + ")", x -> x.pin(0, side), UNKNOWN);
        }
    }

    private static void netNumbers() {
        CHECK.sentence("10: net: the net; or UNKNOWN");
        ChannelTracks x = Check.channel("af/fa");
        CHECK.is("net(0, 0)", x.net(0, 0), 2);
        CHECK.is("net(5, 0)", x.net(5, 0), 2);
        // 32 and 37 are 0 and 5 as shifts of an int.
        CHECK.refusedFor(() -> Check.channel("af/fa"), "net(?, 0)", (y, net) -> y.net(net, 0), UNKNOWN,
            -1, 6, 7, 32, 37, MIN, MAX);
        // Pins of none are no net's.
        CHECK.refusedFor(() -> Check.channel("../.."), "net(?, 0)", (y, net) -> y.net(net, 0), UNKNOWN, -1, 0, 5, 6);
    }

    private static void netThatDoesNotExist() {
        CHECK.sentence("10: or UNKNOWN if the net does not exist");
        CHECK.refusedFor(BoundaryChannelTest::busy, "net(?, 0)", (x, net) -> x.net(net, 0), UNKNOWN, 3, 4, 5);
        CHECK.refusedFor(BoundaryChannelTest::busy, "net(?, 3)", (x, net) -> x.net(net, 3), UNKNOWN, 3, 4, 5);
        CHECK.refusedFor(ChannelTracks::new, "net(?, 0)", (x, net) -> x.net(net, 0), UNKNOWN, 0, 5, 6, -1, MIN, MAX);
        ChannelTracks x = Check.channel("ab/..");
        x.put(1, 0, NONE);
        CHECK.is("net(1, 0) when its pin is gone", x.net(1, 0), UNKNOWN);
        x.put(0, 1, 1);
        CHECK.is("net(1, 0) when it is back", x.net(1, 0), 1);
    }

    private static void netWhat() {
        CHECK.sentence("10: what: 0 .. 4; or OUTSIDE");
        int[] wants = {2, 1, 2, 0, 1};
        for (int what = 0; what <= 4; what++) {
            CHECK.is("net(1, " + what + ")", busy().net(1, what), wants[what]);
        }
        CHECK.refusedFor(BoundaryChannelTest::busy, "net(1, ?)", (x, what) -> x.net(1, what), OUTSIDE, -1, 5, MIN, MAX);
    }

    private static void netUnknownBeforeOutside() {
        CHECK.sentence("10: or UNKNOWN if the net does not exist, OUTSIDE, in this order");
        for (int what : new int[] {-1, 5, MIN, MAX}) {
            CHECK.refusedFor(BoundaryChannelTest::busy, "net(?, " + what + ")", (x, net) -> x.net(net, what), UNKNOWN,
                3, 5, 6, -1, MIN, MAX);
            CHECK.refused(ChannelTracks::new, "net(0, " + what + ")", x -> x.net(0, what), UNKNOWN);
        }
    }

    private static void netColumns() {
        CHECK.sentence("10: 1 the first column in which it has one, 2 the last such column");
        ChannelTracks x = Check.channel("ab....cd/........");
        CHECK.is("net(0, 1) at the first column", x.net(0, 1), 0);
        CHECK.is("net(0, 2) at the first column", x.net(0, 2), 0);
        CHECK.is("net(3, 1) at the last column", x.net(3, 1), 7);
        CHECK.is("net(3, 2) at the last column", x.net(3, 2), 7);
        x.put(7, 1, 0);
        CHECK.is("net(0, 1) at both", x.net(0, 1), 0);
        CHECK.is("net(0, 2) at both", x.net(0, 2), 7);
        CHECK.is("net(0, 0), the most pins", Check.channel("aaaaaaaa/aaaaaaaa").net(0, 0), 16);
    }

    private static void netSplit() {
        CHECK.sentence("10: 3 1 if it is split, else 0");
        ChannelTracks x = Check.channel("ab/..");
        CHECK.is("net(0, 3) of a whole one", x.net(0, 3), 0);
        x.cut(0, true);
        CHECK.is("net(0, 3) of a split one without segments", x.net(0, 3), 1);
        CHECK.is("net(1, 3) beside it", x.net(1, 3), 0);
    }

    private static void netSegments() {
        CHECK.sentence("10: 4 the number of its segments");
        ChannelTracks x = Check.channel("aaaaaaaa/b......c");
        CHECK.is("net(0, 4), whole", x.net(0, 4), 1);
        x.cut(0, true);
        CHECK.is("net(0, 4), split", x.net(0, 4), 7);
        CHECK.is("net(1, 4), in one column", x.net(1, 4), 0);
    }

    private static void segmentNumbers() {
        CHECK.sentence("11: segment: the segment; or UNKNOWN");
        CHECK.is("segment(0, 0)", busy().segment(0, 0), 0);
        CHECK.is("segment(2, 0)", busy().segment(2, 0), 2);
        CHECK.refusedFor(BoundaryChannelTest::busy, "segment(?, 0)", (x, s) -> x.segment(s, 0), UNKNOWN,
            WRONG_SEGMENTS);
        ChannelTracks x = Check.channel("aaaaaaaa/bbbbbbbb");
        x.cut(0, true);
        x.cut(1, true);
        CHECK.is("segment(13, 2) of 14", x.segment(13, 2), 7);
        CHECK.is("segment(14, 2) of 14", x.segment(14, 2), UNKNOWN);
        x.cut(0, false);
        CHECK.is("segment(7, 1) of 8", x.segment(7, 1), 6);
        CHECK.is("segment(8, 1) of 8", x.segment(8, 1), UNKNOWN);
    }

    private static void segmentWithoutSegments() {
        CHECK.sentence("11: or UNKNOWN (no channel, no segments)");
        CHECK.refusedFor(ChannelTracks::new, "segment(?, 0)", (x, s) -> x.segment(s, 0), UNKNOWN, 0, -1, MIN, MAX);
        CHECK.refusedFor(() -> Check.channel("ab/ab"), "segment(?, 0)", (x, s) -> x.segment(s, 0), UNKNOWN, 0, -1, MAX);
    }

    private static void segmentWhat() {
        CHECK.sentence("11: what: 0 .. 6; or OUTSIDE");
        int[] wants = {1, 1, 2, 1, 1, 1, 1};
        for (int what = 0; what <= 6; what++) {
            CHECK.is("segment(1, " + what + ")", busy().segment(1, what), wants[what]);
        }
        CHECK.refusedFor(BoundaryChannelTest::busy, "segment(1, ?)", (x, what) -> x.segment(1, what), OUTSIDE,
            -1, 7, MIN, MAX);
    }

    private static void segmentUnknownBeforeOutside() {
        CHECK.sentence("11: or UNKNOWN, OUTSIDE, in this order");
        for (int what : new int[] {-1, 7, MIN, MAX}) {
            CHECK.refusedFor(BoundaryChannelTest::busy, "segment(?, " + what + ")", (x, s) -> x.segment(s, what), UNKNOWN,
                WRONG_SEGMENTS);
            CHECK.refused(ChannelTracks::new, "segment(0, " + what + ")", x -> x.segment(0, what), UNKNOWN);
        }
    }

    private static void segmentTrack() {
        CHECK.sentence("11: 3 its track, or NONE");
        ChannelTracks x = busy();
        CHECK.is("segment(2, 3)", x.segment(2, 3), NONE);
        x.set(2, 0);
        CHECK.is("segment(2, 3) on the first track", x.segment(2, 3), 0);
        x.set(2, 13);
        CHECK.is("segment(2, 3) on the last track", x.segment(2, 3), 13);
    }

    private static void segmentConstraints() {
        CHECK.sentence("11: 4 how many segments it must be above, 5 how many must be above it");
        ChannelTracks x = busy();
        int[][] wants = {{0, 1}, {1, 1}, {1, 0}};
        for (int s = 0; s < 3; s++) {
            CHECK.is("segment(" + s + ", 4)", x.segment(s, 4), wants[s][0]);
            CHECK.is("segment(" + s + ", 5)", x.segment(s, 5), wants[s][1]);
        }
        x = Check.channel("aaaaa.../bcdefbcd");
        CHECK.is("segment(0, 4) above three", x.segment(0, 4), 3);
        x = Check.channel("aaaaaaaa/bbbbbbbb");
        x.cut(1, true);
        CHECK.is("segment(0, 4) above seven pieces", x.segment(0, 4), 7);
        CHECK.is("segment(7, 5) below one", x.segment(7, 5), 1);
    }

    private static void segmentLevel() {
        CHECK.sentence("11: 6 its level (NONE if there is a cycle)");
        CHECK.is("segment(2, 6), with none above it", busy().segment(2, 6), 0);
        CHECK.is("segment(0, 6)", busy().segment(0, 6), 2);
        for (int s = 0; s < 3; s++) {
            CHECK.is("segment(" + s + ", 6) with a cycle", cyclic().segment(s, 6), NONE);
        }
    }

    private static void aboveNumbers() {
        CHECK.sentence("12: Returns 1 if it must, else 0; or UNKNOWN");
        CHECK.is("above(2, 1)", busy().above(2, 1), 1);
        CHECK.is("above(1, 2)", busy().above(1, 2), 0);
        CHECK.is("above(2, 0), with b between", busy().above(2, 0), 0);
        CHECK.refusedFor(BoundaryChannelTest::busy, "above(?, 0)", (x, s) -> x.above(s, 0), UNKNOWN, WRONG_SEGMENTS);
        CHECK.refusedFor(BoundaryChannelTest::busy, "above(2, ?)", (x, s) -> x.above(2, s), UNKNOWN, WRONG_SEGMENTS);
        CHECK.refusedFor(BoundaryChannelTest::busy, "above(?, ?)", (x, s) -> x.above(s, s), UNKNOWN, WRONG_SEGMENTS);
        CHECK.refused(ChannelTracks::new, "above(0, 0)", x -> x.above(0, 0), UNKNOWN);
        CHECK.refused(() -> Check.channel("ab/ab"), "above(0, 1)", x -> x.above(0, 1), UNKNOWN);
    }

    private static void aboveItself() {
        CHECK.sentence("12: Tells whether a segment must be above another one (not itself)");
        CHECK.is("above(0, 0)", busy().above(0, 0), 0);
        CHECK.is("above(0, 0) on a cycle", cyclic().above(0, 0), 0);
        CHECK.is("above(0, 0) with its net on top and bottom", Check.channel("aa/aa").above(0, 0), 0);
    }

    private static void mayNumbers() {
        CHECK.sentence("13: Returns 1 if they may, else 0; or UNKNOWN");
        CHECK.refusedFor(BoundaryChannelTest::busy, "may(?, 0)", (x, s) -> x.may(s, 0), UNKNOWN, WRONG_SEGMENTS);
        CHECK.refusedFor(BoundaryChannelTest::busy, "may(2, ?)", (x, s) -> x.may(2, s), UNKNOWN, WRONG_SEGMENTS);
        CHECK.refusedFor(BoundaryChannelTest::busy, "may(?, ?)", (x, s) -> x.may(s, s), UNKNOWN, WRONG_SEGMENTS);
        CHECK.refused(ChannelTracks::new, "may(0, 0)", x -> x.may(0, 0), UNKNOWN);
        CHECK.refused(() -> Check.channel("ab/ab"), "may(0, 0)", x -> x.may(0, 0), UNKNOWN);
    }

    private static void both(ChannelTracks x, String name, int one, int other, int want) {
        CHECK.is(name + ": may(" + one + ", " + other + ")", x.may(one, other), want);
        CHECK.is(name + ": may(" + other + ", " + one + ")", x.may(other, one), want);
    }

    private static void mayOverlap() {
        CHECK.sentence("13: they do not overlap");
        both(Check.channel("ab../..ab"), "two that overlap", 0, 1, 0);
        both(Check.channel("aabb/...."), "neighbours", 0, 1, 1);
        ChannelTracks x = Check.channel("aaa/...");
        x.cut(0, true);
        both(x, "two of one net", 0, 1, 1);
    }

    private static void mayOfSequences() {
        CHECK.sentence("13: there is no sequence of two or more segments .. from one of both to the other one");
        both(busy(), "three in a sequence", 0, 2, 0);
        both(Check.channel("abcd./.abcd"), "four in a sequence", 0, 3, 0);
        // Two ways from or to a third segment are no way from one to the other.
        both(Check.channel("ab.bc/.a.cc"), "both below b", 0, 2, 1);
        both(Check.channel("aa.cc/.b.b."), "both above b", 0, 2, 1);
        ChannelTracks x = Check.channel("a.b/baa");
        x.cut(0, true);
        both(x, "two of one net in a sequence", 0, 1, 0);
        both(cyclic(), "one beside a cycle", 0, 2, 1);
        x = Check.channel("abcc/baa.");
        both(x, "one above a cycle", 1, 2, 0);
    }

    private static void mayItself() {
        CHECK.sentence("13: For a segment and itself .. no such sequence leads from it back to it");
        CHECK.is("may(1, 1)", busy().may(1, 1), 1);
        CHECK.is("may(0, 0) on a cycle", cyclic().may(0, 0), 0);
        CHECK.is("may(1, 1) on a cycle", cyclic().may(1, 1), 0);
        CHECK.is("may(2, 2) beside a cycle", cyclic().may(2, 2), 1);
        ChannelTracks x = Check.channel("abcc/baa.");
        CHECK.is("may(2, 2) above a cycle", x.may(2, 2), 1);
        x = Check.channel("abcdef/bcdefa");
        CHECK.is("may(3, 3) on a cycle of six", x.may(3, 3), 0);
    }

    private static void ringPlaces() {
        CHECK.sentence("14: place: the index in the cycle, from 0 on; or UNKNOWN if there is no such one");
        CHECK.is("ring(0)", cyclic().ring(0), 0);
        CHECK.is("ring(1)", cyclic().ring(1), 1);
        CHECK.refusedFor(BoundaryChannelTest::cyclic, "ring(?)", (x, place) -> x.ring(place), UNKNOWN,
            -1, 2, 3, 14, MIN, MAX);
        Supplier<ChannelTracks> six = () -> Check.channel("abcdef/bcdefa");
        CHECK.is("ring(5) of 6", six.get().ring(5), 5);
        CHECK.refusedFor(six, "ring(?)", (x, place) -> x.ring(place), UNKNOWN, -1, 6, MIN, MAX);
    }

    private static void ringWithoutCycle() {
        CHECK.sentence("14: or UNKNOWN if there is no such one, or no channel");
        CHECK.refusedFor(ChannelTracks::new, "ring(?)", (x, place) -> x.ring(place), UNKNOWN, 0, 1, -1, MIN, MAX);
        CHECK.refusedFor(BoundaryChannelTest::busy, "ring(?)", (x, place) -> x.ring(place), UNKNOWN, 0, 1, -1, MAX);
        ChannelTracks x = cyclic();
        x.put(0, 1, NONE);
        CHECK.is("ring(0) when the cycle is gone", x.ring(0), UNKNOWN);
    }

    private static void zoneNumbers() {
        CHECK.sentence("15: zone: the number of the zone; or UNKNOWN if there is no such zone");
        CHECK.is("zone(0)", busy().zone(0), 3);
        CHECK.is("zone(1)", busy().zone(1), 6);
        CHECK.refusedFor(BoundaryChannelTest::busy, "zone(?)", (x, zone) -> x.zone(zone), UNKNOWN,
            -1, 2, 3, 8, MIN, MAX);
    }

    private static void zoneWithoutZones() {
        CHECK.sentence("15: or UNKNOWN if there is no such zone, or no channel");
        CHECK.refusedFor(ChannelTracks::new, "zone(?)", (x, zone) -> x.zone(zone), UNKNOWN, 0, 1, -1, MIN, MAX);
        CHECK.refusedFor(() -> Check.channel("ab/ab"), "zone(?)", (x, zone) -> x.zone(zone), UNKNOWN, 0, 1, -1, MAX);
        ChannelTracks x = Check.channel("aa/..");
        x.put(0, 0, NONE);
        CHECK.is("zone(0) when it is gone", x.zone(0), UNKNOWN);
    }
}
