import java.util.function.Supplier;

/** The boundary cases that the document names in the promises 19 to 23, a method for each sentence. */
public final class BoundaryPlansTest {
    private static final Check CHECK = new Check("BoundaryPlansTest");
    private static final int NONE = -1, UNKNOWN = -101, OUTSIDE = -102, STATE = -103;
    private static final int MIN = Integer.MIN_VALUE, MAX = Integer.MAX_VALUE;
    private static final int[] WRONG_SEGMENTS = {-1, 3, 4, 14, MIN, MAX};

    public static void main(String[] args) {
        setSegments();
        setWithoutSegments();
        setTracks();
        setUnknownBeforeOutside();
        setPrevious();
        clearCounts();
        clearWithoutChannel();
        plansKeepText();
        packWithoutChannel();
        packWithCycle();
        packAfterCycle();
        packWithoutSegments();
        packTakesTracksAway();
        packDoesNotOverlap();
        packBelowSmallerTracks();
        packFromTheLeft();
        packOfMostSegments();
        packAfterMoreSegments();
        bestWithoutChannel();
        bestWithCycle();
        bestOfEightSegments();
        bestOfNineSegments();
        bestTwentyTimes();
        bestTwentyTimesBySay();
        bestRefusedIsNotDone();
        bestStaysDone();
        bestWithoutSegments();
        bestSmallestDepth();
        bestSmallestTracks();
        cellTracks();
        cellColumns();
        cellWithoutChannel();
        cellLayers();
        cellUnknownBeforeOutside();
        cellLowestOrNone();
        CHECK.finish();
    }

    // Four columns and three segments, c above b above a; two have tracks, and e is split.
    private static ChannelTracks busy() {
        ChannelTracks x = Check.channel("abc./.abc");
        x.cut(4, true);
        x.set(0, 2);
        x.set(1, 1);
        Check.type(x, "pac");
        return x;
    }

    private static ChannelTracks cyclic() {
        ChannelTracks x = Check.channel("abcc/ba..");
        x.set(0, 3);
        x.set(2, 0);
        return x;
    }

    private static final Supplier<ChannelTracks> BUSY = BoundaryPlansTest::busy;
    private static final Supplier<ChannelTracks> CYCLIC = BoundaryPlansTest::cyclic;

    private static void tracksAre(ChannelTracks x, String name, String want) {
        CHECK.that(name + ": tracks " + Check.tracks(x) + ", due are " + want, Check.tracks(x).equals(want));
    }

    private static void setSegments() {
        CHECK.sentence("19: segment: the segment; or UNKNOWN");
        ChannelTracks x = busy();
        CHECK.is("set(0, 5)", x.set(0, 5), 2);
        CHECK.is("set(2, 6)", x.set(2, 6), NONE);
        tracksAre(x, "set", "5 1 6");
        CHECK.refusedFor(BUSY, "set(?, 0)", (y, s) -> y.set(s, 0), UNKNOWN, WRONG_SEGMENTS);
        CHECK.refusedFor(BUSY, "set(?, NONE)", (y, s) -> y.set(s, NONE), UNKNOWN, WRONG_SEGMENTS);
    }

    private static void setWithoutSegments() {
        CHECK.sentence("19: or UNKNOWN (no channel, no segments)");
        CHECK.refusedFor(ChannelTracks::new, "set(?, 0)", (x, s) -> x.set(s, 0), UNKNOWN, 0, 1, -1, MIN, MAX);
        CHECK.refusedFor(() -> Check.channel("ab/ab"), "set(?, 0)", (x, s) -> x.set(s, 0), UNKNOWN, 0, 1, -1);
        ChannelTracks x = Check.channel("aaaaaaaa/bbbbbbbb");
        x.cut(0, true);
        x.cut(1, true);
        CHECK.is("set(13, 13) of 14", x.set(13, 13), NONE);
        CHECK.is("set(14, 13) of 14", x.set(14, 13), UNKNOWN);
    }

    private static void setTracks() {
        CHECK.sentence("19: track: the track, 0 to 13, or NONE; or OUTSIDE");
        ChannelTracks x = busy();
        int previous = NONE;
        for (int track = -1; track <= 13; track++) {
            CHECK.is("set(2, " + track + ")", x.set(2, track), previous);
            CHECK.is("segment(2, 3)", x.segment(2, 3), track);
            previous = track;
        }
        CHECK.refusedFor(BUSY, "set(0, ?)", (y, track) -> y.set(0, track), OUTSIDE, -2, 14, 15, UNKNOWN, MIN, MAX);
        CHECK.refusedFor(BUSY, "set(2, ?)", (y, track) -> y.set(2, track), OUTSIDE, -2, 14, MIN, MAX);
    }

    private static void setUnknownBeforeOutside() {
        CHECK.sentence("19: or UNKNOWN, OUTSIDE, in this order");
        for (int track : new int[] {-2, 14, MIN, MAX}) {
            CHECK.refusedFor(BUSY, "set(?, " + track + ")", (x, s) -> x.set(s, track), UNKNOWN, WRONG_SEGMENTS);
            CHECK.refused(ChannelTracks::new, "set(0, " + track + ")", x -> x.set(0, track), UNKNOWN);
        }
    }

    private static void setPrevious() {
        CHECK.sentence("19: Returns its previous track, or NONE");
        ChannelTracks x = busy();
        CHECK.is("set() of one without a track", x.set(2, 0), NONE);
        CHECK.is("set() of one on track 0", x.set(2, 0), 0);
        CHECK.is("set() of none on track 0", x.set(2, NONE), 0);
        CHECK.is("set() of none on none", x.set(2, NONE), NONE);
        tracksAre(x, "the others", "2 1 -");
    }

    private static void clearCounts() {
        CHECK.sentence("20: Returns how many segments had one");
        ChannelTracks x = busy();
        CHECK.is("clear() of two", x.clear(), 2);
        tracksAre(x, "cleared", "- - -");
        CHECK.is("clear() of none", x.clear(), 0);
        x.set(0, 0);
        CHECK.is("clear() of one on track 0", x.clear(), 1);
        CHECK.is("clear() without segments", Check.channel("../..").clear(), 0);
        x = Check.channel("aaaaaaaa/bbbbbbbb");
        x.cut(0, true);
        x.cut(1, true);
        x.pack();
        CHECK.is("clear() of 14", x.clear(), 14);
        CHECK.is("clear() with a cycle", cyclic().clear(), 2);
    }

    private static void clearWithoutChannel() {
        CHECK.sentence("20: or STATE if there is no channel");
        CHECK.refused(ChannelTracks::new, "clear()", x -> x.clear(), STATE);
        CHECK.refused(() -> Check.typed("ab/ba"), "clear()", x -> x.clear(), STATE);
    }

    private static void plansKeepText() {
        CHECK.sentence("19 to 22: what set(), clear(), pack() and best() do (nothing to the text buffer)");
        ChannelTracks x = busy();
        x.set(0, 0);
        x.clear();
        x.pack();
        x.best();
        CHECK.is("count(6)", x.count(6), 3);
        x.letter('k');
        CHECK.is("say() of the text that was left", x.say(), 3);
    }

    private static void packWithoutChannel() {
        CHECK.sentence("21: or STATE if there is no channel");
        CHECK.refused(ChannelTracks::new, "pack()", x -> x.pack(), STATE);
        CHECK.refused(() -> Check.typed("ab/ba"), "pack()", x -> x.pack(), STATE);
    }

    private static void packWithCycle() {
        CHECK.sentence("21: or STATE if .. there is a cycle");
        CHECK.refused(CYCLIC, "pack()", x -> x.pack(), STATE);
        CHECK.refused(() -> Check.channel("abcdef/bcdefa"), "pack() with a cycle of six", x -> x.pack(), STATE);
    }

    private static void packAfterCycle() {
        CHECK.sentence("21: STATE if .. there is a cycle (and not if there was one)");
        ChannelTracks x = Check.channel("a.b/baa");
        CHECK.is("pack()", x.pack(), STATE);
        x.cut(0, true);
        CHECK.is("pack() when a is split", x.pack(), 3);
        x.cut(0, false);
        CHECK.is("pack() when a is whole", x.pack(), STATE);
    }

    private static void packWithoutSegments() {
        CHECK.sentence("21: Returns the depth then (0 if no segment has a track)");
        CHECK.is("pack()", Check.channel("../..").pack(), 0);
        CHECK.is("pack() of nets of one column", Check.channel("ab/ab").pack(), 0);
        CHECK.is("pack() of one segment", Check.channel("aa/..").pack(), 1);
    }

    private static void packTakesTracksAway() {
        CHECK.sentence("21: All tracks are taken away");
        ChannelTracks x = busy();
        x.set(0, 0);
        x.set(1, 13);
        x.set(2, 13);
        CHECK.is("pack()", x.pack(), 3);
        tracksAre(x, "packed", "2 1 0");
        CHECK.is("pack() again", x.pack(), 3);
        tracksAre(x, "packed again", "2 1 0");
    }

    private static void packed(String channel, String want) {
        ChannelTracks x = Check.channel(channel);
        x.pack();
        tracksAre(x, channel, want);
    }

    private static void packDoesNotOverlap() {
        CHECK.sentence("21: that do not overlap a segment on the present track");
        packed("aabb/....", "0 0");
        packed("abab/....", "0 1");
        packed("ab.ab/.....", "0 1");
        packed("abba/....", "0 1");
        ChannelTracks x = Check.channel("aaa/...");
        x.cut(0, true);
        CHECK.is("pack() of two pieces of one net", x.pack(), 1);
        tracksAre(x, "two pieces of one net", "0 0");
    }

    private static void packBelowSmallerTracks() {
        CHECK.sentence("21: for which all segments that must be above them have smaller tracks than the present one");
        packed("aa/bb", "0 1");
        packed("bb/aa", "1 0");
        packed("abc./.abc", "2 1 0");
        // a waits for b, which waits for c, though track 0 is free at the columns of a.
        packed("ab.c.c/.a.b..", "2 1 0");
        // a must be below two; the lower of them decides.
        packed("b.cbc./aa.cad", "2 0 1");
    }

    private static void packFromTheLeft() {
        CHECK.sentence("21: the one with the smallest first column .. gets the present track");
        packed("bbaa/....", "0 0");
        packed("ba../..ba", "1 0");
        packed("cbcab.a/.......", "0 1 0");
        packed("ab.abcc/.......", "0 1 0");
    }

    private static void packOfMostSegments() {
        CHECK.sentence("21: from 0 on, until each segment has one");
        ChannelTracks x = Check.channel("aaaaaaaa/bbbbbbbb");
        x.cut(0, true);
        x.cut(1, true);
        CHECK.is("pack() of 14", x.pack(), 2);
        CHECK.is("count(5)", x.count(5), 14);
        tracksAre(x, "14 segments", "0 0 0 0 0 0 0 1 1 1 1 1 1 1");
        x = Check.channel("abcdef../.abcdeff");
        CHECK.is("pack() of a chain of six", x.pack(), 6);
    }

    private static void packAfterMoreSegments() {
        CHECK.sentence("21: of all segments without a track .. (those that there were before are none)");
        ChannelTracks x = Check.channel("bbbbbbbb/aaaaaaaa");
        x.cut(0, true);
        x.cut(1, true);
        CHECK.is("pack() of 14", x.pack(), 2);
        x.cut(0, false);
        x.cut(1, false);
        CHECK.is("pack() of 2 then", x.pack(), 2);
        tracksAre(x, "2 segments", "1 0");
        CHECK.is("best() of 2 then", x.best(), 2);
        tracksAre(x, "2 segments", "1 0");
        x.cut(0, true);
        x.cut(1, true);
        Check.type(x, "bbaa/....");
        x.channel();
        CHECK.is("pack() of another channel", x.pack(), 1);
        tracksAre(x, "another channel", "0 0");
    }

    private static void bestWithoutChannel() {
        CHECK.sentence("22: or STATE if there is no channel");
        CHECK.refused(ChannelTracks::new, "best()", x -> x.best(), STATE);
        CHECK.refused(() -> Check.typed("ab/ba"), "best()", x -> x.best(), STATE);
    }

    private static void bestWithCycle() {
        CHECK.sentence("22: or STATE if .. there is a cycle");
        CHECK.refused(CYCLIC, "best()", x -> x.best(), STATE);
        ChannelTracks x = Check.channel("a.b/baa");
        CHECK.is("best()", x.best(), STATE);
        x.cut(0, true);
        CHECK.is("best() when a is split", x.best(), 3);
    }

    // a has 7 pieces, and b one or two.
    private static ChannelTracks pieces(boolean nine) {
        ChannelTracks x = Check.channel("aaaaaaaa/bbb.....");
        x.cut(0, true);
        if (nine) {
            x.cut(1, true);
        }
        x.set(0, 4);
        return x;
    }

    private static void bestOfEightSegments() {
        CHECK.sentence("22: there are more than 8 segments (8 are not)");
        ChannelTracks x = pieces(false);
        CHECK.is("segments", x.count(4), 8);
        CHECK.is("best()", x.best(), 2);
        tracksAre(x, "best of 8", "0 0 0 0 0 0 0 1");
        x = Check.channel("adbefcce/eefadcbd");
        x.cut(2, true);
        x.cut(4, true);
        x.cut(5, true);
        CHECK.is("segments of the deepest", x.count(4), 8);
        CHECK.is("best() of the deepest", x.best(), 8);
        CHECK.is("about(8) of the deepest", x.about(8), 1);
    }

    private static void bestOfNineSegments() {
        CHECK.sentence("22: or STATE if .. there are more than 8 segments");
        CHECK.is("segments", pieces(true).count(4), 9);
        CHECK.refused(() -> pieces(true), "best()", x -> x.best(), STATE);
        ChannelTracks x = pieces(true);
        CHECK.is("best() of 9", x.best(), STATE);
        x.cut(1, false);
        CHECK.is("best() of 8 then", x.best(), 2);
    }

    private static void bestTwentyTimes() {
        CHECK.sentence("22: This can be done 20 times with one object");
        ChannelTracks x = Check.channel("ba../..ba");
        for (int time = 1; time <= 20; time++) {
            x.clear();
            CHECK.is("best(), time " + time, x.best(), 2);
        }
        CHECK.is("count(8)", x.count(8), 20);
        Supplier<ChannelTracks> used = () -> {
            ChannelTracks y = Check.channel("ba../..ba");
            for (int time = 1; time <= 20; time++) {
                y.best();
            }
            y.pack();
            return y;
        };
        CHECK.refused(used, "best(), time 21", y -> y.best(), STATE);
        CHECK.is("pack() then", used.get().pack(), 2);
    }

    private static void bestTwentyTimesBySay() {
        CHECK.sentence("22: also by say()");
        ChannelTracks x = Check.channel("ba../..ba");
        for (int time = 1; time <= 20; time++) {
            CHECK.is("say() of best, time " + time, Check.say(x, "best"), 2);
        }
        CHECK.is("say() of best, time 21", Check.say(x, "best"), STATE);
        CHECK.is("count(6), kept", x.count(6), 4);
        CHECK.is("best(), time 21", x.best(), STATE);
        x = Check.channel("ba../..ba");
        for (int time = 1; time <= 19; time++) {
            x.best();
        }
        CHECK.is("say() of best, time 20", Check.say(x, "best"), 2);
        CHECK.is("best() then", x.best(), STATE);
        CHECK.is("count(8)", x.count(8), 20);
    }

    private static void bestRefusedIsNotDone() {
        CHECK.sentence("22: or it has been done 20 times (a refused one is not done)");
        ChannelTracks x = new ChannelTracks();
        for (int time = 1; time <= 25; time++) {
            x.best();
        }
        CHECK.is("count(8) without a channel", x.count(8), 0);
        Check.type(x, "ab/ba");
        x.channel();
        for (int time = 1; time <= 25; time++) {
            x.best();
        }
        CHECK.is("count(8) with a cycle", x.count(8), 0);
        Check.say(x, "best");
        CHECK.is("count(8) with a cycle, by say()", x.count(8), 0);
        x.turn(0);
        for (int time = 1; time <= 20; time++) {
            CHECK.is("best(), time " + time, x.best(), 2);
        }
        CHECK.is("best(), time 21", x.best(), STATE);
        x = pieces(true);
        for (int time = 1; time <= 25; time++) {
            x.best();
        }
        CHECK.is("count(8) with 9 segments", x.count(8), 0);
    }

    private static void bestStaysDone() {
        CHECK.sentence("22: 20 times with one object (another channel does not change it)");
        ChannelTracks x = Check.channel("ba../..ba");
        for (int time = 1; time <= 20; time++) {
            x.best();
        }
        Check.type(x, "aa/bb");
        x.channel();
        CHECK.is("best() of another channel", x.best(), STATE);
        CHECK.is("count(8)", x.count(8), 20);
        CHECK.is("best() of another object", Check.channel("aa/bb").best(), 2);
    }

    private static void bestWithoutSegments() {
        CHECK.sentence("22: Returns the depth then (0 if no segment has a track)");
        ChannelTracks x = Check.channel("../..");
        CHECK.is("best()", x.best(), 0);
        CHECK.is("count(8)", x.count(8), 1);
        CHECK.is("best() of one segment", Check.channel("aa/..").best(), 1);
    }

    private static void best(String channel, int depth, String want) {
        ChannelTracks x = Check.channel(channel);
        x.set(0, 13);
        CHECK.is(channel + ": best()", x.best(), depth);
        tracksAre(x, channel, want);
    }

    private static void bestSmallestDepth() {
        CHECK.sentence("22: of all valid plans those with the smallest depth");
        best("aabb/....", 1, "0 0");
        best("abcdef./.abcdef", 6, "5 4 3 2 1 0");
        best("abc.cba/def.fed", 6, "0 1 2 3 4 5");
        // With a third track a could be on track 0.
        best("baab./...dd", 2, "1 0 1");
        // pack() needs 3 tracks here.
        best("dcdac/....a", 2, "1 0 1");
        // More than the density and the chain, which are 3.
        best("bacc/ddab", 4, "1 2 0 3");
    }

    private static void bestSmallestTracks() {
        CHECK.sentence("22: the first segment, in the order of their numbers, for which they differ has the smallest");
        best("ba../..ba", 2, "0 1");
        best("ab../..ab", 2, "0 1");
        best("abc.dd/.abc..", 3, "2 1 0 0");
        best("ddabc./...abc", 3, "2 1 0 0");
        best("cba.../...cba", 3, "0 1 2");
    }

    private static void cellTracks() {
        CHECK.sentence("23: track: the track, 0 to the depth minus 1; or UNKNOWN");
        CHECK.is("cell(0, 0, 0)", busy().cell(0, 0, 0), NONE);
        CHECK.is("cell(2, 0, 0)", busy().cell(2, 0, 0), 0);
        CHECK.refusedFor(BUSY, "cell(?, 0, 0)", (x, track) -> x.cell(track, 0, 0), UNKNOWN, -1, 3, 4, 13, MIN, MAX);
        CHECK.refusedFor(BUSY, "cell(?, 0, 1)", (x, track) -> x.cell(track, 0, 1), UNKNOWN, -1, 3, 4, 13, MIN, MAX);
        Supplier<ChannelTracks> bare = () -> Check.channel("aa/bb");
        CHECK.refusedFor(bare, "cell(?, 0, 0)", (x, track) -> x.cell(track, 0, 0), UNKNOWN, -1, 0, 1);
        ChannelTracks x = Check.channel("aa/bb");
        x.set(1, 13);
        CHECK.is("cell(13, 0, 0)", x.cell(13, 0, 0), 1);
        CHECK.is("cell(14, 0, 0)", x.cell(14, 0, 0), UNKNOWN);
    }

    private static void cellColumns() {
        CHECK.sentence("23: column: the column; or UNKNOWN");
        CHECK.is("cell(2, 0, 0)", busy().cell(2, 0, 0), 0);
        CHECK.is("cell(2, 3, 0)", busy().cell(2, 3, 0), NONE);
        CHECK.refusedFor(BUSY, "cell(2, ?, 0)", (x, c) -> x.cell(2, c, 0), UNKNOWN, -1, 4, 5, 8, MIN, MAX);
        CHECK.refusedFor(BUSY, "cell(2, ?, 1)", (x, c) -> x.cell(2, c, 1), UNKNOWN, -1, 4, 5, 8, MIN, MAX);
    }

    private static void cellWithoutChannel() {
        CHECK.sentence("23: UNKNOWN for track and column (also if there is no channel)");
        CHECK.refusedFor(ChannelTracks::new, "cell(?, 0, 0)", (x, t) -> x.cell(t, 0, 0), UNKNOWN, 0, 1, -1, MIN, MAX);
        CHECK.refusedFor(ChannelTracks::new, "cell(0, 0, ?)", (x, l) -> x.cell(0, 0, l), UNKNOWN, 0, 1, 2, -1);
    }

    private static void cellLayers() {
        CHECK.sentence("23: layer: 0 for the horizontal nets, 1 for the vertical nets; or OUTSIDE");
        CHECK.is("cell(1, 0, 0)", busy().cell(1, 0, 0), NONE);
        CHECK.is("cell(1, 0, 1)", busy().cell(1, 0, 1), 0);
        CHECK.refusedFor(BUSY, "cell(0, 0, ?)", (x, layer) -> x.cell(0, 0, layer), OUTSIDE, -1, 2, MIN, MAX);
        CHECK.refusedFor(BUSY, "cell(2, 3, ?)", (x, layer) -> x.cell(2, 3, layer), OUTSIDE, -1, 2, MIN, MAX);
    }

    private static void cellUnknownBeforeOutside() {
        CHECK.sentence("23: or UNKNOWN for track and column, OUTSIDE, in this order");
        for (int layer : new int[] {-1, 2, MIN, MAX}) {
            CHECK.refusedFor(BUSY, "cell(?, 0, " + layer + ")", (x, t) -> x.cell(t, 0, layer), UNKNOWN, -1, 3, MIN, MAX);
            CHECK.refusedFor(BUSY, "cell(0, ?, " + layer + ")", (x, c) -> x.cell(0, c, layer), UNKNOWN, -1, 4, MIN, MAX);
            CHECK.refused(ChannelTracks::new, "cell(0, 0, " + layer + ")", x -> x.cell(0, 0, layer), UNKNOWN);
        }
    }

    private static void cellLowestOrNone() {
        CHECK.sentence("23: Returns the lowest of these nets, or NONE");
        ChannelTracks x = Check.channel("fae.../...fae");
        for (int s = 0; s < 3; s++) {
            x.set(s, 0);
        }
        int[] wants = {5, 0, 0, 0, 0, 4};
        for (int column = 0; column < 6; column++) {
            CHECK.is("cell(0, " + column + ", 0)", x.cell(0, column, 0), wants[column]);
        }
        x = Check.channel("ba/ab");
        x.set(0, 0);
        x.set(1, 0);
        CHECK.is("cell(0, 0, 1) of b over a", x.cell(0, 0, 1), 0);
        CHECK.is("cell(0, 1, 1) of a over b", x.cell(0, 1, 1), 0);
        CHECK.is("cell() of no net", busy().cell(0, 3, 0), NONE);
        CHECK.is("cell() of no vertical net", busy().cell(0, 3, 1), NONE);
    }
}
