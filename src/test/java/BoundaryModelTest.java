/** The boundary cases of the document's Description: channel, segments, plans, zones, constraints. */
public final class BoundaryModelTest {
    private static final Check CHECK = new Check("BoundaryModelTest");
    private static final int NONE = -1, UNKNOWN = -101, STATE = -103;

    public static void main(String[] args) {
        netsAreBits();
        atFirstNoChannel();
        columnsFromZero();
        pinBelongsToNone();
        netExists();
        netsAreWholeAtFirst();
        wholeNetOfTwoColumns();
        splitNetOfColumns();
        netOfOneColumn();
        segmentsByNets();
        segmentsByFirstColumns();
        segmentCovers();
        wholeSegmentAttached();
        splitSegmentsAttached();
        aboveOnlyOfAnotherNet();
        aboveOnlyFromTopToBottom();
        overlapOfDifferentNets();
        noOverlapOfOneNet();
        noTrackAfterChanges();
        tracksStayAfterErrors();
        depths();
        validNeedsAllTracks();
        validNeedsNoOverlap();
        validNeedsOrder();
        validNeedsOrderOnAllTracks();
        horizontalNets();
        verticalOfTopPin();
        verticalOfBottomPin();
        verticalOfSplitNets();
        verticalOfOneNet();
        conflictsOfHorizontalNets();
        conflictsOfVerticalNets();
        planOfMostSegments();
        densities();
        crossingSetsOfPieces();
        zonesNotEmpty();
        zonesNoProperSubset();
        zonesEachOnce();
        zonesInOrder();
        cycleNone();
        cycleShortest();
        cycleBeginsLowest();
        cycleSmallest();
        cycleOfPieces();
        cycleOfMostSegments();
        levelsOfLongest();
        chainWithoutSegments();
        noLevelsWithCycle();
        breakingSetNone();
        breakingSetEmpty();
        breakingSetSmallest();
        breakingSetSmallestMask();
        breakingSetIsExact();
        lastOf512Calls();
        CHECK.finish();
    }

    private static ChannelTracks split(String channel, String nets) {
        ChannelTracks x = Check.channel(channel);
        for (int i = 0; i < nets.length(); i++) {
            x.cut(nets.charAt(i) - 'a', true);
        }
        return x;
    }

    /** The segments as letters of nets with their first and last columns. */
    private static String segments(ChannelTracks x) {
        StringBuilder all = new StringBuilder();
        for (int s = 0; s < x.count(4); s++) {
            all.append(s == 0 ? "" : " ").append((char) ('a' + x.segment(s, 0)));
            all.append(x.segment(s, 1)).append(x.segment(s, 2));
        }
        return all.toString();
    }

    private static void segmentsAre(ChannelTracks x, String name, String want) {
        CHECK.that("segments of " + name + " are " + segments(x) + ", due are " + want, segments(x).equals(want));
    }

    private static void tracks(ChannelTracks x, int... tracks) {
        for (int s = 0; s < tracks.length; s++) {
            x.set(s, tracks[s]);
        }
    }

    private static void netsAreBits() {
        CHECK.sentence("A set of nets is a bit mask in which bit n stands for net n");
        CHECK.is("zone of a", Check.channel("aa/..").zone(0), 1);
        CHECK.is("zone of f", Check.channel("ff/..").zone(0), 32);
        CHECK.is("zone of all", Check.channel("abc.cba/def.fed").zone(0), 63);
        CHECK.is("breaking set a", Check.channel("a.b/baa").about(5), 1);
        CHECK.is("breaking set f", Check.channel("f.b/bff").about(5), 32);
    }

    private static void atFirstNoChannel() {
        CHECK.sentence("At first there is no channel");
        ChannelTracks x = Check.typed("ab/ba");
        CHECK.is("about(0) with a text that is not read", x.about(0), STATE);
        CHECK.is("turn(0) with a text that is not read", x.turn(0), UNKNOWN);
        x.channel();
        CHECK.is("about(0) then", x.about(0), 2);
    }

    private static void columnsFromZero() {
        CHECK.sentence("A channel has 2 to 8 columns, numbered from 0");
        for (String half : new String[] {"ab", "abc", "abcd", "abcde", "abcdef", "abcdefa", "abcdefab"}) {
            int columns = half.length();
            ChannelTracks x = Check.channel(half + "/" + half);
            CHECK.is(half + ": pin(-1, 0)", x.pin(-1, 0), UNKNOWN);
            CHECK.is(half + ": pin(0, 0)", x.pin(0, 0), 0);
            CHECK.is(half + ": last pin", x.pin(columns - 1, 1), (columns - 1) % 6);
            CHECK.is(half + ": pin behind it", x.pin(columns, 0), UNKNOWN);
        }
    }

    private static void pinBelongsToNone() {
        CHECK.sentence("A pin belongs to one of the nets 0 to 5 or to none");
        ChannelTracks x = Check.channel("af/..");
        CHECK.is("pin of a", x.pin(0, 0), 0);
        CHECK.is("pin of f", x.pin(1, 0), 5);
        CHECK.is("pin of none", x.pin(1, 1), NONE);
    }

    private static void netExists() {
        CHECK.sentence("A net exists if it has a pin");
        ChannelTracks x = Check.channel("a./.f");
        CHECK.is("net(0, 0), with one top pin", x.net(0, 0), 1);
        CHECK.is("net(5, 0), with one bottom pin", x.net(5, 0), 1);
        CHECK.is("net(1, 0), without a pin", x.net(1, 0), UNKNOWN);
        CHECK.is("count(2)", x.count(2), 2);
        x.put(0, 0, NONE);
        CHECK.is("net(0, 0), whose last pin was taken", x.net(0, 0), UNKNOWN);
        CHECK.is("count(2)", x.count(2), 1);
        CHECK.is("count(2) of ../..", Check.channel("../..").count(2), 0);
        CHECK.is("count(2) of all", Check.channel("abc/def").count(2), 6);
    }

    private static void netsAreWholeAtFirst() {
        CHECK.sentence("Each net is whole, as at first, or split");
        ChannelTracks x = Check.channel("abcdef/......");
        for (int net = 0; net <= 5; net++) {
            CHECK.is("net(" + net + ", 3)", x.net(net, 3), 0);
            x.cut(net, true);
            CHECK.is("net(" + net + ", 3) after cut()", x.net(net, 3), 1);
            CHECK.is("count(3)", x.count(3), net + 1);
        }
        x.cut(5, false);
        CHECK.is("net(5, 3) when whole again", x.net(5, 3), 0);
        CHECK.is("net(4, 3) then", x.net(4, 3), 1);
    }

    private static void wholeNetOfTwoColumns() {
        CHECK.sentence("A whole net that has pins in at least two columns has one segment, from the first to the last");
        segmentsAre(Check.channel("aa/.."), "two columns", "a01");
        segmentsAre(Check.channel("a./.a"), "a top and a bottom pin", "a01");
        segmentsAre(Check.channel("a......a/........"), "the outermost columns", "a07");
        segmentsAre(Check.channel(".a.a.a../........"), "three columns", "a15");
        segmentsAre(Check.channel("aaaaaaaa/aaaaaaaa"), "all pins", "a07");
    }

    private static void splitNetOfColumns() {
        CHECK.sentence("A split net has a segment from each column in which it has a pin to the next such column");
        segmentsAre(split("aa/..", "a"), "two columns", "a01");
        segmentsAre(split("a......a/........", "a"), "the outermost columns", "a07");
        segmentsAre(split(".a.a.a../........", "a"), "three columns", "a13 a35");
        segmentsAre(split("aa./a.a", "a"), "two pins in one column", "a01 a12");
        segmentsAre(split("aaaaaaaa/aaaaaaaa", "a"), "all pins", "a01 a12 a23 a34 a45 a56 a67");
    }

    private static void netOfOneColumn() {
        CHECK.sentence("A net all of whose pins are in one column has none");
        for (String nets : new String[] {"", "ab"}) {
            ChannelTracks x = split("ab/a.", nets);
            CHECK.is("segments", x.count(4), 0);
            CHECK.is("net(0, 0), with two pins", x.net(0, 0), 2);
            CHECK.is("net(0, 4), with two pins", x.net(0, 4), 0);
            CHECK.is("net(1, 4), with one pin", x.net(1, 4), 0);
            CHECK.is("segment(0, 0)", x.segment(0, 0), UNKNOWN);
        }
        ChannelTracks x = Check.channel("aa/..");
        x.put(1, 0, NONE);
        CHECK.is("net(0, 4) when one column is left", x.net(0, 4), 0);
    }

    private static void segmentsByNets() {
        CHECK.sentence("Segments are numbered from 0, ordered by their nets");
        segmentsAre(Check.channel("fab.baf/......."), "f, a, b", "a15 b24 f06");
        segmentsAre(split("cac/bcb", "c"), "a split net behind another", "b02 c01 c12");
    }

    private static void segmentsByFirstColumns() {
        CHECK.sentence("those of one net by their first columns");
        segmentsAre(split("abab../..abab", "ab"), "two split nets", "a02 a24 b13 b35");
        segmentsAre(split("abab../..abab", "b"), "the second one split", "a04 b13 b35");
    }

    private static void segmentCovers() {
        CHECK.sentence("A segment covers all columns from its first to its last one");
        ChannelTracks x = Check.channel(".a..a./......");
        x.set(0, 0);
        CHECK.that("ink " + Check.ink(x), Check.ink(x).equals(".aaaa."));
        x = Check.channel("a......a/........");
        x.set(0, 0);
        CHECK.that("ink " + Check.ink(x), Check.ink(x).equals("aaaaaaaa"));
    }

    private static void wholeSegmentAttached() {
        CHECK.sentence("a whole net's segment to all columns with its pins");
        CHECK.is("at its first column", Check.channel("aaa./b..b").above(0, 1), 1);
        CHECK.is("at a column between", Check.channel("aaa./.b.b").above(0, 1), 1);
        CHECK.is("at its last column", Check.channel("aaa./..bb").above(0, 1), 1);
        CHECK.is("not at a column without its pin", Check.channel("a.a./.b.b").above(0, 1), 0);
    }

    private static void splitSegmentsAttached() {
        CHECK.sentence("a split net's segments each to their first and last columns");
        ChannelTracks x = split("aaaa/b..b", "a");
        CHECK.is("the first piece, at its first column", x.above(0, 3), 1);
        CHECK.is("the second piece", x.above(1, 3), 0);
        CHECK.is("the third piece, at its last column", x.above(2, 3), 1);
        x = split("aaa./.b.b", "a");
        CHECK.is("the piece that ends at a column", x.above(0, 2), 1);
        CHECK.is("the piece that begins there", x.above(1, 2), 1);
    }

    private static void aboveOnlyOfAnotherNet() {
        CHECK.sentence("Segment s must be above segment t, of another net");
        ChannelTracks x = Check.channel("aa/aa");
        CHECK.is("above(0, 0)", x.above(0, 0), 0);
        CHECK.is("cycle", x.about(4), 0);
        x = split("aaa/aaa", "a");
        CHECK.is("above(0, 1) of one net", x.above(0, 1), 0);
        CHECK.is("above(1, 0) of one net", x.above(1, 0), 0);
        CHECK.is("chain", x.about(3), 1);
    }

    private static void aboveOnlyFromTopToBottom() {
        CHECK.sentence("whose top pin belongs to the net of s and whose bottom pin to the net of t");
        ChannelTracks x = Check.channel("ba/bb");
        CHECK.is("a pin of a net without a segment", x.segment(0, 5), 0);
        x = Check.channel("aa/bb");
        CHECK.is("above(0, 1)", x.above(0, 1), 1);
        CHECK.is("above(1, 0)", x.above(1, 0), 0);
        CHECK.is("segment(0, 4), above it in two columns", x.segment(0, 4), 1);
        CHECK.is("segment(1, 5), above it in two columns", x.segment(1, 5), 1);
        x = Check.channel("ab../..ab");
        CHECK.is("above(0, 1), with no pin on the other side", x.above(0, 1), 0);
        CHECK.is("above(1, 0), with no pin on the other side", x.above(1, 0), 0);
    }

    private static void overlapOfDifferentNets() {
        CHECK.sentence("Two segments of different nets overlap if they cover a common column");
        CHECK.is("two common columns", Check.channel("ab../..ab").may(0, 1), 0);
        CHECK.is("one inside of the other", Check.channel("ab.ba/.....").may(0, 1), 0);
        CHECK.is("one common column", Check.channel("aab/.b.").may(0, 1), 0);
        CHECK.is("neighbours", Check.channel("aabb/....").may(0, 1), 1);
        CHECK.is("neighbours, the other way", Check.channel("bbaa/....").may(0, 1), 1);
        ChannelTracks x = Check.channel("aabb/....");
        tracks(x, 0, 0);
        CHECK.is("neighbours on one track: valid", x.about(8), 1);
    }

    private static void noOverlapOfOneNet() {
        CHECK.sentence("segments of the same net do not");
        ChannelTracks x = split("aaa/...", "a");
        CHECK.is("may(0, 1)", x.may(0, 1), 1);
        CHECK.is("may(0, 0)", x.may(0, 0), 1);
        tracks(x, 13, 13);
        CHECK.is("on one track: valid", x.about(8), 1);
        CHECK.is("on one track: conflicts", x.about(9), 0);
    }

    private static void noTracks(ChannelTracks x, String after) {
        CHECK.is("count(5) after " + after, x.count(5), 0);
        CHECK.is("about(7) after " + after, x.about(7), 0);
        for (int s = 0; s < x.count(4); s++) {
            CHECK.is("segment(" + s + ", 3) after " + after, x.segment(s, 3), NONE);
        }
    }

    private static ChannelTracks planned() {
        ChannelTracks x = Check.channel("ab.c/.abc");
        tracks(x, 0, 13);
        return x;
    }

    private static void noTrackAfterChanges() {
        CHECK.sentence("No segment has a track after a channel has been read, and after put(), turn() and cut()");
        ChannelTracks x = planned();
        Check.type(x, "ab.c/.abc");
        x.channel();
        noTracks(x, "channel() of the same text");
        x = planned();
        x.put(0, 0, 0);
        noTracks(x, "put() of the same net");
        x = planned();
        x.put(2, 0, 5);
        noTracks(x, "put()");
        x = planned();
        x.turn(0);
        noTracks(x, "turn()");
        x = planned();
        x.turn(3);
        noTracks(x, "turn() of one net's column");
        x = planned();
        x.cut(0, true);
        noTracks(x, "cut()");
        x.set(0, 1);
        x.cut(0, false);
        noTracks(x, "cut(0, false)");
        x = planned();
        x.cut(5, true);
        noTracks(x, "cut() of a net that does not exist");
        x = planned();
        Check.say(x, "turn 3");
        noTracks(x, "say() of turn 3");
    }

    private static void tracksStayAfterErrors() {
        CHECK.sentence("No segment has a track after .. put(), turn() and cut(), if they return no error");
        ChannelTracks x = planned();
        x.put(4, 0, 0);
        x.put(0, 2, 0);
        x.put(0, 0, 6);
        x.turn(4);
        x.cut(0, false);
        x.cut(6, true);
        x.channel();
        Check.say(x, "turn 9");
        CHECK.that("tracks " + Check.tracks(x), Check.tracks(x).equals("0 13"));
    }

    private static void depths() {
        CHECK.sentence("The depth is the greatest track plus 1, 0 if no segment has a track");
        ChannelTracks x = Check.channel("ab../..ab");
        CHECK.is("without tracks", x.about(7), 0);
        x.set(0, 0);
        CHECK.is("with track 0", x.about(7), 1);
        x.set(1, 13);
        CHECK.is("with tracks 0 and 13", x.about(7), 14);
        x.set(0, NONE);
        CHECK.is("with track 13", x.about(7), 14);
        x.set(0, 5);
        x.set(1, NONE);
        CHECK.is("with track 5", x.about(7), 6);
        x.set(0, NONE);
        CHECK.is("without tracks again", x.about(7), 0);
        CHECK.is("without segments", Check.channel("../..").about(7), 0);
    }

    private static void valid(String channel, int want, int... tracks) {
        ChannelTracks x = Check.channel(channel);
        tracks(x, tracks);
        CHECK.is(channel + " with tracks " + Check.tracks(x) + ": about(8)", x.about(8), want);
    }

    private static void validNeedsAllTracks() {
        CHECK.sentence("A plan is valid if each segment has a track");
        valid("../..", 1);
        valid("ab/ab", 1);
        valid("aa/..", 0);
        valid("aa/..", 1, 0);
        valid("aa/..", 1, 13);
        valid("aabb/....", 0, 0);
        valid("aabb/....", 0, NONE, 0);
        valid("aabb/....", 1, 0, 0);
    }

    private static void validNeedsNoOverlap() {
        CHECK.sentence("no two segments that overlap have the same one");
        valid("ab../..ab", 0, 0, 0);
        valid("ab../..ab", 0, 13, 13);
        valid("ab../..ab", 1, 0, 1);
        valid("ab../..ab", 1, 1, 0);
        valid("ab..cc/..ab..", 1, 0, 1, 0);
        valid("ab..cc/..ab..", 1, 0, 1, 1);
        valid("abc.../...abc", 0, 0, 1, 0);
        valid("abc.../...abc", 0, 0, 1, 1);
    }

    private static void validNeedsOrder() {
        CHECK.sentence("and each segment that must be above another one has a smaller track than that");
        valid("aa/bb", 1, 0, 1);
        valid("aa/bb", 0, 1, 0);
        valid("aa/bb", 0, 1, 1);
        valid("bb/aa", 1, 1, 0);
        valid("bb/aa", 0, 0, 1);
        valid("aa/bb", 1, 0, 13);
        valid("ab/ba", 0, 0, 1);
        valid("ab/ba", 0, 1, 0);
    }

    private static void validNeedsOrderOnAllTracks() {
        CHECK.sentence("A plan gives each segment a track, 0 to 13 (0 is the uppermost one)");
        for (int one = 0; one <= 13; one++) {
            for (int other = 0; other <= 13; other++) {
                valid("aa/bb", one < other ? 1 : 0, one, other);
                valid("bb/aa", one > other ? 1 : 0, one, other);
                valid("ab../..ab", one != other ? 1 : 0, one, other);
            }
        }
    }

    private static void row(ChannelTracks x, int track, int layer, int... wants) {
        for (int column = 0; column < wants.length; column++) {
            String call = "cell(" + track + ", " + column + ", " + layer + ")";
            CHECK.is(call, x.cell(track, column, layer), wants[column]);
        }
    }

    private static void horizontalNets() {
        CHECK.sentence("the horizontal nets are the nets with a segment on this track that covers the column");
        ChannelTracks x = Check.channel(".b..b.aa/........");
        tracks(x, NONE, 1);
        row(x, 0, 0, NONE, NONE, NONE, NONE, NONE, NONE, NONE, NONE);
        row(x, 1, 0, NONE, 1, 1, 1, 1, NONE, NONE, NONE);
        CHECK.is("cell(2, 1, 0)", x.cell(2, 1, 0), UNKNOWN);
        x.set(0, 1);
        row(x, 1, 0, NONE, 1, 1, 1, 1, NONE, 0, 0);
    }

    private static void verticalOfTopPin() {
        CHECK.sentence("the net of the top pin, if a segment of it that is attached has this track or a greater one");
        ChannelTracks x = Check.channel("a.ab.b/......");
        tracks(x, 1, 3);
        row(x, 0, 1, 0, NONE, 0, 1, NONE, 1);
        row(x, 1, 1, 0, NONE, 0, 1, NONE, 1);
        row(x, 2, 1, NONE, NONE, NONE, 1, NONE, 1);
        row(x, 3, 1, NONE, NONE, NONE, 1, NONE, 1);
        x.set(0, NONE);
        row(x, 0, 1, NONE, NONE, NONE, 1, NONE, 1);
    }

    private static void verticalOfBottomPin() {
        CHECK.sentence("the net of the bottom pin, if a segment .. has a track and this is at most this track");
        ChannelTracks x = Check.channel("....../a.ab.b");
        tracks(x, 1, 3);
        row(x, 0, 1, NONE, NONE, NONE, NONE, NONE, NONE);
        row(x, 1, 1, 0, NONE, 0, NONE, NONE, NONE);
        row(x, 2, 1, 0, NONE, 0, NONE, NONE, NONE);
        row(x, 3, 1, 0, NONE, 0, 1, NONE, 1);
        x.set(0, NONE);
        row(x, 3, 1, NONE, NONE, NONE, 1, NONE, 1);
    }

    private static void verticalOfSplitNets() {
        CHECK.sentence("a segment of it that is attached to the column");
        ChannelTracks x = split("aaaa/....", "a");
        tracks(x, NONE, 1, NONE);
        row(x, 0, 1, NONE, 0, 0, NONE);
        row(x, 1, 1, NONE, 0, 0, NONE);
        x = split("..../aaaa", "a");
        tracks(x, 0, 1, NONE);
        row(x, 0, 1, 0, 0, NONE, NONE);
        row(x, 1, 1, 0, 0, 0, NONE);
    }

    private static void verticalOfOneNet() {
        CHECK.sentence("and, if both pins belong to the same net, this net");
        ChannelTracks x = Check.channel("abb.cc/ab..c.");
        x.set(1, 1);
        row(x, 0, 1, 0, 1, NONE, NONE, 2, 2);
        row(x, 1, 1, 0, 1, NONE, NONE, 2, 2);
        CHECK.is("conflicts", x.about(9), 0);
        x.clear();
        CHECK.is("cell(0, 0, 1) without a track", x.cell(0, 0, 1), UNKNOWN);
        x = Check.channel("../aa");
        x.set(0, 0);
        row(x, 0, 1, 0, 0);
        x = Check.channel("a.a/...");
        x.set(0, 0);
        CHECK.is("two pins of none", x.cell(0, 1, 1), NONE);
    }

    private static void conflictsOfHorizontalNets() {
        CHECK.sentence("the number of pairs of a track and a column with more than one horizontal net");
        ChannelTracks x = Check.channel("abc.../...abc");
        CHECK.is("without tracks", x.about(9), 0);
        tracks(x, 2, 2);
        CHECK.is("two on a track", x.about(9), 3);
        x.set(2, 2);
        CHECK.is("three on a track", x.about(9), 4);
        x.set(2, 1);
        CHECK.is("two on a track, one on another", x.about(9), 3);
        CHECK.is("without segments", Check.channel("../..").about(9), 0);
    }

    private static void conflictsOfVerticalNets() {
        CHECK.sentence("plus the number of those with more than one vertical net");
        ChannelTracks x = Check.channel("aa/bb");
        tracks(x, 0, 1);
        CHECK.is("in order", x.about(9), 0);
        tracks(x, 1, 0);
        CHECK.is("the wrong way round", x.about(9), 4);
        tracks(x, 1, 1);
        CHECK.is("on one track, horizontal and vertical", x.about(9), 4);
        tracks(x, 3, 1);
        CHECK.is("with a track between", x.about(9), 6);
    }

    private static void planOfMostSegments() {
        CHECK.sentence("the horizontal nets are .. The vertical nets are .. (with all 14 segments on tracks)");
        ChannelTracks x = split("aaaaaaaa/bbbbbbbb", "ab");
        tracks(x, 0, 0, 0, 0, 0, 0, 0, 1, 1, 1, 1, 1, 1, 1);
        row(x, 0, 0, 0, 0, 0, 0, 0, 0, 0, 0);
        row(x, 1, 0, 1, 1, 1, 1, 1, 1, 1, 1);
        row(x, 0, 1, 0, 0, 0, 0, 0, 0, 0, 0);
        row(x, 1, 1, 1, 1, 1, 1, 1, 1, 1, 1);
        CHECK.is("in order: about(8)", x.about(8), 1);
        CHECK.is("in order: about(9)", x.about(9), 0);
        tracks(x, 1, 1, 1, 1, 1, 1, 1, 0, 0, 0, 0, 0, 0, 0);
        CHECK.is("the wrong way round: about(8)", x.about(8), 0);
        CHECK.is("the wrong way round: about(9)", x.about(9), 16);
        tracks(x, 0, 1, 2, 3, 4, 5, 6, 7, 8, 9, 10, 11, 12, 13);
        CHECK.is("a track for each: about(7)", x.about(7), 14);
        CHECK.is("a track for each: about(8)", x.about(8), 1);
    }

    private static void densities() {
        CHECK.sentence("The density is the greatest number of nets in a crossing set");
        CHECK.is("no pins", Check.channel("../..").about(2), 0);
        CHECK.is("nets of one column", Check.channel("abc/def").about(2), 0);
        CHECK.is("one net", Check.channel("a.a/...").about(2), 1);
        CHECK.is("side by side", Check.channel("aabbcc/......").about(2), 1);
        CHECK.is("all nets", Check.channel("abc.cba/def.fed").about(2), 6);
        CHECK.is("two pieces of one net", split("aaa/...", "a").about(2), 1);
    }

    private static void crossingSetsOfPieces() {
        CHECK.sentence("The crossing set of a column is the set of nets of the segments that cover it");
        // At each column of b two pieces of a meet.
        zones(split("aaaa/.bb.", "a"), "aaaa/.bb., a split", 3);
        CHECK.is("density", split("aaaa/.bb.", "a").about(2), 2);
        zones(split("aaabbb/.....b", "ab"), "aaabbb/.....b, both split", 1, 2);
        zones(split("aaaaaaaa/bbbbbbbb", "ab"), "the most segments", 3);
        CHECK.is("density of the most segments", split("aaaaaaaa/bbbbbbbb", "ab").about(2), 2);
    }

    private static void zones(String channel, int... wants) {
        zones(Check.channel(channel), channel, wants);
    }

    private static void zones(ChannelTracks x, String channel, int... wants) {
        CHECK.is(channel + ": about(6)", x.about(6), wants.length);
        for (int zone = 0; zone < wants.length; zone++) {
            CHECK.is(channel + ": zone(" + zone + ")", x.zone(zone), wants[zone]);
        }
        CHECK.is(channel + ": zone behind the last", x.zone(wants.length), UNKNOWN);
    }

    private static void zonesNotEmpty() {
        CHECK.sentence("The zones are the crossing sets that are not empty");
        zones("../..");
        zones("abc/abc");
        zones(".aa.bb./.......", 1, 2);
    }

    private static void zonesNoProperSubset() {
        CHECK.sentence("and not a proper subset of another one");
        zones("aab.ba/......", 3);
        zones("a.a.b/.b...", 3);
        zones("ab.a../.....b", 3);
        zones("abcbca/......", 7);
        zones("abacbc/......", 3, 6);
        // The subset lies behind a zone, and before one.
        zones("ab.b.cac/........", 3, 5);
    }

    private static void zonesEachOnce() {
        CHECK.sentence("each once");
        zones("a......a/........", 1);
        zones("ab....ab/........", 3);
        zones("aab..b/......", 1, 2);
    }

    private static void zonesInOrder() {
        CHECK.sentence("in the order of the first columns that have them, numbered from 0");
        zones("ffeeddcc/........", 32, 16, 8, 4);
        zones("aabbccdd/........", 1, 2, 4, 8);
        zones("abcdef../..abcdef", 7, 14, 28, 56);
        CHECK.is("zone(-1)", Check.channel("aa/bb").zone(-1), UNKNOWN);
    }

    private static void ring(ChannelTracks x, String name, int... wants) {
        CHECK.is(name + ": about(4)", x.about(4), wants.length);
        for (int place = 0; place < wants.length; place++) {
            CHECK.is(name + ": ring(" + place + ")", x.ring(place), wants[place]);
        }
        CHECK.is(name + ": ring behind the last", x.ring(wants.length), UNKNOWN);
    }

    private static void cycleNone() {
        CHECK.sentence("The cycle is .. (0 if there is none)");
        for (String channel : new String[] {"../..", "aa/aa", "aa/bb", "abc/bcc", "abcdef./.abcdef"}) {
            ring(Check.channel(channel), channel);
        }
        // A pin of a stands over one of b, but b has no segment.
        ring(Check.channel("a.a/b.."), "a net of one column");
    }

    private static void cycleShortest() {
        CHECK.sentence("The cycle is the shortest sequence of different segments");
        ring(Check.channel("ab/ba"), "two", 0, 1);
        ring(Check.channel("abc/bca"), "three", 0, 1, 2);
        ring(Check.channel("abcdef/bcdefa"), "six", 0, 1, 2, 3, 4, 5);
        ring(Check.channel("abcdef/bcaefd"), "two of three", 0, 1, 2);
        ring(Check.channel("abcde/bcaed"), "three before two", 3, 4);
        ring(Check.channel("abcc/bcab"), "two within three", 1, 2);
    }

    private static void cycleBeginsLowest() {
        CHECK.sentence("beginning with its lowest segment");
        ring(Check.channel("fe/ef"), "e and f", 0, 1);
        ring(Check.channel("acb/cba"), "a, c, b", 0, 2, 1);
        ring(Check.channel("cba/bac"), "c, b, a", 0, 2, 1);
    }

    private static void cycleSmallest() {
        CHECK.sentence("among several, the lexicographically smallest one");
        ring(Check.channel("dcba/cdab"), "two apart", 0, 1);
        ring(Check.channel("acab/caba"), "two from one segment", 0, 1);
        ring(Check.channel("abdcac/bdcaca"), "two and four", 0, 2);
        ring(Check.channel("abdbc/bdaca"), "two that part at the last segment", 0, 1, 2);
        ring(Check.channel("acbd/cbaa"), "three from one segment", 0, 2, 1);
        ring(Check.channel("abdac/bdacd"), "two that part at the second segment", 0, 1, 3);
    }

    private static void cycleOfPieces() {
        CHECK.sentence("different segments in which each one must be above the next one and the last above the first");
        // Two pieces of one net in one cycle.
        ChannelTracks x = split(".babcacb/aacbcbab", "ad");
        int length = x.about(4);
        CHECK.is("length", length, 4);
        for (int place = 0; place < length; place++) {
            CHECK.is("step " + place, x.above(x.ring(place), x.ring((place + 1) % length)), 1);
        }
        x = split("bdccaabc/cbabcccd", "bce");
        length = x.about(4);
        CHECK.is("length of the longer one", length, 7);
        for (int place = 0; place < length; place++) {
            CHECK.is("step " + place, x.above(x.ring(place), x.ring((place + 1) % length)), 1);
        }
    }

    private static void cycleOfMostSegments() {
        CHECK.sentence("The cycle is the shortest sequence of different segments (of 14)");
        ring(split("abababab/babababa", "ab"), "the first pieces", 0, 7);
        ring(split("aaaaaaab/bbbbbbba", "ab"), "the last pieces", 6, 13);
        ring(split("aaaaaaaa/bbbbbbbb", "ab"), "none");
    }

    private static void levelsOfLongest() {
        CHECK.sentence("the number of segments before it in the longest sequence of segments .. that ends with it");
        ChannelTracks x = Check.channel("abca/bccc");
        CHECK.is("a, with none before it", x.segment(0, 6), 0);
        CHECK.is("b, below a", x.segment(1, 6), 1);
        CHECK.is("c, below a, and below b below a", x.segment(2, 6), 2);
        CHECK.is("chain", x.about(3), 3);
        x = Check.channel("abcdef./.abcdef");
        for (int s = 0; s < 6; s++) {
            CHECK.is("level of " + s, x.segment(s, 6), 5 - s);
        }
        CHECK.is("chain of six", x.about(3), 6);
    }

    private static void chainWithoutSegments() {
        CHECK.sentence("the chain is the greatest level plus 1 (0 without segments)");
        CHECK.is("no pins", Check.channel("../..").about(3), 0);
        CHECK.is("nets of one column", Check.channel("ab/cd").about(3), 0);
        CHECK.is("one segment", Check.channel("aa/..").about(3), 1);
        CHECK.is("two apart", Check.channel("aabb/....").about(3), 1);
        CHECK.is("two in order", Check.channel("aa/bb").about(3), 2);
    }

    private static void noLevelsWithCycle() {
        CHECK.sentence("if there is a cycle, there are no levels and no chain");
        ChannelTracks x = Check.channel("abccde/ba..ed");
        CHECK.is("chain", x.about(3), NONE);
        for (int s = 0; s < 5; s++) {
            CHECK.is("level of " + s, x.segment(s, 6), NONE);
        }
        x.turn(0);
        CHECK.is("chain with one cycle less", x.about(3), NONE);
        x.turn(4);
        CHECK.is("chain without a cycle", x.about(3), 2);
        CHECK.is("level of c then", x.segment(2, 6), 0);
    }

    private static void breakingSetNone() {
        CHECK.sentence("the breaking set, or NONE if there is none");
        CHECK.is("two columns", Check.channel("ab/ba").about(5), NONE);
        CHECK.is("three nets", Check.channel("abc/bca").about(5), NONE);
        CHECK.is("a net that a split leaves in a cycle", Check.channel("aab/.ba").about(5), NONE);
        CHECK.is("one that breaks, one that no split breaks", Check.channel("a.bcd/baadc").about(5), NONE);
        CHECK.is("pins at the same two columns", Check.channel("aba/ba.").about(5), NONE);
    }

    private static void breakingSetEmpty() {
        CHECK.sentence("the smallest set of nets such that there would be no cycle (the empty one)");
        CHECK.is("no pins", Check.channel("../..").about(5), 0);
        CHECK.is("no cycle", Check.channel("aa/bb").about(5), 0);
        ChannelTracks x = split("aaa/bbb", "abcdef");
        CHECK.is("no cycle, all split", x.about(5), 0);
    }

    private static void breakingSetSmallest() {
        CHECK.sentence("The breaking set is the smallest set of nets");
        CHECK.is("one with a greater mask, not two", Check.channel("ababcc/cc..ab").about(5), 4);
        CHECK.is("two", Check.channel("aabbccdd/bbccddaa").about(5), 6);
        CHECK.is("two cycles, a net for each", Check.channel("a.bc.d/baadcc").about(5), 5);
    }

    private static void breakingSetSmallestMask() {
        CHECK.sentence("among several, the one with the smallest bit mask");
        CHECK.is("a or b", Check.channel("aa.b/b.ba").about(5), 1);
        CHECK.is("e or f", Check.channel("ee.f/f.fe").about(5), 16);
        CHECK.is("b alone", Check.channel("abb/b.a").about(5), 2);
    }

    private static void breakingSetIsExact() {
        CHECK.sentence("if exactly these nets were split");
        ChannelTracks x = split("a.b/baa", "a");
        CHECK.is("cycle when a is split", x.about(4), 0);
        CHECK.is("breaking set when a is split", x.about(5), 1);
        x = split("a.b/baa", "bcdef");
        CHECK.is("cycle when all but a are split", x.about(4), 2);
        CHECK.is("breaking set when all but a are split", x.about(5), 1);
    }

    private static void lastOf512Calls() {
        CHECK.sentence("An object is used for at most 512 calls after it has been made");
        ChannelTracks x = Check.channel("ba../..ba");
        for (int call = 6 + 4 + 1; call < 512 - 1; call++) {
            x.turn(call % 4);
        }
        int top = x.pin(0, 0);
        CHECK.is("the last call", x.turn(0), top == NONE ? 1 : NONE);
    }
}
