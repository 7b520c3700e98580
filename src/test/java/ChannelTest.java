/** Promises 8 to 15: about, pin, net, segment, above, may, ring, zone. */
public final class ChannelTest {
    private static final Check CHECK = new Check("ChannelTest");
    private static final int NONE = -1, UNKNOWN = -101, OUTSIDE = -102, STATE = -103;

    public static void main(String[] args) {
        aboutErrors();
        aboutChain();
        aboutPlan();
        aboutNothing();
        breakingSets();
        pin();
        net();
        segment();
        splitSegments();
        above();
        may();
        rings();
        zones();
        withoutChannel();
        CHECK.finish();
    }

    private static void abouts(ChannelTracks x, String name, int... wants) {
        for (int what = 0; what < wants.length; what++) {
            CHECK.is(name + ": about(" + what + ")", x.about(what), wants[what]);
        }
    }

    private static void aboutErrors() {
        ChannelTracks x = new ChannelTracks();
        for (int what = 0; what <= 9; what++) {
            CHECK.is("no channel: about(" + what + ")", x.about(what), STATE);
        }
        CHECK.is("no channel: about(10)", x.about(10), OUTSIDE);
        CHECK.is("no channel: about(-1)", x.about(-1), OUTSIDE);
        x = Check.channel("ab/ba");
        CHECK.is("about(10)", x.about(10), OUTSIDE);
        CHECK.is("about(-1)", x.about(-1), OUTSIDE);
        CHECK.is("about(max)", x.about(Integer.MAX_VALUE), OUTSIDE);
    }

    // c over b over a, each beside the next.
    private static void aboutChain() {
        ChannelTracks x = Check.channel("abc./.abc");
        abouts(x, "chain", 4, 3, 2, 3, 0, 0, 2, 0, 0, 0);
        x.pack();
        abouts(x, "packed chain", 4, 3, 2, 3, 0, 0, 2, 3, 1, 0);
        abouts(Check.channel("ab/ba"), "cycle", 2, 2, 2, NONE, 2, NONE, 1, 0, 0, 0);
    }

    private static void aboutPlan() {
        ChannelTracks x = Check.channel("abc./.abc");
        x.set(0, 0);
        x.set(1, 0);
        CHECK.is("two on one track: conflicts", x.about(9), 2);
        x.set(2, 0);
        CHECK.is("three on one track: conflicts", x.about(9), 4);
        CHECK.is("three on one track: valid", x.about(8), 0);
        CHECK.is("three on one track: depth", x.about(7), 1);
        x.set(0, 13);
        x.set(1, 12);
        x.set(2, 3);
        CHECK.is("gaps: depth", x.about(7), 14);
        CHECK.is("gaps: valid", x.about(8), 1);
        CHECK.is("gaps: conflicts", x.about(9), 0);
        x.set(2, NONE);
        CHECK.is("one without a track: valid", x.about(8), 0);
        // a and b the wrong way round: their wires meet in column 1 on the tracks 1 to 2.
        x.set(2, 0);
        x.set(0, 1);
        x.set(1, 2);
        CHECK.is("wrong way round: valid", x.about(8), 0);
        CHECK.is("wrong way round: conflicts", x.about(9), 2);
        x = Check.channel("ab/ba");
        x.set(0, 0);
        x.set(1, 0);
        CHECK.is("all of two columns: conflicts", x.about(9), 4);
    }

    private static void aboutNothing() {
        abouts(Check.channel("../.."), "no pins", 2, 0, 0, 0, 0, 0, 0, 0, 1, 0);
        abouts(Check.channel("abc/abc"), "one column a net", 3, 0, 0, 0, 0, 0, 0, 0, 1, 0);
        abouts(Check.channel("aaa/..."), "one net", 3, 1, 1, 1, 0, 0, 1, 0, 0, 0);
    }

    private static void breakingSets() {
        Object[][] cases = {
            {"abc./.abc", 0}, {"ab/ba", NONE}, {"a.b/baa", 1}, {"abb/b.a", 2}, {"aa.b/b.ba", 1},
            {"aabbccdd/bbccddaa", 6},
            // a and b break it together, but so does c alone.
            {"ababcc/cc..ab", 4},
        };
        for (Object[] one : cases) {
            ChannelTracks x = Check.channel((String) one[0]);
            CHECK.is(one[0] + ": breaking set", x.about(5), (Integer) one[1]);
            for (int net = 0; net < 6; net++) {
                x.cut(net, true);
            }
            CHECK.is(one[0] + ", all split: breaking set", x.about(5), (Integer) one[1]);
        }
        ChannelTracks x = Check.channel("a.b/baa");
        x.cut(0, true);
        CHECK.is("broken: cycle", x.about(4), 0);
        CHECK.is("broken: chain", x.about(3), 3);
    }

    private static void pin() {
        ChannelTracks x = Check.channel("af/.b");
        CHECK.is("pin(0, 0)", x.pin(0, 0), 0);
        CHECK.is("pin(1, 0)", x.pin(1, 0), 5);
        CHECK.is("pin(0, 1)", x.pin(0, 1), NONE);
        CHECK.is("pin(1, 1)", x.pin(1, 1), 1);
        CHECK.is("pin(2, 0)", x.pin(2, 0), UNKNOWN);
        CHECK.is("pin(-1, 0)", x.pin(-1, 0), UNKNOWN);
        CHECK.is("pin(0, 2)", x.pin(0, 2), OUTSIDE);
        CHECK.is("pin(0, -1)", x.pin(0, -1), OUTSIDE);
        CHECK.is("pin(2, 2)", x.pin(2, 2), UNKNOWN);
        CHECK.is("pin(max, 0)", x.pin(Integer.MAX_VALUE, 0), UNKNOWN);
    }

    private static void net() {
        ChannelTracks x = Check.channel(".a.aab/.a...b");
        int[] whole = {4, 1, 4, 0, 1};
        int[] apart = {4, 1, 4, 1, 2};
        for (int what = 0; what <= 4; what++) {
            CHECK.is("net(0, " + what + ")", x.net(0, what), whole[what]);
        }
        x.cut(0, true);
        for (int what = 0; what <= 4; what++) {
            CHECK.is("split: net(0, " + what + ")", x.net(0, what), apart[what]);
        }
        int[] one = {2, 5, 5, 0, 0};
        for (int what = 0; what <= 4; what++) {
            CHECK.is("net(1, " + what + ")", x.net(1, what), one[what]);
        }
        x.put(0, 1, 5);
        CHECK.is("net(5, 1)", x.net(5, 1), 0);
        CHECK.is("net(5, 2)", x.net(5, 2), 0);
        CHECK.is("net(0, 5)", x.net(0, 5), OUTSIDE);
        CHECK.is("net(0, -1)", x.net(0, -1), OUTSIDE);
        CHECK.is("net(2, 0)", x.net(2, 0), UNKNOWN);
        CHECK.is("net(2, 5)", x.net(2, 5), UNKNOWN);
        CHECK.is("net(6, 0)", x.net(6, 0), UNKNOWN);
        CHECK.is("net(-1, 0)", x.net(-1, 0), UNKNOWN);
    }

    private static void segmentIs(ChannelTracks x, int segment, int... wants) {
        for (int what = 0; what < wants.length; what++) {
            CHECK.is("segment(" + segment + ", " + what + ")", x.segment(segment, what), wants[what]);
        }
    }

    private static void segment() {
        ChannelTracks x = Check.channel("abc./.abc");
        x.set(1, 7);
        segmentIs(x, 0, 0, 0, 1, NONE, 0, 1, 2);
        segmentIs(x, 1, 1, 1, 2, 7, 1, 1, 1);
        segmentIs(x, 2, 2, 2, 3, NONE, 1, 0, 0);
        CHECK.is("segment(3, 0)", x.segment(3, 0), UNKNOWN);
        CHECK.is("segment(-1, 0)", x.segment(-1, 0), UNKNOWN);
        CHECK.is("segment(3, 7)", x.segment(3, 7), UNKNOWN);
        CHECK.is("segment(0, 7)", x.segment(0, 7), OUTSIDE);
        CHECK.is("segment(0, -1)", x.segment(0, -1), OUTSIDE);
        // A level is that of the longest sequence: c is over a at once, and over b over a.
        x = Check.channel("cbc/baa");
        segmentIs(x, 0, 0, 1, 2, NONE, 0, 2, 2);
        segmentIs(x, 2, 2, 0, 2, NONE, 2, 0, 0);
        // No levels with a cycle, not even for a segment apart from it.
        x = Check.channel("abcc/ba..");
        segmentIs(x, 2, 2, 2, 3, NONE, 0, 0, NONE);
    }

    private static void splitSegments() {
        ChannelTracks x = Check.channel("a.a.a/b...b");
        segmentIs(x, 0, 0, 0, 4, NONE, 1, 0, 0);
        segmentIs(x, 1, 1, 0, 4, NONE, 0, 1, 1);
        x.cut(0, true);
        segmentIs(x, 0, 0, 0, 2, NONE, 1, 0, 0);
        segmentIs(x, 1, 0, 2, 4, NONE, 1, 0, 0);
        segmentIs(x, 2, 1, 0, 4, NONE, 0, 2, 1);
        // The most segments that a channel can have.
        x = Check.channel("aaaaaaaa/bbbbbbbb");
        x.cut(0, true);
        CHECK.is("the most segments", x.cut(1, true), 14);
        segmentIs(x, 13, 1, 6, 7, NONE, 0, 2, 1);
        segmentIs(x, 1, 0, 1, 2, NONE, 3, 0, 0);
    }

    private static void above() {
        ChannelTracks x = Check.channel("abc./.abc");
        int[][] wants = {{0, 0, 0}, {1, 0, 0}, {0, 1, 0}};
        for (int one = 0; one < 3; one++) {
            for (int other = 0; other < 3; other++) {
                CHECK.is("above(" + one + ", " + other + ")", x.above(one, other), wants[one][other]);
            }
        }
        CHECK.is("above(3, 0)", x.above(3, 0), UNKNOWN);
        CHECK.is("above(0, 3)", x.above(0, 3), UNKNOWN);
        CHECK.is("above(-1, 0)", x.above(-1, 0), UNKNOWN);
        CHECK.is("above(0, -1)", x.above(0, -1), UNKNOWN);
        // Pieces are attached at their ends alone: b's first one does not reach column 2.
        x = Check.channel("bab/.b.");
        x.cut(1, true);
        x.put(2, 1, 0);
        CHECK.is("a over b's first piece", x.above(0, 1), 1);
        CHECK.is("b's second piece over a", x.above(2, 0), 1);
        CHECK.is("b's first piece over a", x.above(1, 0), 0);
        x = Check.channel("aa/a.");
        CHECK.is("a net over itself", x.above(0, 0), 0);
    }

    private static void may() {
        ChannelTracks x = Check.channel("abc./.abc");
        CHECK.is("may(0, 1), which overlap", x.may(0, 1), 0);
        CHECK.is("may(0, 2), with b between them", x.may(0, 2), 0);
        CHECK.is("may(2, 0), with b between them", x.may(2, 0), 0);
        CHECK.is("may(1, 1)", x.may(1, 1), 1);
        CHECK.is("may(3, 0)", x.may(3, 0), UNKNOWN);
        CHECK.is("may(0, 3)", x.may(0, 3), UNKNOWN);
        CHECK.is("may(-1, 0)", x.may(-1, 0), UNKNOWN);
        CHECK.is("may(0, -1)", x.may(0, -1), UNKNOWN);
        x = Check.channel("bba./.acc");
        CHECK.is("may(1, 2), with a between them", x.may(1, 2), 0);
        CHECK.is("may(2, 1), with a between them", x.may(2, 1), 0);
        x = Check.channel("aabb/....");
        CHECK.is("may(0, 1), apart", x.may(0, 1), 1);
        x = Check.channel("aab.b/..b..");
        CHECK.is("may(0, 1), side by side", x.may(0, 1), 1);
        x = Check.channel("abcc/ba..");
        CHECK.is("may(0, 0), on a cycle", x.may(0, 0), 0);
        CHECK.is("may(2, 2), beside a cycle", x.may(2, 2), 1);
        CHECK.is("may(0, 2), beside a cycle", x.may(0, 2), 1);
        x = Check.channel("aaa/...");
        x.cut(0, true);
        CHECK.is("may(0, 1), of one net", x.may(0, 1), 1);
        // Pieces of one net with b over the one and under the other.
        x = Check.channel("a.b/baa");
        x.cut(0, true);
        CHECK.is("may(0, 1), of one net with b between", x.may(0, 1), 0);
    }

    private static void ring(String channel, int... wants) {
        ChannelTracks x = Check.channel(channel);
        CHECK.is(channel + ": about(4)", x.about(4), wants.length);
        for (int place = 0; place < wants.length; place++) {
            CHECK.is(channel + ": ring(" + place + ")", x.ring(place), wants[place]);
        }
        CHECK.is(channel + ": ring behind the end", x.ring(wants.length), UNKNOWN);
        CHECK.is(channel + ": ring(-1)", x.ring(-1), UNKNOWN);
        CHECK.is(channel + ": ring(max)", x.ring(Integer.MAX_VALUE), UNKNOWN);
    }

    private static void rings() {
        ring("abc./.abc");
        ring("ab/ba", 0, 1);
        ring("acb/cba", 0, 2, 1);
        ring("aabbccdd/bbccddaa", 0, 1, 2, 3);
        // The shortest one, though another begins lower, or runs over lower segments.
        ring("abcde/bcaed", 3, 4);
        ring("abac/bcca", 0, 2);
        // The lexicographically smallest one, at its first and at a later place.
        ring("cdba/dcab", 0, 1);
        ring("abdbc/bdaca", 0, 1, 2);
    }

    private static void zone(String channel, int density, int... wants) {
        ChannelTracks x = Check.channel(channel);
        CHECK.is(channel + ": about(2)", x.about(2), density);
        CHECK.is(channel + ": about(6)", x.about(6), wants.length);
        for (int zone = 0; zone < wants.length; zone++) {
            CHECK.is(channel + ": zone(" + zone + ")", x.zone(zone), wants[zone]);
        }
        CHECK.is(channel + ": zone behind the end", x.zone(wants.length), UNKNOWN);
        CHECK.is(channel + ": zone(-1)", x.zone(-1), UNKNOWN);
        CHECK.is(channel + ": zone(max)", x.zone(Integer.MAX_VALUE), UNKNOWN);
    }

    private static void zones() {
        zone("../..", 0);
        zone("abc/abc", 0);
        zone("aab.b/.....", 1, 1, 2);
        zone("abc./.abc", 2, 3, 6);
        zone("c.cb.b/......", 1, 4, 2);
        zone("abccba/......", 3, 7);
        zone("abacbc../......dd", 2, 3, 6, 8);
        zone("abcdef../..abcdef", 3, 7, 14, 28, 56);
    }

    private static void withoutChannel() {
        ChannelTracks x = new ChannelTracks();
        CHECK.is("no channel: pin(0, 0)", x.pin(0, 0), UNKNOWN);
        CHECK.is("no channel: net(0, 9)", x.net(0, 9), UNKNOWN);
        CHECK.is("no channel: segment(0, 9)", x.segment(0, 9), UNKNOWN);
        CHECK.is("no channel: above(0, 0)", x.above(0, 0), UNKNOWN);
        CHECK.is("no channel: may(0, 0)", x.may(0, 0), UNKNOWN);
        CHECK.is("no channel: ring(0)", x.ring(0), UNKNOWN);
        CHECK.is("no channel: zone(0)", x.zone(0), UNKNOWN);
    }
}
