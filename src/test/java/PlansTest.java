/** Promises 19 to 23: set, clear, pack, best, cell. */
public final class PlansTest {
    private static final Check CHECK = new Check("PlansTest");
    private static final int NONE = -1, UNKNOWN = -101, OUTSIDE = -102, STATE = -103;

    public static void main(String[] args) {
        set();
        clear();
        packs();
        packErrors();
        bests();
        bestTimes();
        bestErrors();
        cellsOfPlan();
        cellsOfPartOfPlan();
        cellsOfOneNet();
        cellErrors();
        CHECK.finish();
    }

    private static void set() {
        ChannelTracks x = Check.channel("ab./.ab");
        CHECK.is("set(0, 0)", x.set(0, 0), NONE);
        CHECK.is("set(0, 13)", x.set(0, 13), 0);
        CHECK.is("set(0, NONE)", x.set(0, NONE), 13);
        CHECK.is("set(0, NONE) again", x.set(0, NONE), NONE);
        CHECK.is("set(1, 4)", x.set(1, 4), NONE);
        CHECK.is("segment(0, 3)", x.segment(0, 3), NONE);
        CHECK.is("segment(1, 3)", x.segment(1, 3), 4);
        CHECK.is("count(5)", x.count(5), 1);
        CHECK.is("set(2, 0)", x.set(2, 0), UNKNOWN);
        CHECK.is("set(-1, 0)", x.set(-1, 0), UNKNOWN);
        CHECK.is("set(2, 14)", x.set(2, 14), UNKNOWN);
        CHECK.is("set(1, 14)", x.set(1, 14), OUTSIDE);
        CHECK.is("set(1, -2)", x.set(1, -2), OUTSIDE);
        CHECK.is("set(1, max)", x.set(1, Integer.MAX_VALUE), OUTSIDE);
        CHECK.is("segment(1, 3) after errors", x.segment(1, 3), 4);
        CHECK.is("no channel: set(0, 0)", new ChannelTracks().set(0, 0), UNKNOWN);
    }

    private static void clear() {
        ChannelTracks x = Check.channel("abc./.abc");
        CHECK.is("clear() without tracks", x.clear(), 0);
        x.set(0, 0);
        x.set(2, 13);
        CHECK.is("clear()", x.clear(), 2);
        CHECK.is("depth then", x.about(7), 0);
        CHECK.is("segment(2, 3) then", x.segment(2, 3), NONE);
        CHECK.is("no channel: clear()", new ChannelTracks().clear(), STATE);
    }

    private static void pack(String channel, int splits, String tracks) {
        ChannelTracks x = Check.channel(channel);
        for (int net = 0; net < 6; net++) {
            if ((splits & 1 << net) != 0) {
                x.cut(net, true);
            }
        }
        // A plan before it must not matter.
        x.set(0, 9);
        int depth = x.pack();
        CHECK.is(channel + ": pack()", depth, x.about(7));
        CHECK.that(channel + ": packed as " + Check.tracks(x), Check.tracks(x).equals(tracks));
        CHECK.is(channel + ": valid", x.about(8), 1);
    }

    private static void packs() {
        pack("abc./.abc", 0, "2 1 0");
        pack("ba../..ba", 0, "1 0");
        pack("bbaa/....", 0, "0 0");
        pack("dcdac/....a", 0, "2 1 0");
        pack("a.a.a/b...b", 0, "0 1");
        pack("a.a.a/b...b", 1, "0 0 1");
        pack("a.b/baa", 1, "0 2 1");
        pack("aabbccdd/bbccddaa", 15, "0 2 2 3 3 0 4 1 0 3 1 0");
        CHECK.is("pack() without segments", Check.channel("ab/ab").pack(), 0);
        ChannelTracks x = Check.channel("aaaaaaaa/bbbbbbbb");
        x.cut(0, true);
        x.cut(1, true);
        CHECK.is("pack() of 14 segments", x.pack(), 2);
    }

    private static void packErrors() {
        CHECK.is("no channel: pack()", new ChannelTracks().pack(), STATE);
        ChannelTracks x = Check.channel("ab/ba");
        x.set(0, 3);
        CHECK.is("pack() with a cycle", x.pack(), STATE);
        CHECK.is("segment(0, 3) after it", x.segment(0, 3), 3);
    }

    private static void best(String channel, int depth, String tracks) {
        ChannelTracks x = Check.channel(channel);
        x.set(0, 9);
        CHECK.is(channel + ": best()", x.best(), depth);
        CHECK.that(channel + ": best as " + Check.tracks(x), Check.tracks(x).equals(tracks));
        CHECK.is(channel + ": valid", x.about(8), 1);
        CHECK.is(channel + ": depth", x.about(7), depth);
    }

    private static void bests() {
        best("ba../..ba", 2, "0 1");
        best("abc./.abc", 3, "2 1 0");
        // Better than pack(), which puts d on the first track.
        best("dcdac/....a", 2, "1 0 1");
        best("bbaa/....", 1, "0 0");
        // d may lie on any of three tracks.
        best("abc.dd/.abc..", 3, "2 1 0 0");
        // Density and chain are 3, but a and b overlap, and both lie between c and d.
        best("bacc/ddab", 4, "1 2 0 3");
        best("ab/ab", 0, "");
    }

    private static void bestTimes() {
        ChannelTracks x = Check.channel("ba../..ba");
        for (int time = 1; time <= 20; time++) {
            CHECK.is("best(), time " + time, time % 2 == 0 ? x.best() : Check.say(x, "best"), 2);
            CHECK.is("count(8)", x.count(8), time);
        }
        x.pack();
        CHECK.is("best(), time 21", x.best(), STATE);
        CHECK.is("say() of best, time 21", Check.say(x, "best"), STATE);
        CHECK.is("count(8)", x.count(8), 20);
        CHECK.that("the plan after it: " + Check.tracks(x), Check.tracks(x).equals("1 0"));
        x.blank();
        Check.type(x, "aa/bb");
        x.channel();
        CHECK.is("best() of another channel", x.best(), STATE);
    }

    private static void bestErrors() {
        CHECK.is("no channel: best()", new ChannelTracks().best(), STATE);
        ChannelTracks x = Check.channel("ab/ba");
        x.set(1, 5);
        CHECK.is("best() with a cycle", x.best(), STATE);
        CHECK.is("segment(1, 3) after it", x.segment(1, 3), 5);
        x = Check.channel("aaaaaaaa/bbb.....");
        x.cut(0, true);
        CHECK.is("best() with 8 segments", x.best(), 2);
        x.cut(1, true);
        CHECK.is("best() with 9 segments", x.best(), STATE);
        CHECK.is("count(8)", x.count(8), 1);
    }

    private static void row(ChannelTracks x, int track, int layer, int... wants) {
        for (int column = 0; column < wants.length; column++) {
            String call = "cell(" + track + ", " + column + ", " + layer + ")";
            CHECK.is(call, x.cell(track, column, layer), wants[column]);
        }
    }

    private static void cellsOfPlan() {
        ChannelTracks x = Check.channel("abc./.abc");
        x.pack();
        row(x, 0, 0, NONE, NONE, 2, 2);
        row(x, 1, 0, NONE, 1, 1, NONE);
        row(x, 2, 0, 0, 0, NONE, NONE);
        row(x, 0, 1, 0, 1, 2, 2);
        row(x, 1, 1, 0, 1, 1, 2);
        row(x, 2, 1, 0, 0, 1, 2);
        for (int s = 0; s < 3; s++) {
            x.set(s, 0);
        }
        row(x, 0, 0, 0, 0, 1, 2);
        row(x, 0, 1, 0, 0, 1, 2);
    }

    private static void cellsOfPartOfPlan() {
        ChannelTracks x = Check.channel("abc./.abc");
        x.set(1, 5);
        row(x, 0, 0, NONE, NONE, NONE, NONE);
        row(x, 5, 0, NONE, 1, 1, NONE);
        row(x, 0, 1, NONE, 1, NONE, NONE);
        row(x, 4, 1, NONE, 1, NONE, NONE);
        row(x, 5, 1, NONE, 1, 1, NONE);
        // A split net's wire ends at the lower of the two pieces that meet below a top pin.
        x = Check.channel("aaa/...");
        x.cut(0, true);
        x.set(0, 0);
        x.set(1, 2);
        row(x, 0, 1, 0, 0, 0);
        row(x, 1, 1, NONE, 0, 0);
        row(x, 2, 1, NONE, 0, 0);
        x = Check.channel(".../aaa");
        x.cut(0, true);
        x.set(0, 0);
        x.set(1, 2);
        row(x, 0, 1, 0, 0, NONE);
        row(x, 1, 1, 0, 0, NONE);
        row(x, 2, 1, 0, 0, 0);
    }

    private static void cellsOfOneNet() {
        ChannelTracks x = Check.channel("abb/acc");
        x.pack();
        row(x, 0, 0, NONE, 1, 1);
        row(x, 0, 1, 0, 1, 1);
        row(x, 1, 1, 0, 2, 2);
        CHECK.is("conflicts", x.about(9), 0);
    }

    private static void cellErrors() {
        ChannelTracks x = Check.channel("ab./.ab");
        CHECK.is("cell(0, 0, 0) without tracks", x.cell(0, 0, 0), UNKNOWN);
        x.pack();
        CHECK.is("cell(2, 0, 0)", x.cell(2, 0, 0), UNKNOWN);
        CHECK.is("cell(-1, 0, 0)", x.cell(-1, 0, 0), UNKNOWN);
        CHECK.is("cell(0, 3, 0)", x.cell(0, 3, 0), UNKNOWN);
        CHECK.is("cell(0, -1, 0)", x.cell(0, -1, 0), UNKNOWN);
        CHECK.is("cell(2, 0, 2)", x.cell(2, 0, 2), UNKNOWN);
        CHECK.is("cell(0, 3, 2)", x.cell(0, 3, 2), UNKNOWN);
        CHECK.is("cell(0, 0, 2)", x.cell(0, 0, 2), OUTSIDE);
        CHECK.is("cell(0, 0, -1)", x.cell(0, 0, -1), OUTSIDE);
        CHECK.is("no channel: cell(0, 0, 0)", new ChannelTracks().cell(0, 0, 0), UNKNOWN);
        CHECK.is("no channel: cell(0, 0, 9)", new ChannelTracks().cell(0, 0, 9), UNKNOWN);
    }
}
