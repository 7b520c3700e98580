/** Promises 16 to 18: put, turn, cut. */
public final class ChangesTest {
    private static final Check CHECK = new Check("ChangesTest");
    private static final int NONE = -1, UNKNOWN = -101, OUTSIDE = -102, STATE = -103;

    public static void main(String[] args) {
        put();
        putErrors();
        putKeepsSplits();
        turn();
        cut();
        cutErrors();
        changesTakeTracksAway();
        CHECK.finish();
    }

    private static void put() {
        ChannelTracks x = Check.channel("a.a/.b.");
        CHECK.is("put(1, 0, 5)", x.put(1, 0, 5), NONE);
        CHECK.is("pin(1, 0)", x.pin(1, 0), 5);
        CHECK.is("put(1, 1, 5)", x.put(1, 1, 5), 1);
        CHECK.is("net(1, 0)", x.net(1, 0), UNKNOWN);
        CHECK.is("net(5, 0)", x.net(5, 0), 2);
        CHECK.is("segments of f", x.net(5, 4), 0);
        CHECK.is("put(2, 1, 5)", x.put(2, 1, 5), NONE);
        CHECK.is("segments of f", x.net(5, 4), 1);
        CHECK.is("a over f", x.above(0, 1), 1);
        CHECK.is("put(0, 0, NONE)", x.put(0, 0, NONE), 0);
        CHECK.is("pin(0, 0)", x.pin(0, 0), NONE);
        CHECK.is("segments of a", x.net(0, 4), 0);
        CHECK.is("put(0, 0, NONE) again", x.put(0, 0, NONE), NONE);
        CHECK.is("density then", x.about(2), 1);
    }

    private static void unchanged(ChannelTracks x, String call, int got, int want, long before) {
        CHECK.is(call, got, want);
        CHECK.is("digest() after " + call, x.digest(), before);
    }

    private static void putErrors() {
        ChannelTracks x = Check.channel("ab./.ab");
        x.pack();
        long d = x.digest();
        unchanged(x, "put(3, 0, 0)", x.put(3, 0, 0), UNKNOWN, d);
        unchanged(x, "put(-1, 0, 0)", x.put(-1, 0, 0), UNKNOWN, d);
        unchanged(x, "put(3, 2, 0)", x.put(3, 2, 0), UNKNOWN, d);
        unchanged(x, "put(3, 0, 6)", x.put(3, 0, 6), UNKNOWN, d);
        unchanged(x, "put(0, 2, 0)", x.put(0, 2, 0), OUTSIDE, d);
        unchanged(x, "put(0, -1, 0)", x.put(0, -1, 0), OUTSIDE, d);
        unchanged(x, "put(0, 0, 6)", x.put(0, 0, 6), OUTSIDE, d);
        unchanged(x, "put(0, 0, -2)", x.put(0, 0, -2), OUTSIDE, d);
        unchanged(x, "put(max, 0, 0)", x.put(Integer.MAX_VALUE, 0, 0), UNKNOWN, d);
        CHECK.is("no channel: put(0, 0, 0)", new ChannelTracks().put(0, 0, 0), UNKNOWN);
        CHECK.is("no channel: put(0, 9, 9)", new ChannelTracks().put(0, 9, 9), UNKNOWN);
    }

    private static void putKeepsSplits() {
        ChannelTracks x = Check.channel("aaa/...");
        x.cut(0, true);
        for (int column = 0; column < 3; column++) {
            x.put(column, 0, NONE);
        }
        CHECK.is("count(2) without a", x.count(2), 0);
        CHECK.is("count(3) without a", x.count(3), 1);
        for (int column = 0; column < 3; column++) {
            x.put(column, 1, 0);
        }
        CHECK.is("a split when it comes back", x.net(0, 3), 1);
        CHECK.is("segments when it comes back", x.count(4), 2);
        x.turn(1);
        CHECK.is("a split after turn(1)", x.net(0, 3), 1);
    }

    private static void turn() {
        ChannelTracks x = Check.channel("ab/ba");
        CHECK.is("turn(1)", x.turn(1), 0);
        CHECK.is("pin(1, 0)", x.pin(1, 0), 0);
        CHECK.is("pin(1, 1)", x.pin(1, 1), 1);
        CHECK.is("no cycle then", x.about(4), 0);
        CHECK.is("turn(0)", x.turn(0), 1);
        CHECK.is("a cycle then", x.about(4), 2);
        x = Check.channel("ab/.b");
        CHECK.is("turn(0) of a pin without a net", x.turn(0), NONE);
        CHECK.is("pin(0, 1)", x.pin(0, 1), 0);
        CHECK.is("turn(1) of twice the same net", x.turn(1), 1);
        long d = x.digest();
        unchanged(x, "turn(2)", x.turn(2), UNKNOWN, d);
        unchanged(x, "turn(-1)", x.turn(-1), UNKNOWN, d);
        unchanged(x, "turn(max)", x.turn(Integer.MAX_VALUE), UNKNOWN, d);
        CHECK.is("no channel: turn(0)", new ChannelTracks().turn(0), UNKNOWN);
    }

    private static void cut() {
        ChannelTracks x = Check.channel("ababb/a....");
        CHECK.is("cut(0, true)", x.cut(0, true), 2);
        CHECK.is("cut(1, true)", x.cut(1, true), 3);
        CHECK.is("cut(5, true), which does not exist", x.cut(5, true), 3);
        CHECK.is("count(3)", x.count(3), 3);
        CHECK.is("cut(1, false)", x.cut(1, false), 2);
        CHECK.is("cut(5, false)", x.cut(5, false), 2);
        CHECK.is("count(3)", x.count(3), 1);
        x = Check.channel("aaaaaaaa/a......a");
        CHECK.is("cut() of a net in 8 columns", x.cut(0, true), 7);
    }

    private static void cutErrors() {
        ChannelTracks x = Check.channel("ab./.ab");
        x.cut(1, true);
        x.pack();
        long d = x.digest();
        unchanged(x, "cut(6, true)", x.cut(6, true), UNKNOWN, d);
        unchanged(x, "cut(-1, false)", x.cut(-1, false), UNKNOWN, d);
        unchanged(x, "cut(33, true)", x.cut(33, true), UNKNOWN, d);
        unchanged(x, "cut(0, false)", x.cut(0, false), STATE, d);
        unchanged(x, "cut(1, true)", x.cut(1, true), STATE, d);
        unchanged(x, "cut(5, false)", x.cut(5, false), STATE, d);
        CHECK.is("no channel: cut(0, true)", new ChannelTracks().cut(0, true), UNKNOWN);
        CHECK.is("no channel: cut(0, false)", new ChannelTracks().cut(0, false), UNKNOWN);
    }

    private static void changesTakeTracksAway() {
        ChannelTracks x = Check.channel("ab./.ab");
        x.pack();
        x.put(0, 0, 0);
        CHECK.is("tracks after put() of the same net", x.count(5), 0);
        x.pack();
        x.turn(0);
        CHECK.is("tracks after turn()", x.count(5), 0);
        x.pack();
        x.cut(5, true);
        CHECK.is("tracks after cut() of a net that does not exist", x.count(5), 0);
        CHECK.is("depth then", x.about(7), 0);
    }
}
