/** Promises 24 and 25: count, digest. */
public final class NumbersTest {
    private static final Check CHECK = new Check("NumbersTest");
    private static final int UNKNOWN = -101, OUTSIDE = -102;

    public static void main(String[] args) {
        countWithoutChannel();
        count();
        digestWithoutChannel();
        digests();
        CHECK.finish();
    }

    private static void counts(ChannelTracks x, String name, int... wants) {
        for (int what = 0; what < wants.length; what++) {
            CHECK.is(name + ": count(" + what + ")", x.count(what), wants[what]);
        }
    }

    private static void countWithoutChannel() {
        ChannelTracks x = Check.typed("abc");
        counts(x, "no channel", 0, 0, 0, 0, 0, 0, 3, 0, 0);
        CHECK.is("count(9)", x.count(9), OUTSIDE);
        CHECK.is("count(-1)", x.count(-1), OUTSIDE);
        CHECK.is("count(max)", x.count(Integer.MAX_VALUE), OUTSIDE);
    }

    private static void count() {
        ChannelTracks x = Check.channel("abc.c/.ab.c");
        counts(x, "read", 5, 7, 3, 0, 3, 0, 0, 1, 0);
        x.cut(2, true);
        x.cut(4, true);
        x.set(0, 3);
        x.letter(120);
        counts(x, "changed", 5, 7, 3, 2, 3, 1, 1, 1, 0);
        x.best();
        x.best();
        counts(x, "best", 5, 7, 3, 2, 3, 3, 1, 1, 2);
        x.blank();
        Check.type(x, "../..");
        x.channel();
        counts(x, "read again", 2, 0, 0, 0, 0, 0, 0, 2, 2);
        CHECK.is("count(9)", x.count(9), OUTSIDE);
        CHECK.is("count(-1)", x.count(-1), OUTSIDE);
    }

    private static void digestWithoutChannel() {
        long h = 1489;
        for (int i = 0; i < 9; i++) {
            h *= 31;
        }
        CHECK.is("digest() of a new object", new ChannelTracks().digest(), h);
        h = (1489L * 31 + 120) * 31 + 121;
        int[] counts = {0, 0, 0, 0, 0, 0, 2, 0, 0};
        for (int count : counts) {
            h = 31 * h + count;
        }
        CHECK.is("digest() of a text", Check.typed("xy").digest(), h);
    }

    /** The digest put together from the other answers. */
    private static long folded(ChannelTracks x, String text) {
        long h = 1489;
        for (int what = 0; what <= 9; what++) {
            h = 31 * h + x.about(what);
        }
        for (int column = 0; column < x.about(0); column++) {
            h = 31 * h + x.pin(column, 0);
            h = 31 * h + x.pin(column, 1);
        }
        for (int net = 0; net < 6; net++) {
            h = 31 * h + Math.max(0, x.net(net, 3));
        }
        for (int s = 0; s < x.about(1); s++) {
            for (int what = 0; what <= 6; what++) {
                h = 31 * h + x.segment(s, what);
            }
        }
        for (int place = 0; x.ring(place) != UNKNOWN; place++) {
            h = 31 * h + x.ring(place);
        }
        for (int zone = 0; x.zone(zone) != UNKNOWN; zone++) {
            h = 31 * h + x.zone(zone);
        }
        for (int place = 0; x.ink(place) != UNKNOWN; place++) {
            h = 31 * h + x.ink(place);
        }
        for (int track = 0; track < x.about(7); track++) {
            for (int column = 0; column < x.about(0); column++) {
                h = 31 * h + x.cell(track, column, 1);
            }
        }
        for (int i = 0; i < text.length(); i++) {
            h = 31 * h + text.charAt(i);
        }
        for (int what = 0; what <= 8; what++) {
            h = 31 * h + x.count(what);
        }
        return h;
    }

    // In these channels all nets exist, so that net(.., 3) tells which are split.
    private static void digests() {
        String[] channels = {"abcdef../..abcdef", "abcdef/bcdefa", "abcdef/abcdef"};
        for (String channel : channels) {
            ChannelTracks x = Check.channel(channel);
            CHECK.is(channel + ": digest()", x.digest(), folded(x, ""));
            x.cut(0, true);
            x.cut(5, true);
            x.pack();
            Check.type(x, "pa ck");
            CHECK.is(channel + ", packed: digest()", x.digest(), folded(x, "pa ck"));
            x.set(0, 13);
            CHECK.is(channel + ", set: digest()", x.digest(), folded(x, "pa ck"));
            x.best();
            CHECK.is(channel + ", best: digest()", x.digest(), folded(x, "pa ck"));
        }
    }
}
