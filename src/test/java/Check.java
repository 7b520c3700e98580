import java.util.function.Supplier;

/** Counts answers that are as due, and prints those that are not. */
final class Check {
    /** A call on an object, for tests that make the object themselves. */
    interface Call {
        long on(ChannelTracks x);
    }

    private final String name;
    private String sentence = "";
    private int right;
    private int wrong;

    Check(String name) {
        this.name = name;
    }

    /** Names the sentence of the document that the checks from here on are about. */
    void sentence(String words) {
        sentence = " [" + words + "]";
    }

    void is(String call, long got, long want) {
        that(call + " answered " + got + ", due is " + want, got == want);
    }

    void that(String complaint, boolean holds) {
        if (holds) {
            right++;
        } else {
            wrong++;
            System.out.println(name + ": " + complaint + sentence);
        }
    }

    /** A refused call: its answer, and that then all is as in an object that did not do it. */
    void refused(Supplier<ChannelTracks> made, String call, Call done, int want) {
        ChannelTracks x = made.get();
        is(call, done.on(x), want);
        String untouched = state(made.get());
        String then = state(x);
        that("after " + call + ":\n  " + then + "\n  but without it\n  " + untouched, then.equals(untouched));
    }

    /** A question with a refused argument: in each of these ways the same answer, and no change. */
    void refusedFor(Supplier<ChannelTracks> made, String call, IntCall done, int want, int... arguments) {
        for (int argument : arguments) {
            refused(made, call.replace("?", "" + argument), x -> done.on(x, argument), want);
        }
    }

    /** A call with one argument left open. */
    interface IntCall {
        long on(ChannelTracks x, int argument);
    }

    void finish() {
        System.out.println(name + ": " + right + " answers as due, " + wrong + " not");
        if (wrong != 0 || right == 0) {
            System.exit(1);
        }
    }

    static void type(ChannelTracks x, String text) {
        for (int i = 0; i < text.length(); i++) {
            x.letter(text.charAt(i));
        }
    }

    static ChannelTracks typed(String text) {
        ChannelTracks x = new ChannelTracks();
        type(x, text);
        return x;
    }

    /** A new object that has read this channel. */
    static ChannelTracks channel(String text) {
        ChannelTracks x = typed(text);
        if (x.channel() < 0) {
            throw new IllegalStateException("no channel: " + text);
        }
        return x;
    }

    static int say(ChannelTracks x, String command) {
        x.blank();
        type(x, command);
        return x.say();
    }

    /** The plan as ink() tells it, up to the first place that is unknown. */
    static String ink(ChannelTracks x) {
        StringBuilder text = new StringBuilder();
        for (int place = 0; x.ink(place) != ChannelTracks.UNKNOWN; place++) {
            text.append((char) x.ink(place));
        }
        return text.toString();
    }

    /** The tracks of all segments, with a minus for none. */
    static String tracks(ChannelTracks x) {
        StringBuilder text = new StringBuilder();
        for (int s = 0; x.segment(s, 3) != ChannelTracks.UNKNOWN; s++) {
            int track = x.segment(s, 3);
            text.append(s == 0 ? "" : " ").append(track == ChannelTracks.NONE ? "-" : "" + track);
        }
        return text.toString();
    }

    /** All that the object answers, by calls that change nothing; some 300 calls for a small channel. */
    static String state(ChannelTracks x) {
        StringBuilder all = new StringBuilder();
        all.append("text ").append(x.fault(0)).append(' ').append(x.fault(1)).append(" count");
        for (int what = 0; what <= 8; what++) {
            all.append(' ').append(x.count(what));
        }
        all.append(" about");
        for (int what = 0; what <= 9; what++) {
            all.append(' ').append(x.about(what));
        }
        stateOfNets(x, all);
        stateOfSegments(x, all);
        return all.append(" digest ").append(x.digest()).toString();
    }

    private static void stateOfNets(ChannelTracks x, StringBuilder all) {
        all.append(" pins");
        for (int column = 0; column < x.count(0); column++) {
            all.append(' ').append(x.pin(column, 0)).append('/').append(x.pin(column, 1));
        }
        all.append(" nets");
        for (int net = 0; net < 6; net++) {
            for (int what = 0; what <= 4; what++) {
                all.append(what == 0 ? ' ' : ',').append(x.net(net, what));
            }
        }
        all.append(" zones");
        for (int zone = 0; x.zone(zone) != ChannelTracks.UNKNOWN; zone++) {
            all.append(' ').append(x.zone(zone));
        }
    }

    private static void stateOfSegments(ChannelTracks x, StringBuilder all) {
        int segments = x.count(4);
        all.append(" segments");
        for (int s = 0; s < segments; s++) {
            for (int what = 0; what <= 6; what++) {
                all.append(what == 0 ? ' ' : ',').append(x.segment(s, what));
            }
            for (int t = 0; t < segments; t++) {
                all.append(' ').append(x.above(s, t)).append(x.may(s, t));
            }
        }
        all.append(" ring");
        for (int place = 0; x.ring(place) != ChannelTracks.UNKNOWN; place++) {
            all.append(' ').append(x.ring(place));
        }
        all.append(" ink ").append(ink(x)).append(" cells");
        for (int track = 0; track < Math.max(0, x.about(7)); track++) {
            for (int column = 0; column < x.count(0); column++) {
                all.append(' ').append(x.cell(track, column, 1));
            }
        }
    }
}
