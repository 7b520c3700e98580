/** Counts answers that are as due, and prints those that are not. */
final class Check {
    private final String name;
    private int right;
    private int wrong;

    Check(String name) {
        this.name = name;
    }

    void is(String call, long got, long want) {
        that(call + " answered " + got + ", due is " + want, got == want);
    }

    void that(String complaint, boolean holds) {
        if (holds) {
            right++;
        } else {
            wrong++;
            System.out.println(name + ": " + complaint);
        }
    }

    void finish() {
        System.out.println(name + ": " + right + " answers as due, " + wrong + " not");
        if (wrong != 0 || right == 0) {
            System.exit(1);
        }
    }

    static void type(ChannelTracks x, String text) {
        for (int i = 0; i < text.length(); i++) {
            x.letter(text.charAt(i));
        }
    }

    static ChannelTracks typed(String text) {
        ChannelTracks x = new ChannelTracks();
        type(x, text);
        return x;
    }

    /** A new object that has read this channel. */
    static ChannelTracks channel(String text) {
        ChannelTracks x = typed(text);
        if (x.channel() < 0) {
            throw new IllegalStateException("no channel: " + text);
        }
        return x;
    }

    static int say(ChannelTracks x, String command) {
        x.blank();
        type(x, command);
        return x.say();
    }

    /** The plan as ink() tells it, up to the first place that is unknown. */
    static String ink(ChannelTracks x) {
        StringBuilder text = new StringBuilder();
        for (int place = 0; x.ink(place) != ChannelTracks.UNKNOWN; place++) {
            text.append((char) x.ink(place));
        }
        return text.toString();
    }

    /** The tracks of all segments, with a minus for none. */
    static String tracks(ChannelTracks x) {
        StringBuilder text = new StringBuilder();
        for (int s = 0; x.segment(s, 3) != ChannelTracks.UNKNOWN; s++) {
            int track = x.segment(s, 3);
            text.append(s == 0 ? "" : " ").append(track == ChannelTracks.NONE ? "-" : "" + track);
        }
        return text.toString();
    }
}
