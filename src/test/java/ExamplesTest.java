/** The three examples of the document's description, call by call. */
public final class ExamplesTest {
    private static final Check CHECK = new Check("ExamplesTest");

    public static void main(String[] args) {
        cycleThatNoSplitBreaks();
        planForOneSegment();
        wrongCharacterAndNoChannel();
        CHECK.finish();
    }

    private static void letters(ChannelTracks x, int... codes) {
        for (int i = 0; i < codes.length; i++) {
            CHECK.is("letter(" + codes[i] + ")", x.letter(codes[i]), i + 1);
        }
    }

    private static void cycleThatNoSplitBreaks() {
        ChannelTracks x = new ChannelTracks();
        letters(x, 97, 98, 47, 98, 97);
        CHECK.is("channel()", x.channel(), 2);
        CHECK.is("about(1)", x.about(1), 2);
        CHECK.is("about(4)", x.about(4), 2);
        CHECK.is("about(5)", x.about(5), -1);
        CHECK.is("ring(1)", x.ring(1), 1);
        CHECK.is("cut(0, true)", x.cut(0, true), 2);
        CHECK.is("pack()", x.pack(), -103);
        CHECK.is("cut(0, false)", x.cut(0, false), 2);
        CHECK.is("may(0, 1)", x.may(0, 1), 0);
        CHECK.is("segment(0, 6)", x.segment(0, 6), -1);
        CHECK.is("count(4)", x.count(4), 2);
    }

    private static void planForOneSegment() {
        ChannelTracks x = new ChannelTracks();
        letters(x, 97, 46, 98, 47, 46, 97, 98);
        CHECK.is("channel()", x.channel(), 3);
        CHECK.is("about(2)", x.about(2), 1);
        CHECK.is("segment(0, 2)", x.segment(0, 2), 1);
        CHECK.is("set(0, 1)", x.set(0, 1), -1);
        CHECK.is("about(8)", x.about(8), 1);
        CHECK.is("ink(4)", x.ink(4), 97);
        CHECK.is("cell(0, 0, 1)", x.cell(0, 0, 1), 0);
        CHECK.is("best()", x.best(), 1);
        CHECK.is("digest()", x.digest(), 7212687688515093568L);
    }

    private static void wrongCharacterAndNoChannel() {
        ChannelTracks x = new ChannelTracks();
        letters(x, 116, 117, 114, 110, 32, 120);
        CHECK.is("fault(0)", x.fault(0), 0);
        CHECK.is("fault(1)", x.fault(1), 5);
        CHECK.is("say()", x.say(), -103);
        CHECK.is("blank()", x.blank(), 6);
        CHECK.is("pin(0, 2)", x.pin(0, 2), -101);
        CHECK.is("net(0, 0)", x.net(0, 0), -101);
        CHECK.is("cut(0, true)", x.cut(0, true), -101);
        CHECK.is("pack()", x.pack(), -103);
        CHECK.is("about(10)", x.about(10), -102);
        CHECK.is("count(9)", x.count(9), -102);
    }
}
