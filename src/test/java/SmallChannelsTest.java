/** All channels of a few columns and nets, and some of the largest, by their digests. */
public final class SmallChannelsTest {
    private static final Check CHECK = new Check("SmallChannelsTest");

    public static void main(String[] args) {
        all(2, 6);
        all(3, 3);
        all(4, 2);
        // The most segments and the longest plans, with and without cycles.
        compare("aaaaaaaa/bbbbbbbb", 3);
        compare("abababab/babababa", 3);
        compare("aabbccdd/bbccddaa", 15);
        compare("abcdefab/fedcbafe", 63);
        compare("aabbaacc/bbccbbdd", 15);
        CHECK.finish();
    }

    private static void all(int columns, int nets) {
        String signs = ".abcdef".substring(0, nets + 1);
        int channels = 1;
        for (int pin = 0; pin < 2 * columns; pin++) {
            channels *= signs.length();
        }
        for (int number = 0; number < channels; number++) {
            StringBuilder text = new StringBuilder();
            for (int rest = number, place = 0; place <= 2 * columns; place++) {
                if (place == columns) {
                    text.append('/');
                } else {
                    text.append(signs.charAt(rest % signs.length()));
                    rest /= signs.length();
                }
            }
            compare(text.toString(), number % (1 << nets));
        }
    }

    private static void compare(String text, int splits) {
        ChannelTracks x = Check.typed(text);
        Reference due = new Reference();
        for (int i = 0; i < text.length(); i++) {
            due.letter(text.charAt(i));
        }
        CHECK.is(text + ": channel()", x.channel(), due.channel());
        CHECK.is(text + ": pack()", x.pack(), due.pack());
        CHECK.is(text + ": digest()", x.digest(), due.digest());
        for (int net = 0; net < 6; net++) {
            if ((splits & 1 << net) != 0) {
                CHECK.is(text + ": cut()", x.cut(net, true), due.cut(net, true));
            }
        }
        String name = text + ", split " + splits;
        CHECK.is(name + ": best()", x.best(), due.best());
        CHECK.is(name + ": digest()", x.digest(), due.digest());
        CHECK.is(name + ": pack()", x.pack(), due.pack());
        for (int segment = 0; segment < x.count(4); segment += 3) {
            CHECK.is(name + ": set()", x.set(segment, segment), due.set(segment, segment));
        }
        CHECK.is(name + ": digest() after set()", x.digest(), due.digest());
    }
}
