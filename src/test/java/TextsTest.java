/** Promises 1 to 7: a new object, letter, blank, fault, channel, say, ink. */
public final class TextsTest {
    private static final Check CHECK = new Check("TextsTest");
    private static final int NONE = -1, UNKNOWN = -101, OUTSIDE = -102, STATE = -103, FULL = -104;

    public static void main(String[] args) {
        newObject();
        letter();
        blank();
        faultsOfChannels();
        faultsOfCommands();
        channelRead();
        channelRefused();
        channelReplaced();
        sayEachCommand();
        sayRefused();
        sayKeepsTextOnError();
        ink();
        CHECK.finish();
    }

    private static void newObject() {
        ChannelTracks x = new ChannelTracks();
        for (int what = 0; what <= 8; what++) {
            CHECK.is("new: count(" + what + ")", x.count(what), 0);
        }
        CHECK.is("new: about(0)", x.about(0), STATE);
        CHECK.is("new: blank()", x.blank(), 0);
        CHECK.is("new: ink(0)", x.ink(0), UNKNOWN);
    }

    private static void letter() {
        ChannelTracks x = new ChannelTracks();
        CHECK.is("letter(31)", x.letter(31), OUTSIDE);
        CHECK.is("letter(127)", x.letter(127), OUTSIDE);
        CHECK.is("letter(min)", x.letter(Integer.MIN_VALUE), OUTSIDE);
        CHECK.is("letter(max)", x.letter(Integer.MAX_VALUE), OUTSIDE);
        CHECK.is("letter(32)", x.letter(32), 1);
        CHECK.is("letter(126)", x.letter(126), 2);
        for (int held = 3; held <= 20; held++) {
            CHECK.is("letter(97)", x.letter(97), held);
        }
        CHECK.is("letter(97) when full", x.letter(97), FULL);
        CHECK.is("letter(31) when full", x.letter(31), OUTSIDE);
        CHECK.is("count(6) when full", x.count(6), 20);
    }

    private static void blank() {
        ChannelTracks x = Check.typed("abc");
        CHECK.is("blank()", x.blank(), 3);
        CHECK.is("blank() again", x.blank(), 0);
        CHECK.is("letter(97) then", x.letter(97), 1);
    }

    private static void fault(int what, String text, int want) {
        ChannelTracks x = Check.typed(text);
        CHECK.is("fault(" + what + ") of '" + text + "'", x.fault(what), want);
        CHECK.is("count(6) after fault()", x.count(6), text.length());
    }

    private static void faultsOfChannels() {
        Object[][] cases = {
            {"", 0}, {"a", 1}, {"ab", 2}, {"ab/", 3}, {"ab/.", 4}, {"ab/.f", 5},
            {"/", 0}, {"a/", 1}, {"ag", 1}, {"A", 0}, {"a b", 1}, {"a`", 1}, {"..-", 2},
            {"ab//", 3}, {"ab/a/", 4}, {"ab/abc", 5}, {"ab/ab/", 5}, {"ab/ag", 4},
            {"abcdefab", 8}, {"abcdefabc", 8}, {"abcdefab.", 8}, {"abcdefab/", 9},
            {"abcdefab/abcdef..", 17}, {"abcdefab/abcdef...", 17}, {"abc/ab", 6}, {"abc/abcd", 7},
            {"pack", 0}, {"best", 2},
        };
        for (Object[] one : cases) {
            fault(0, (String) one[0], (Integer) one[1]);
        }
        CHECK.is("fault(2)", Check.typed("ab").fault(2), OUTSIDE);
        CHECK.is("fault(-1)", Check.typed("ab").fault(-1), OUTSIDE);
    }

    private static void faultsOfCommands() {
        Object[][] cases = {
            {"", 0}, {"p", 1}, {"pack", 4}, {"packs", 4}, {"pick", 1}, {"paca", 3}, {" pack", 0},
            {"Pack", 0}, {"best", 4}, {"best ", 4}, {"bust", 1}, {"clear", 5}, {"clean", 4},
            {"clear ", 5}, {"c", 1}, {"cu", 2}, {"cl", 2}, {"ca", 1}, {"cut", 3}, {"cut ", 4},
            {"cut a", 5}, {"cut f", 5}, {"cut g", 4}, {"cut `", 4}, {"cut ?", 4}, {"cut A", 4},
            {"cut 1", 4}, {"cut ab", 5}, {"cut  a", 4}, {"cuta", 3}, {"whole a", 7},
            {"whole f", 7}, {"whole g", 6}, {"whole ?", 6}, {"whole aa", 7}, {"who", 3},
            {"turn 0", 6}, {"turn 9", 6}, {"turn /", 5}, {"turn :", 5}, {"turn #", 5},
            {"turn a", 5}, {"turn 10", 6}, {"turn", 4}, {"turns", 4}, {"x", 0}, {"~", 0},
        };
        for (Object[] one : cases) {
            fault(1, (String) one[0], (Integer) one[1]);
        }
    }

    private static void channelRead() {
        ChannelTracks x = Check.typed("ab.f/.e.c");
        CHECK.is("channel()", x.channel(), 4);
        CHECK.is("count(6) then", x.count(6), 0);
        CHECK.is("count(7) then", x.count(7), 1);
        int[][] pins = {{0, NONE}, {1, 4}, {NONE, NONE}, {5, 2}};
        for (int column = 0; column < 4; column++) {
            CHECK.is("pin(" + column + ", 0)", x.pin(column, 0), pins[column][0]);
            CHECK.is("pin(" + column + ", 1)", x.pin(column, 1), pins[column][1]);
        }
        CHECK.is("channel() of 8 columns", Check.typed("abcdefab/........").channel(), 8);
        CHECK.is("channel() of 2 columns", Check.typed("../..").channel(), 2);
    }

    private static void channelRefused() {
        String[] texts = {"", "a", "a/b", "/", "ab", "ab/", "ab/a", "ab/abc", "ab/ab/", "abc/ab", "ag/ab",
            "pack", "abcdefabc/abcdefabc", "ab/a "};
        for (String text : texts) {
            ChannelTracks x = Check.channel("ab/ba");
            x.cut(0, true);
            Check.type(x, text);
            long before = x.digest();
            CHECK.is("channel() of '" + text + "'", x.channel(), STATE);
            CHECK.is("digest() after channel() of '" + text + "'", x.digest(), before);
        }
    }

    private static void channelReplaced() {
        ChannelTracks x = Check.channel("aabbaa/......");
        x.cut(0, true);
        x.cut(5, true);
        x.pack();
        Check.type(x, "aa/.b");
        CHECK.is("channel() once more", x.channel(), 2);
        CHECK.is("columns then", x.count(0), 2);
        CHECK.is("pins then", x.count(1), 3);
        CHECK.is("split nets then", x.count(3), 0);
        CHECK.is("tracks then", x.count(5), 0);
        CHECK.is("depth then", x.about(7), 0);
        CHECK.is("channels read then", x.count(7), 2);
        CHECK.is("pin(2, 0) then", x.pin(2, 0), UNKNOWN);
    }

    private static void sayEachCommand() {
        ChannelTracks x = Check.channel("ba../..ba");
        CHECK.is("say() of pack", Check.say(x, "pack"), 2);
        CHECK.that("tracks after pack: " + Check.tracks(x), Check.tracks(x).equals("1 0"));
        CHECK.is("text after pack", x.count(6), 0);
        CHECK.is("say() of best", Check.say(x, "best"), 2);
        CHECK.that("tracks after best: " + Check.tracks(x), Check.tracks(x).equals("0 1"));
        CHECK.is("count(8) after best", x.count(8), 1);
        CHECK.is("say() of clear", Check.say(x, "clear"), 2);
        CHECK.is("count(5) after clear", x.count(5), 0);
        CHECK.is("say() of cut f", Check.say(x, "cut f"), 2);
        CHECK.is("say() of cut a", Check.say(x, "cut a"), 2);
        CHECK.is("net(0, 3)", x.net(0, 3), 1);
        CHECK.is("say() of whole a", Check.say(x, "whole a"), 2);
        CHECK.is("net(0, 3)", x.net(0, 3), 0);
        CHECK.is("count(3)", x.count(3), 1);
        CHECK.is("say() of whole f", Check.say(x, "whole f"), 2);
        CHECK.is("say() of turn 3", Check.say(x, "turn 3"), 0);
        CHECK.is("pin(3, 0)", x.pin(3, 0), 0);
        CHECK.is("say() of turn 0", Check.say(x, "turn 0"), NONE);
        CHECK.is("text after turn 0, which returned NONE", x.count(6), 0);
        CHECK.is("pin(0, 1)", x.pin(0, 1), 1);
    }

    private static void sayRefused() {
        String[] texts = {"", "pac", "packs", "cut", "cut ", "cut g", "cut ab", "turn", "turn ", "turn x",
            "turn 10", "whole", "aa/bb", "pack best"};
        for (String text : texts) {
            ChannelTracks x = Check.channel("ab/.a");
            Check.type(x, text);
            long before = x.digest();
            CHECK.is("say() of '" + text + "'", x.say(), STATE);
            CHECK.is("digest() after say() of '" + text + "'", x.digest(), before);
        }
    }

    private static void sayKeepsTextOnError() {
        ChannelTracks x = new ChannelTracks();
        String[] commands = {"pack", "best", "clear", "cut a", "whole a", "turn 0"};
        int[] answers = {STATE, STATE, STATE, UNKNOWN, UNKNOWN, UNKNOWN};
        for (int i = 0; i < commands.length; i++) {
            CHECK.is("say() without a channel: " + commands[i], Check.say(x, commands[i]), answers[i]);
            CHECK.is("text then", x.count(6), commands[i].length());
        }
        x = Check.channel("ab/ba");
        CHECK.is("say() of whole a, which is whole", Check.say(x, "whole a"), STATE);
        CHECK.is("text then", x.count(6), 7);
        CHECK.is("say() of turn 2, with two columns", Check.say(x, "turn 2"), UNKNOWN);
        CHECK.is("text then", x.count(6), 6);
        CHECK.is("say() of pack, with a cycle", Check.say(x, "pack"), STATE);
        CHECK.is("text then", x.blank(), 4);
    }

    private static void ink() {
        ChannelTracks x = Check.channel("abc./.abc");
        CHECK.is("ink(0) without tracks", x.ink(0), UNKNOWN);
        x.pack();
        CHECK.that("ink: " + Check.ink(x), Check.ink(x).equals("..cc/.bb./aa.."));
        CHECK.is("ink(-1)", x.ink(-1), UNKNOWN);
        CHECK.is("ink(13)", x.ink(13), '.');
        CHECK.is("ink(14)", x.ink(14), UNKNOWN);
        CHECK.is("ink(15)", x.ink(15), UNKNOWN);
        CHECK.is("ink(min)", x.ink(Integer.MIN_VALUE), UNKNOWN);
        CHECK.is("ink(max)", x.ink(Integer.MAX_VALUE), UNKNOWN);
        for (int s = 0; s < 3; s++) {
            x.set(s, 1);
        }
        CHECK.that("ink of three on one track: " + Check.ink(x), Check.ink(x).equals("..../a##c"));
        // Two segments of one net in one column are one net.
        x = Check.channel("aaa/...");
        x.cut(0, true);
        x.pack();
        CHECK.that("ink of a split net: " + Check.ink(x), Check.ink(x).equals("aaa"));
    }
}
