import java.util.function.Supplier;

/** The boundary cases that the document names in the promises 1 to 7, a method for each sentence. */
public final class BoundaryTextsTest {
    private static final Check CHECK = new Check("BoundaryTextsTest");
    private static final int NONE = -1, UNKNOWN = -101, OUTSIDE = -102, STATE = -103, FULL = -104;
    private static final int MIN = Integer.MIN_VALUE, MAX = Integer.MAX_VALUE;
    private static final String TWENTY = "abcdefghij0123456789";
    private static final String[] COMMANDS = {"pack", "best", "clear", "cut a", "cut f", "whole a", "whole f",
        "turn 0", "turn 9"};

    public static void main(String[] args) {
        newObjectHasNoChannel();
        newObjectHasNoText();
        newObjectIsItsOwn();
        letterCodes();
        letterKeepsEachCode();
        letterCountsToTwenty();
        letterFull();
        letterOutsideBeforeFull();
        blankOfEmptyAndFull();
        blankKeepsChannel();
        faultWhat();
        faultChangesNothing();
        faultOfEmptyAndShortChannels();
        faultOfColumnNumbers();
        faultOfPinSigns();
        faultOfSecondPart();
        faultIsTheFirst();
        faultOfFullBuffer();
        faultOfShortCommands();
        faultOfLongCommands();
        faultOfCommandLetters();
        faultOfCommandDigits();
        channelColumns();
        channelSigns();
        channelOfOtherTexts();
        channelWithoutSlashInTheMiddle();
        channelEmptiesText();
        channelReplaces();
        channelMakesWhole();
        sayOfOtherTexts();
        sayNetsAndColumns();
        sayWithoutError();
        sayWithError();
        sayAgainAfterError();
        inkWithoutTracks();
        inkPlaces();
        inkOfTheLargestPlan();
        inkSlashes();
        inkSigns();
        CHECK.finish();
    }

    // A channel with a plan of two of its three segments, a split net, and a text.
    private static Supplier<ChannelTracks> busy(String text) {
        return () -> {
            ChannelTracks x = Check.channel("aba./.cbc");
            x.cut(4, true);
            x.set(0, 0);
            x.set(2, 5);
            Check.type(x, text);
            return x;
        };
    }

    private static void newObjectHasNoChannel() {
        CHECK.sentence("1: Creates an object without a channel");
        ChannelTracks x = new ChannelTracks();
        CHECK.is("about(0)", x.about(0), STATE);
        CHECK.is("count(0)", x.count(0), 0);
        CHECK.is("count(7)", x.count(7), 0);
        CHECK.is("pin(0, 0)", x.pin(0, 0), UNKNOWN);
        CHECK.is("clear()", x.clear(), STATE);
    }

    private static void newObjectHasNoText() {
        CHECK.sentence("1: and with an empty text buffer");
        ChannelTracks x = new ChannelTracks();
        CHECK.is("count(6)", x.count(6), 0);
        CHECK.is("fault(0)", x.fault(0), 0);
        CHECK.is("blank()", x.blank(), 0);
        CHECK.is("letter(97)", x.letter(97), 1);
    }

    private static void newObjectIsItsOwn() {
        CHECK.sentence("1: Creates an object without a channel and with an empty text buffer, beside others");
        ChannelTracks other = busy(TWENTY).get();
        other.best();
        ChannelTracks x = new ChannelTracks();
        CHECK.is("count(6)", x.count(6), 0);
        CHECK.is("count(8)", x.count(8), 0);
        CHECK.is("about(0)", x.about(0), STATE);
        x.letter(97);
        CHECK.is("count(6) of the other one", other.count(6), 20);
    }

    private static void letterCodes() {
        CHECK.sentence("2: code: its code, 32 to 126");
        CHECK.is("letter(32)", new ChannelTracks().letter(32), 1);
        CHECK.is("letter(126)", new ChannelTracks().letter(126), 1);
        CHECK.refusedFor(busy("pac"), "letter(?)", (x, code) -> x.letter(code), OUTSIDE,
            31, 127, 0, -1, -32, 97 + 128, 97 + 256, 97 + 65536, MIN, MAX);
        CHECK.refusedFor(ChannelTracks::new, "letter(?)", (x, code) -> x.letter(code), OUTSIDE, 31, 127, MIN, MAX);
    }

    private static void letterKeepsEachCode() {
        CHECK.sentence("2: Appends a character to the text buffer");
        for (int code = 32; code <= 126; code++) {
            ChannelTracks x = new ChannelTracks();
            CHECK.is("letter(" + code + ")", x.letter(code), 1);
            long h = 31L * 1489 + code;
            for (int what = 0; what <= 8; what++) {
                h = 31 * h + (what == 6 ? 1 : 0);
            }
            CHECK.is("digest() after letter(" + code + ")", x.digest(), h);
        }
    }

    private static void letterCountsToTwenty() {
        CHECK.sentence("2: Returns how many characters it holds");
        ChannelTracks x = new ChannelTracks();
        for (int held = 1; held <= 20; held++) {
            CHECK.is("letter(), time " + held, x.letter(96 + held), held);
        }
    }

    private static void letterFull() {
        CHECK.sentence("2: or OUTSIDE, FULL if it holds 20");
        CHECK.refusedFor(busy(TWENTY), "letter(?)", (x, code) -> x.letter(code), FULL, 32, 97, 126);
        ChannelTracks x = Check.typed(TWENTY.substring(1));
        CHECK.is("letter() with 19", x.letter(97), 20);
        CHECK.is("letter() with 20", x.letter(97), FULL);
        CHECK.is("count(6) then", x.count(6), 20);
        x.blank();
        CHECK.is("letter() after blank()", x.letter(97), 1);
    }

    private static void letterOutsideBeforeFull() {
        CHECK.sentence("2: or OUTSIDE, FULL, in this order");
        CHECK.refusedFor(busy(TWENTY), "letter(?)", (x, code) -> x.letter(code), OUTSIDE, 31, 127, MIN, MAX);
    }

    private static void blankOfEmptyAndFull() {
        CHECK.sentence("3: Returns how many characters it held");
        ChannelTracks x = new ChannelTracks();
        CHECK.is("blank() of an empty one", x.blank(), 0);
        CHECK.is("blank() of an empty one again", x.blank(), 0);
        x.letter(97);
        CHECK.is("blank() of one", x.blank(), 1);
        Check.type(x, TWENTY);
        CHECK.is("blank() of a full one", x.blank(), 20);
        CHECK.is("count(6) then", x.count(6), 0);
        CHECK.is("blank() then", x.blank(), 0);
    }

    private static void blankKeepsChannel() {
        CHECK.sentence("3: Empties the text buffer");
        ChannelTracks x = busy(TWENTY).get();
        x.blank();
        String want = Check.state(busy("").get());
        CHECK.that("blank() changed more than the text", Check.state(x).equals(want));
    }

    private static void faultWhat() {
        CHECK.sentence("4: what: 0 to check for the text of a channel, 1 for a command .. or OUTSIDE");
        CHECK.is("fault(0) of ab/", Check.typed("ab/").fault(0), 3);
        CHECK.is("fault(1) of ab/", Check.typed("ab/").fault(1), 0);
        for (String text : new String[] {"", "ab", TWENTY}) {
            CHECK.refusedFor(busy(text), "fault(?)", (x, what) -> x.fault(what), OUTSIDE, -1, 2, MIN, MAX);
        }
        CHECK.refusedFor(ChannelTracks::new, "fault(?)", (x, what) -> x.fault(what), OUTSIDE, -1, 2, MIN, MAX);
    }

    private static void faultChangesNothing() {
        CHECK.sentence("4: Checks the text buffer");
        CHECK.refused(busy("ab/ab"), "fault(0)", x -> x.fault(0), 5);
        CHECK.refused(busy("ab/ag"), "fault(0)", x -> x.fault(0), 4);
        CHECK.refused(busy("pack"), "fault(1)", x -> x.fault(1), 4);
        CHECK.refused(busy("pick"), "fault(1)", x -> x.fault(1), 1);
    }

    private static void fault(int what, String text, int want) {
        CHECK.is("fault(" + what + ") of '" + text + "'", Check.typed(text).fault(what), want);
    }

    private static void faultOfEmptyAndShortChannels() {
        CHECK.sentence("4: or the number of characters if there is none (also if the text is too short)");
        fault(0, "", 0);
        for (int columns = 2; columns <= 8; columns++) {
            String whole = "abcdef.a".substring(0, columns) + "/" + ".fedcba.".substring(0, columns);
            for (int length = 0; length <= whole.length(); length++) {
                fault(0, whole.substring(0, length), length);
            }
        }
    }

    private static void faultOfColumnNumbers() {
        CHECK.sentence("Description: A channel has 2 to 8 columns");
        fault(0, "/", 0);
        fault(0, "a/", 1);
        fault(0, "ab/", 3);
        fault(0, "abcdefab/", 9);
        fault(0, "abcdefaba", 8);
        fault(0, "abcdefaba/", 8);
    }

    private static void faultOfPinSigns() {
        CHECK.sentence("Description: the characters are a to f for nets 0 to 5 and a dot for none");
        for (int code = 32; code <= 126; code++) {
            boolean pin = code == '.' || code >= 'a' && code <= 'f';
            fault(0, "" + (char) code, pin ? 1 : 0);
            fault(0, "ab/a" + (char) code, pin ? 5 : 4);
        }
    }

    private static void faultOfSecondPart() {
        CHECK.sentence("4: the first character such that no channel begins with the characters up to it");
        for (int columns = 2; columns <= 8; columns++) {
            String whole = "abcdefab".substring(0, columns) + "/" + "abcdefab".substring(0, columns);
            fault(0, whole + "a", whole.length());
            fault(0, whole + "/", whole.length());
            fault(0, whole + " ", whole.length());
            fault(0, whole.substring(0, whole.length() - 1) + "/", whole.length() - 1);
        }
        fault(0, "ab//", 3);
    }

    private static void faultIsTheFirst() {
        CHECK.sentence("4: the index, from 0 on, of the first character");
        fault(0, "ag/gg", 1);
        fault(0, "g/", 0);
        fault(0, "ab/ghi", 3);
        fault(1, "pxxk", 1);
        fault(1, "xack", 0);
        fault(1, "cut gh", 4);
    }

    private static void faultOfFullBuffer() {
        CHECK.sentence("Description: The text buffer holds at most 20 characters");
        fault(0, "abcdefab/abcdefababc", 17);
        fault(0, "....................", 8);
        fault(1, "whole awhole awhole ", 7);
        fault(1, "                    ", 0);
    }

    private static void faultOfShortCommands() {
        CHECK.sentence("4: of a command, or the number of characters if there is none (also if too short)");
        for (String command : COMMANDS) {
            for (int length = 0; length <= command.length(); length++) {
                fault(1, command.substring(0, length), length);
            }
        }
    }

    private static void faultOfLongCommands() {
        CHECK.sentence("4: As a command it should be one of the following");
        for (String command : COMMANDS) {
            fault(1, command + " ", command.length());
            fault(1, command + command.charAt(command.length() - 1), command.length());
        }
        fault(1, " pack", 0);
        fault(1, "cut  a", 4);
        fault(1, "cuta", 3);
        fault(1, "Pack", 0);
        fault(1, "clut a", 2);
        fault(1, "cuear", 2);
    }

    private static void faultOfCommandLetters() {
        CHECK.sentence("4: cut or whole, a space and a letter a to f");
        for (int code = 32; code <= 126; code++) {
            boolean net = code >= 'a' && code <= 'f';
            fault(1, "cut " + (char) code, net ? 5 : 4);
            fault(1, "whole " + (char) code, net ? 7 : 6);
        }
    }

    private static void faultOfCommandDigits() {
        CHECK.sentence("4: turn, a space and a digit 0 to 9");
        for (int code = 32; code <= 126; code++) {
            fault(1, "turn " + (char) code, code >= '0' && code <= '9' ? 6 : 5);
        }
    }

    private static void channelColumns() {
        CHECK.sentence("5: Returns the number of columns (2 to 8)");
        for (int columns = 2; columns <= 8; columns++) {
            String half = "........".substring(0, columns);
            ChannelTracks x = Check.typed(half + "/" + half);
            CHECK.is("channel() of " + columns, x.channel(), columns);
            CHECK.is("about(0) of " + columns, x.about(0), columns);
        }
        CHECK.refused(busy("/"), "channel() of no column", x -> x.channel(), STATE);
        CHECK.refused(busy("a/a"), "channel() of one column", x -> x.channel(), STATE);
        CHECK.refused(busy("........./........."), "channel() of 9 columns", x -> x.channel(), STATE);
    }

    private static void channelSigns() {
        CHECK.sentence("Description: a to f for nets 0 to 5 and a dot for none, in the text of a channel");
        ChannelTracks x = Check.channel("abcdef./.fedcba");
        for (int column = 0; column <= 5; column++) {
            CHECK.is("pin(" + column + ", 0)", x.pin(column, 0), column);
            CHECK.is("pin(" + (6 - column) + ", 1)", x.pin(6 - column, 1), column);
        }
        CHECK.is("pin(6, 0)", x.pin(6, 0), NONE);
        CHECK.is("pin(0, 1)", x.pin(0, 1), NONE);
        for (String text : new String[] {"ag/ab", "a`/ab", "ab/aA", "ab/a ", "ab/0b", "ab-ab"}) {
            CHECK.refused(busy(text), "channel() of " + text, y -> y.channel(), STATE);
        }
    }

    private static void channelOfOtherTexts() {
        CHECK.sentence("5: or STATE if the text buffer does not hold exactly the text of a channel");
        String[] texts = {"", "ab", "ab/", "ab/a", "ab/abc", "ab/ab/", "ab/ab ", " ab/ab", "abc/ab", "abba", "ab/ab/ab",
            "pack", "abcdefab/abcdefa", "abcdefab/abcdefaba", "abcdefab/abcdefababc", TWENTY};
        for (String text : texts) {
            CHECK.refused(busy(text), "channel() of '" + text + "'", x -> x.channel(), STATE);
            CHECK.refused(() -> Check.typed(text), "channel() of '" + text + "' at first", x -> x.channel(), STATE);
        }
    }

    private static void channelWithoutSlashInTheMiddle() {
        CHECK.sentence("5: exactly the text of a channel (a slash, and as many characters before as behind it)");
        // Each of them is as long as a channel's text, and only begins one.
        for (String text : new String[] {".....", "ab.cd", "ab./a", "abc/d", "abc./ab", "abcde/f", "abcdefa/b"}) {
            CHECK.is("fault(0) of " + text, Check.typed(text).fault(0), text.length());
            CHECK.refused(busy(text), "channel() of " + text, x -> x.channel(), STATE);
        }
    }

    private static void channelEmptiesText() {
        CHECK.sentence("5: Reads the channel from the text buffer, which is empty then");
        ChannelTracks x = Check.typed("ab/ba");
        x.channel();
        CHECK.is("count(6)", x.count(6), 0);
        CHECK.is("channel() of the empty text", x.channel(), STATE);
        CHECK.is("blank()", x.blank(), 0);
        CHECK.is("letter(97)", x.letter(97), 1);
    }

    private static void channelReplaces() {
        CHECK.sentence("5: If there was a channel, it is replaced");
        String[] channels = {"../..", "aa/bb", "abcdefab/bafedcba", "ab.c/.a.c"};
        for (String old : channels) {
            for (String text : channels) {
                ChannelTracks x = Check.channel(old);
                Check.type(x, text);
                x.channel();
                ChannelTracks fresh = Check.channel("../..");
                Check.type(fresh, text);
                fresh.channel();
                CHECK.that(text + " after " + old + " is not as if it were the first",
                    Check.state(x).equals(Check.state(fresh)));
            }
        }
        ChannelTracks x = Check.channel("abcdefab/bafedcba");
        Check.type(x, "aa/bb");
        x.channel();
        CHECK.is("pin(2, 0) of the smaller one", x.pin(2, 0), UNKNOWN);
        CHECK.is("net(2, 0) of the smaller one", x.net(2, 0), UNKNOWN);
        CHECK.is("count(1) of the smaller one", x.count(1), 4);
    }

    private static void channelMakesWhole() {
        CHECK.sentence("5: All nets are whole then");
        ChannelTracks x = Check.channel("aaa/bbb");
        for (int net = 0; net <= 5; net++) {
            x.cut(net, true);
        }
        Check.type(x, "aaa/bbb");
        x.channel();
        CHECK.is("count(3)", x.count(3), 0);
        CHECK.is("count(4)", x.count(4), 2);
        for (int net = 0; net <= 5; net++) {
            CHECK.is("cut(" + net + ", false)", x.cut(net, false), STATE);
        }
    }

    private static void sayOfOtherTexts() {
        CHECK.sentence("6: or STATE if the text buffer does not hold exactly a command");
        String[] texts = {"", "pac", "packs", "pack ", " pack", "bes", "clea", "clears", "cut", "cut ", "cut g", "cut `",
            "cut aa", "whole", "whole ", "whole g", "whole aa", "turn", "turn ", "turn a", "turn /", "turn :",
            "turn 00", "aa/bb", TWENTY, "packpackpackpackpack"};
        for (String text : texts) {
            CHECK.refused(busy(text), "say() of '" + text + "'", x -> x.say(), STATE);
            CHECK.refused(() -> Check.typed(text), "say() of '" + text + "' at first", x -> x.say(), STATE);
        }
    }

    private static void sayNetsAndColumns() {
        CHECK.sentence("6: cut() of the net with this letter .. or turn() of the column with this digit");
        ChannelTracks x = Check.channel("aaabcdef/........");
        int whole = x.count(4);
        CHECK.is("cut a", Check.say(x, "cut a"), whole + 1);
        CHECK.is("net(0, 3)", x.net(0, 3), 1);
        CHECK.is("cut f", Check.say(x, "cut f"), whole + 1);
        CHECK.is("net(5, 3)", x.net(5, 3), 1);
        CHECK.is("whole f", Check.say(x, "whole f"), whole + 1);
        CHECK.is("net(5, 3)", x.net(5, 3), 0);
        CHECK.is("whole a", Check.say(x, "whole a"), whole);
        CHECK.is("turn 0", Check.say(x, "turn 0"), NONE);
        CHECK.is("pin(0, 1)", x.pin(0, 1), 0);
        CHECK.is("turn 7", Check.say(x, "turn 7"), NONE);
        CHECK.is("pin(7, 1)", x.pin(7, 1), 5);
        CHECK.is("turn 7 again", Check.say(x, "turn 7"), 5);
    }

    private static void sayWithoutError() {
        CHECK.sentence("6: If that returns no error, the text buffer is empty then (0 and NONE are no errors)");
        ChannelTracks x = Check.channel("ab/ab");
        CHECK.is("pack", Check.say(x, "pack"), 0);
        CHECK.is("count(6) after pack", x.count(6), 0);
        CHECK.is("count(8) after pack", x.count(8), 0);
        CHECK.is("best", Check.say(x, "best"), 0);
        CHECK.is("count(6) after best", x.count(6), 0);
        CHECK.is("clear", Check.say(x, "clear"), 0);
        CHECK.is("count(6) after clear", x.count(6), 0);
        CHECK.is("cut a", Check.say(x, "cut a"), 0);
        CHECK.is("count(6) after cut a", x.count(6), 0);
        CHECK.is("whole a", Check.say(x, "whole a"), 0);
        CHECK.is("count(6) after whole a", x.count(6), 0);
        CHECK.is("turn 0", Check.say(x, "turn 0"), 0);
        CHECK.is("count(6) after turn 0", x.count(6), 0);
        x.put(0, 1, NONE);
        CHECK.is("turn 0, which answers NONE", Check.say(x, "turn 0"), NONE);
        CHECK.is("count(6) after turn 0", x.count(6), 0);
        CHECK.is("say() then", x.say(), STATE);
    }

    private static void sayWithError() {
        CHECK.sentence("6: Returns what the method returns (errors, after which nothing is changed)");
        String[] commands = {"pack", "best", "clear", "cut a", "whole f", "turn 0", "turn 9"};
        int[] wants = {STATE, STATE, STATE, UNKNOWN, UNKNOWN, UNKNOWN, UNKNOWN};
        for (int i = 0; i < commands.length; i++) {
            String command = commands[i];
            CHECK.refused(() -> Check.typed(command), command + " without a channel", x -> x.say(), wants[i]);
        }
        CHECK.refused(busy("turn 4"), "turn 4 with four columns", x -> x.say(), UNKNOWN);
        CHECK.refused(busy("turn 9"), "turn 9", x -> x.say(), UNKNOWN);
        CHECK.refused(busy("whole a"), "whole a, which is whole", x -> x.say(), STATE);
        CHECK.refused(busy("cut e"), "cut e, which is split", x -> x.say(), STATE);
        Supplier<ChannelTracks> eight = () -> {
            ChannelTracks x = Check.channel("......../........");
            Check.type(x, "turn 8");
            return x;
        };
        CHECK.refused(eight, "turn 8 with eight columns", x -> x.say(), UNKNOWN);
        for (String command : new String[] {"pack", "best"}) {
            Supplier<ChannelTracks> cycle = () -> {
                ChannelTracks x = Check.channel("ab/ba");
                x.set(0, 3);
                Check.type(x, command);
                return x;
            };
            CHECK.refused(cycle, command + " with a cycle", x -> x.say(), STATE);
        }
    }

    private static void sayAgainAfterError() {
        CHECK.sentence("6: If that returns no error, the text buffer is empty then (else it stays)");
        ChannelTracks x = Check.channel("ab/ba");
        Check.type(x, "pack");
        CHECK.is("say() with a cycle", x.say(), STATE);
        x.turn(0);
        CHECK.is("say() without it", x.say(), 2);
        CHECK.is("count(6)", x.count(6), 0);
    }

    private static void inkWithoutTracks() {
        CHECK.sentence("7: or UNKNOWN if there is no such character, or no channel");
        CHECK.refusedFor(ChannelTracks::new, "ink(?)", (x, place) -> x.ink(place), UNKNOWN, 0, 1, -1, MIN, MAX);
        CHECK.refusedFor(() -> Check.channel("ab/ba"), "ink(?)", (x, place) -> x.ink(place), UNKNOWN,
            0, 1, -1, MIN, MAX);
        CHECK.refusedFor(() -> Check.channel("../.."), "ink(?)", (x, place) -> x.ink(place), UNKNOWN, 0, -1, MAX);
    }

    private static void inkPlaces() {
        CHECK.sentence("7: place: the index of the character, from 0 on");
        ChannelTracks x = Check.channel("ab/ba");
        x.set(0, 0);
        CHECK.is("ink(0)", x.ink(0), 'a');
        CHECK.is("ink(1)", x.ink(1), 'a');
        CHECK.is("ink(2)", x.ink(2), UNKNOWN);
        CHECK.is("ink(3)", x.ink(3), UNKNOWN);
        CHECK.is("ink(-1)", x.ink(-1), UNKNOWN);
        CHECK.is("ink(-3)", x.ink(-3), UNKNOWN);
        CHECK.is("ink(min)", x.ink(MIN), UNKNOWN);
        CHECK.is("ink(max)", x.ink(MAX), UNKNOWN);
    }

    private static void inkOfTheLargestPlan() {
        CHECK.sentence("7: for each track from 0 to the depth minus 1 a character for each column");
        ChannelTracks x = Check.channel("a......a/........");
        x.set(0, 13);
        CHECK.is("ink(0)", x.ink(0), '.');
        CHECK.is("ink(116), between the last two tracks", x.ink(116), '/');
        CHECK.is("ink(117)", x.ink(117), 'a');
        CHECK.is("ink(124)", x.ink(124), 'a');
        CHECK.is("ink(125)", x.ink(125), UNKNOWN);
        CHECK.is("length", Check.ink(x).length(), 14 * 9 - 1);
    }

    private static void inkSlashes() {
        CHECK.sentence("7: a slash stands between two tracks");
        ChannelTracks x = Check.channel("abc./.abc");
        x.set(1, 0);
        CHECK.that("one track: " + Check.ink(x), Check.ink(x).equals(".bb."));
        CHECK.is("ink(4)", x.ink(4), UNKNOWN);
        x.set(0, 1);
        CHECK.that("two tracks: " + Check.ink(x), Check.ink(x).equals(".bb./aa.."));
        CHECK.is("ink(9)", x.ink(9), UNKNOWN);
        x.set(1, 2);
        CHECK.that("an empty track: " + Check.ink(x), Check.ink(x).equals("..../aa../.bb."));
    }

    private static void inkSigns() {
        CHECK.sentence("7: the letter of the horizontal net, a dot if there is none, and # if there are several");
        ChannelTracks x = Check.channel("abcdef../..abcdef");
        x.set(0, 0);
        x.set(5, 0);
        CHECK.that("a and f: " + Check.ink(x), Check.ink(x).equals("aaa..fff"));
        x.set(1, 0);
        CHECK.that("a, b and f: " + Check.ink(x), Check.ink(x).equals("a##b.fff"));
        x.set(2, 0);
        CHECK.that("a, b, c and f: " + Check.ink(x), Check.ink(x).equals("a###cfff"));
        x = Check.channel("aaa/...");
        x.cut(0, true);
        x.set(0, 0);
        x.set(1, 0);
        CHECK.that("two segments of one net: " + Check.ink(x), Check.ink(x).equals("aaa"));
    }
}
