/**
 * A model of channel routing. The document (DOC.md) says what each method promises;
 * LANGUAGE.md says which part of Java this file keeps to.
 */
public final class ChannelTracks {
    public static final int NONE = -1, UNKNOWN = -101, OUTSIDE = -102, STATE = -103, FULL = -104;

    private static final int MIN_COLUMNS = 2;
    private static final int MAX_COLUMNS = 8;
    private static final int NETS = 6;
    private static final int TRACKS = 14;
    // Two split nets with a pin in each of 8 columns: no channel has more segments.
    private static final int MAX_SEGMENTS = 14;
    private static final int BEST_SEGMENTS = 8;
    private static final int BEST_TIMES = 20;
    private static final int TEXT_LENGTH = 20;
    private static final int FIRST_CODE = 32;
    private static final int LAST_CODE = 126;

    private static final int TOP = 0;
    private static final int BOTTOM = 1;

    private static final int COMMANDS = 6;
    private static final int PACK = 0;
    private static final int BEST = 1;
    private static final int CLEAR = 2;
    private static final int CUT = 3;
    private static final int WHOLE = 4;
    private static final int TURN = 5;

    private final Text text;
    private final Pins pins;
    private final Segments segments;
    // Segments as they would be with other nets split; apart, so that a trial changes nothing.
    private final Segments trial;
    private final Ring cycle;
    private final Zones zones;
    private final Plan plan;
    private int split;
    private int timesRead;
    private int timesBest;

    public ChannelTracks() {
        text = new Text();
        pins = new Pins();
        segments = new Segments();
        trial = new Segments();
        cycle = new Ring();
        zones = new Zones();
        plan = new Plan();
    }

    // ---- Texts

    public int letter(int code) {
        if (code < FIRST_CODE || code > LAST_CODE) {
            return OUTSIDE;
        }
        if (text.length >= TEXT_LENGTH) {
            return FULL;
        }
        text.append(code);
        return text.length;
    }

    public int blank() {
        int held = text.length;
        text.length = 0;
        return held;
    }

    public int fault(int what) {
        if (what == 0) {
            return text.channelFault();
        }
        if (what == 1) {
            return text.commandFault();
        }
        return OUTSIDE;
    }

    public int channel() {
        int columns = text.columnsOfChannel();
        if (columns == NONE) {
            return STATE;
        }
        pins.columns = columns;
        for (int column = 0; column < columns; column++) {
            pins.change(column, TOP, text.netAt(column));
            pins.change(column, BOTTOM, text.netAt(columns + 1 + column));
        }
        split = 0;
        derive();
        text.length = 0;
        timesRead++;
        return columns;
    }

    public int say() {
        int command = text.command();
        if (command == NONE) {
            return STATE;
        }
        int sign = text.lastCode();
        int answer;
        switch (command) {
            case PACK: answer = pack(); break;
            case BEST: answer = best(); break;
            case CLEAR: answer = clear(); break;
            case CUT: answer = cut(sign - 'a', true); break;
            case WHOLE: answer = cut(sign - 'a', false); break;
            case TURN: default: answer = turn(sign - '0'); break;
        }
        if (!isError(answer)) {
            text.length = 0;
        }
        return answer;
    }

    public int ink(int place) {
        if (!hasChannel() || place < 0) {
            return UNKNOWN;
        }
        int width = pins.columns + 1;
        int track = place / width;
        int column = place % width;
        int depth = plan.depth();
        if (track >= depth) {
            return UNKNOWN;
        }
        if (column < pins.columns) {
            return inkOf(plan.horizontalNets(segments, track, column));
        }
        return track < depth - 1 ? '/' : UNKNOWN;
    }

    // ---- The channel

    public int about(int what) {
        if (what < 0 || what > 9) {
            return OUTSIDE;
        }
        if (!hasChannel()) {
            return STATE;
        }
        switch (what) {
            case 0: return pins.columns;
            case 1: return segments.number;
            case 2: return zones.density;
            case 3: return segments.chain;
            case 4: return cycle.length;
            case 5: return breakingSet();
            case 6: return zones.number;
            case 7: return plan.depth();
            case 8: return plan.isValid(segments) ? 1 : 0;
            default: return plan.conflicts(pins, segments);
        }
    }

    public int pin(int column, int side) {
        if (!isColumn(column)) {
            return UNKNOWN;
        }
        if (!isSide(side)) {
            return OUTSIDE;
        }
        return pins.netOf(column, side);
    }

    public int net(int net, int what) {
        if (!isNet(net)) {
            return UNKNOWN;
        }
        int columns = pins.columnsWith(net);
        if (columns == 0) {
            return UNKNOWN;
        }
        switch (what) {
            case 0: return pins.pinsOf(net);
            case 1: return lowest(columns);
            case 2: return highest(columns);
            case 3: return isSplit(net) ? 1 : 0;
            case 4: return segments.numberOf(net);
            default: return OUTSIDE;
        }
    }

    public int segment(int segment, int what) {
        if (!isSegment(segment)) {
            return UNKNOWN;
        }
        switch (what) {
            case 0: return segments.net[segment];
            case 1: return segments.first[segment];
            case 2: return segments.last[segment];
            case 3: return plan.track[segment];
            case 4: return Integer.bitCount(segments.below[segment]);
            case 5: return Integer.bitCount(segments.over[segment]);
            case 6: return segments.level[segment];
            default: return OUTSIDE;
        }
    }

    public int above(int one, int other) {
        if (!isSegment(one) || !isSegment(other)) {
            return UNKNOWN;
        }
        return segments.isAbove(one, other) ? 1 : 0;
    }

    public int may(int one, int other) {
        if (!isSegment(one) || !isSegment(other)) {
            return UNKNOWN;
        }
        boolean apart = segments.steps(one, other) == NONE && segments.steps(other, one) == NONE;
        return apart && !segments.overlap(one, other) ? 1 : 0;
    }

    public int ring(int place) {
        if (place < 0 || place >= cycle.length) {
            return UNKNOWN;
        }
        return cycle.segment[place];
    }

    public int zone(int zone) {
        if (zone < 0 || zone >= zones.number) {
            return UNKNOWN;
        }
        return zones.nets[zone];
    }

    // ---- Changes

    public int put(int column, int side, int net) {
        if (!isColumn(column)) {
            return UNKNOWN;
        }
        if (!isSide(side) || net != NONE && !isNet(net)) {
            return OUTSIDE;
        }
        int previous = pins.netOf(column, side);
        pins.change(column, side, net);
        derive();
        return previous;
    }

    public int turn(int column) {
        if (!isColumn(column)) {
            return UNKNOWN;
        }
        int top = pins.netOf(column, TOP);
        int bottom = pins.netOf(column, BOTTOM);
        pins.change(column, TOP, bottom);
        pins.change(column, BOTTOM, top);
        derive();
        return bottom;
    }

    public int cut(int net, boolean apart) {
        if (!hasChannel() || !isNet(net)) {
            return UNKNOWN;
        }
        if (isSplit(net) == apart) {
            return STATE;
        }
        split ^= 1 << net;
        derive();
        return segments.number;
    }

    // ---- Plans

    public int set(int segment, int track) {
        if (!isSegment(segment)) {
            return UNKNOWN;
        }
        if (track < NONE || track >= TRACKS) {
            return OUTSIDE;
        }
        int previous = plan.track[segment];
        plan.track[segment] = track;
        return previous;
    }

    public int clear() {
        if (!hasChannel()) {
            return STATE;
        }
        int placed = plan.placed();
        plan.takeAllAway();
        return placed;
    }

    public int pack() {
        if (!hasChannel() || segments.hasCycle()) {
            return STATE;
        }
        plan.fillFromLeft(segments);
        return plan.depth();
    }

    public int best() {
        if (!hasChannel() || segments.hasCycle()) {
            return STATE;
        }
        if (segments.number > BEST_SEGMENTS || timesBest >= BEST_TIMES) {
            return STATE;
        }
        plan.fillBest(segments, Math.max(segments.chain, zones.density));
        timesBest++;
        return plan.depth();
    }

    public int cell(int track, int column, int layer) {
        if (track < 0 || track >= plan.depth() || !isColumn(column)) {
            return UNKNOWN;
        }
        switch (layer) {
            case 0: return lowest(plan.horizontalNets(segments, track, column));
            case 1: return lowest(plan.verticalNets(pins, segments, track, column));
            default: return OUTSIDE;
        }
    }

    // ---- Numbers

    public int count(int what) {
        switch (what) {
            case 0: return pins.columns;
            case 1: return pins.pinsOfNets();
            case 2: return pins.nets();
            case 3: return Integer.bitCount(split);
            case 4: return segments.number;
            case 5: return plan.placed();
            case 6: return text.length;
            case 7: return timesRead;
            case 8: return timesBest;
            default: return OUTSIDE;
        }
    }

    public long digest() {
        long h = 1489;
        if (hasChannel()) {
            h = digestChannel(h);
            h = digestSegments(h);
            h = digestPlan(h);
        }
        for (int i = 0; i < text.length; i++) {
            h = mix(h, text.code[i]);
        }
        for (int what = 0; what <= 8; what++) {
            h = mix(h, count(what));
        }
        return h;
    }

    private static long mix(long h, int value) {
        return 31 * h + value;
    }

    private long digestChannel(long start) {
        long h = start;
        for (int what = 0; what <= 9; what++) {
            h = mix(h, about(what));
        }
        for (int column = 0; column < pins.columns; column++) {
            h = mix(h, pins.netOf(column, TOP));
            h = mix(h, pins.netOf(column, BOTTOM));
        }
        for (int net = 0; net < NETS; net++) {
            h = mix(h, isSplit(net) ? 1 : 0);
        }
        return h;
    }

    private long digestSegments(long start) {
        long h = start;
        for (int s = 0; s < segments.number; s++) {
            for (int what = 0; what <= 6; what++) {
                h = mix(h, segment(s, what));
            }
        }
        for (int place = 0; place < cycle.length; place++) {
            h = mix(h, ring(place));
        }
        for (int z = 0; z < zones.number; z++) {
            h = mix(h, zone(z));
        }
        return h;
    }

    private long digestPlan(long start) {
        long h = start;
        int depth = plan.depth();
        int characters = depth * (pins.columns + 1) - 1;
        for (int place = 0; place < characters; place++) {
            h = mix(h, ink(place));
        }
        for (int track = 0; track < depth; track++) {
            for (int column = 0; column < pins.columns; column++) {
                h = mix(h, cell(track, column, 1));
            }
        }
        return h;
    }

    private boolean hasChannel() {
        return pins.columns > 0;
    }

    private boolean isColumn(int column) {
        return column >= 0 && column < pins.columns;
    }

    private boolean isSegment(int segment) {
        return segment >= 0 && segment < segments.number;
    }

    private static boolean isSide(int side) {
        return side == TOP || side == BOTTOM;
    }

    private static boolean isNet(int net) {
        return net >= 0 && net < NETS;
    }

    private boolean isSplit(int net) {
        return (split & 1 << net) != 0;
    }

    // NONE lies above the error codes: it is an answer.
    private static boolean isError(int answer) {
        return answer <= UNKNOWN;
    }

    // Whatever follows from the pins and the split nets is made anew here, and nowhere else.
    private void derive() {
        segments.build(pins, split);
        cycle.find(segments);
        zones.find(segments, pins.columns);
        plan.takeAllAway();
    }

    private int breakingSet() {
        int splittable = pins.splittableNets();
        for (int size = 0; size <= NETS; size++) {
            for (int nets = 0; nets < 1 << NETS; nets++) {
                // A smallest set has no net whose split changes nothing.
                if (Integer.bitCount(nets) == size && (nets & ~splittable) == 0) {
                    trial.build(pins, nets);
                    if (!trial.hasCycle()) {
                        return nets;
                    }
                }
            }
        }
        return NONE;
    }

    private static int inkOf(int nets) {
        if (nets == 0) {
            return '.';
        }
        return Integer.bitCount(nets) > 1 ? '#' : 'a' + lowest(nets);
    }

    private static int lowest(int set) {
        for (int member = 0; member < 31; member++) {
            if ((set & 1 << member) != 0) {
                return member;
            }
        }
        return NONE;
    }

    private static int highest(int set) {
        for (int member = 30; member >= 0; member--) {
            if ((set & 1 << member) != 0) {
                return member;
            }
        }
        return NONE;
    }

    /** The text buffer. */
    private static final class Text {
        final int[] code = new int[TEXT_LENGTH];
        int length;

        void append(int sign) {
            if (length < TEXT_LENGTH) {
                code[length] = sign;
                length++;
            }
        }

        int lastCode() {
            return length > 0 ? code[length - 1] : NONE;
        }

        int netAt(int place) {
            if (place < 0 || place >= length || code[place] == '.') {
                return NONE;
            }
            return code[place] - 'a';
        }

        int channelFault() {
            int slash = NONE;
            for (int place = 0; place < length; place++) {
                if (!fitsChannel(place, slash)) {
                    return place;
                }
                if (code[place] == '/') {
                    slash = place;
                }
            }
            return length;
        }

        private boolean fitsChannel(int place, int slash) {
            int sign = code[place];
            if (slash != NONE) {
                return place <= 2 * slash && isPinSign(sign);
            }
            if (sign == '/') {
                return place >= MIN_COLUMNS;
            }
            return place < MAX_COLUMNS && isPinSign(sign);
        }

        private static boolean isPinSign(int sign) {
            return sign == '.' || isNetSign(sign);
        }

        private static boolean isNetSign(int sign) {
            return sign >= 'a' && sign < 'a' + NETS;
        }

        /** The number of columns if the text is exactly that of a channel, else NONE. */
        int columnsOfChannel() {
            int middle = length / 2;
            if (length != 2 * middle + 1 || code[middle] != '/') {
                return NONE;
            }
            return channelFault() == length ? middle : NONE;
        }

        int commandFault() {
            int longest = 0;
            for (int command = 0; command < COMMANDS; command++) {
                longest = Math.max(longest, agreement(pattern(command)));
            }
            return longest;
        }

        /** The command that the text is exactly, or NONE. */
        int command() {
            for (int command = 0; command < COMMANDS; command++) {
                String pattern = pattern(command);
                if (length == pattern.length() && agreement(pattern) == length) {
                    return command;
                }
            }
            return NONE;
        }

        /** With ? for the letter of a net, and # for a digit. */
        private static String pattern(int command) {
            switch (command) {
                case PACK: return "pack";
                case BEST: return "best";
                case CLEAR: return "clear";
                case CUT: return "cut ?";
                case WHOLE: return "whole ?";
                case TURN: default: return "turn #";
            }
        }

        /** How many characters of the text are, from the first one on, as the pattern has them. */
        private int agreement(String pattern) {
            int common = Math.min(length, pattern.length());
            for (int place = 0; place < common; place++) {
                if (!agrees(code[place], pattern.charAt(place))) {
                    return place;
                }
            }
            return common;
        }

        private static boolean agrees(int sign, char wanted) {
            if (wanted == '?') {
                return isNetSign(sign);
            }
            if (wanted == '#') {
                return sign >= '0' && sign <= '9';
            }
            return sign == wanted;
        }
    }

    /** The columns, none without a channel, and the nets of their pins. */
    private static final class Pins {
        private final int[] net = new int[2 * MAX_COLUMNS];
        int columns;

        int netOf(int column, int side) {
            return net[2 * column + side];
        }

        void change(int column, int side, int value) {
            net[2 * column + side] = value;
        }

        /** The set of columns in which a net has a pin. */
        int columnsWith(int wanted) {
            int set = 0;
            for (int column = 0; column < columns; column++) {
                if (netOf(column, TOP) == wanted || netOf(column, BOTTOM) == wanted) {
                    set |= 1 << column;
                }
            }
            return set;
        }

        int pinsOf(int wanted) {
            int pins = 0;
            for (int place = 0; place < 2 * columns; place++) {
                if (net[place] == wanted) {
                    pins++;
                }
            }
            return pins;
        }

        int pinsOfNets() {
            return 2 * columns - pinsOf(NONE);
        }

        /** How many nets exist. */
        int nets() {
            int nets = 0;
            for (int wanted = 0; wanted < NETS; wanted++) {
                if (columnsWith(wanted) != 0) {
                    nets++;
                }
            }
            return nets;
        }

        /** The set of nets that have other segments when they are split. */
        int splittableNets() {
            int set = 0;
            for (int wanted = 0; wanted < NETS; wanted++) {
                if (Integer.bitCount(columnsWith(wanted)) > 2) {
                    set |= 1 << wanted;
                }
            }
            return set;
        }
    }

    /** The segments of a channel, and which of them must be above which. */
    private static final class Segments {
        final int[] net = new int[MAX_SEGMENTS];
        final int[] first = new int[MAX_SEGMENTS];
        final int[] last = new int[MAX_SEGMENTS];
        // Sets of segments: those that a segment must be above, and those that must be above it.
        final int[] below = new int[MAX_SEGMENTS];
        final int[] over = new int[MAX_SEGMENTS];
        // The number of segments before, and after, in the longest sequence; NONE with a cycle.
        final int[] level = new int[MAX_SEGMENTS];
        final int[] height = new int[MAX_SEGMENTS];
        // Set of columns.
        private final int[] attached = new int[MAX_SEGMENTS];
        int number;
        int chain;

        void build(Pins pins, int split) {
            number = 0;
            for (int wanted = 0; wanted < NETS; wanted++) {
                int columns = pins.columnsWith(wanted);
                if ((split & 1 << wanted) != 0) {
                    addPieces(wanted, columns);
                } else if (Integer.bitCount(columns) > 1) {
                    add(wanted, lowest(columns), highest(columns), columns);
                }
            }
            for (int column = 0; column < pins.columns; column++) {
                constrain(column, pins.netOf(column, TOP), pins.netOf(column, BOTTOM));
            }
            chain = rank(over, level);
            rank(below, height);
        }

        private void addPieces(int owner, int columns) {
            int previous = NONE;
            for (int column = 0; column < MAX_COLUMNS; column++) {
                if ((columns & 1 << column) != 0) {
                    if (previous != NONE) {
                        add(owner, previous, column, 1 << previous | 1 << column);
                    }
                    previous = column;
                }
            }
        }

        private void add(int owner, int from, int to, int columns) {
            if (number < MAX_SEGMENTS) {
                net[number] = owner;
                first[number] = from;
                last[number] = to;
                attached[number] = columns;
                below[number] = 0;
                over[number] = 0;
                number++;
            }
        }

        private void constrain(int column, int topNet, int bottomNet) {
            if (topNet == bottomNet) {
                return;
            }
            for (int s = 0; s < number; s++) {
                boolean upper = isJoined(s, topNet, column);
                for (int t = 0; upper && t < number; t++) {
                    if (isJoined(t, bottomNet, column)) {
                        below[s] |= 1 << t;
                        over[t] |= 1 << s;
                    }
                }
            }
        }

        /** Whether a segment belongs to a net and is attached to a column. */
        boolean isJoined(int segment, int owner, int column) {
            return net[segment] == owner && (attached[segment] & 1 << column) != 0;
        }

        /** Whether a segment must be above another one. */
        boolean isAbove(int one, int other) {
            return (below[one] & 1 << other) != 0;
        }

        boolean covers(int segment, int column) {
            return first[segment] <= column && column <= last[segment];
        }

        boolean overlap(int one, int other) {
            boolean common = first[one] <= last[other] && first[other] <= last[one];
            return common && net[one] != net[other];
        }

        // Each round takes the segments with none left before them: what never goes has a cycle.
        private int rank(int[] before, int[] ranks) {
            int left = (1 << number) - 1;
            int rounds = 0;
            while (left != 0 && rounds < number) {
                int free = freeOf(before, left);
                giveRank(ranks, free, rounds);
                left &= ~free;
                rounds++;
            }
            if (left == 0) {
                return rounds;
            }
            giveRank(ranks, (1 << number) - 1, NONE);
            return NONE;
        }

        private int freeOf(int[] before, int left) {
            int free = 0;
            for (int s = 0; s < number; s++) {
                if ((left & 1 << s) != 0 && (before[s] & left) == 0) {
                    free |= 1 << s;
                }
            }
            return free;
        }

        private void giveRank(int[] ranks, int set, int rank) {
            for (int s = 0; s < number; s++) {
                if ((set & 1 << s) != 0) {
                    ranks[s] = rank;
                }
            }
        }

        boolean hasCycle() {
            return chain == NONE;
        }

        /** How many steps, at least one, the shortest way down between two segments has, or NONE. */
        int steps(int from, int to) {
            int reached = below[from];
            for (int steps = 1; steps <= number; steps++) {
                if ((reached & 1 << to) != 0) {
                    return steps;
                }
                reached |= belowAny(reached);
            }
            return NONE;
        }

        private int belowAny(int set) {
            int all = 0;
            for (int s = 0; s < number; s++) {
                if ((set & 1 << s) != 0) {
                    all |= below[s];
                }
            }
            return all;
        }

        int numberOf(int owner) {
            int found = 0;
            for (int s = 0; s < number; s++) {
                if (net[s] == owner) {
                    found++;
                }
            }
            return found;
        }
    }

    /** The cycle; its length is 0 if there is none. */
    private static final class Ring {
        final int[] segment = new int[MAX_SEGMENTS];
        int length;

        // A smallest start of a shortest cycle: none of its cycles has a lower or a double segment.
        void find(Segments segments) {
            length = 0;
            int start = startOfShortest(segments);
            if (start == NONE) {
                return;
            }
            int shortest = segments.steps(start, start);
            int present = start;
            while (present != NONE && length < shortest && length < MAX_SEGMENTS) {
                segment[length] = present;
                length++;
                present = next(segments, present, start, shortest - length);
            }
        }

        private static int startOfShortest(Segments segments) {
            int start = NONE;
            if (!segments.hasCycle()) {
                return start;
            }
            int shortest = segments.number + 1;
            for (int s = 0; s < segments.number; s++) {
                int steps = segments.steps(s, s);
                if (steps != NONE && steps < shortest) {
                    start = s;
                    shortest = steps;
                }
            }
            return start;
        }

        private static int next(Segments segments, int present, int start, int steps) {
            for (int s = 0; s < segments.number; s++) {
                if (segments.isAbove(present, s) && segments.steps(s, start) == steps) {
                    return s;
                }
            }
            return NONE;
        }
    }

    /** The density and the zones. */
    private static final class Zones {
        private final int[] crossing = new int[MAX_COLUMNS];
        final int[] nets = new int[MAX_COLUMNS];
        int number;
        int density;

        void find(Segments segments, int columns) {
            density = 0;
            for (int column = 0; column < columns; column++) {
                crossing[column] = crossingSet(segments, column);
                density = Math.max(density, Integer.bitCount(crossing[column]));
            }
            number = 0;
            for (int column = 0; column < columns; column++) {
                if (isNewZone(column, columns)) {
                    nets[number] = crossing[column];
                    number++;
                }
            }
        }

        private static int crossingSet(Segments segments, int column) {
            int set = 0;
            for (int s = 0; s < segments.number; s++) {
                if (segments.covers(s, column)) {
                    set |= 1 << segments.net[s];
                }
            }
            return set;
        }

        private boolean isNewZone(int column, int columns) {
            int set = crossing[column];
            if (set == 0) {
                return false;
            }
            for (int other = 0; other < columns; other++) {
                boolean within = (set & ~crossing[other]) == 0;
                boolean same = set == crossing[other];
                if (within && !same || same && other < column) {
                    return false;
                }
            }
            return true;
        }
    }

    /** The tracks of the segments; numbers that are no segment's have none. */
    private static final class Plan {
        final int[] track = new int[MAX_SEGMENTS];

        Plan() {
            takeAllAway();
        }

        void takeAllAway() {
            for (int s = 0; s < MAX_SEGMENTS; s++) {
                track[s] = NONE;
            }
        }

        int placed() {
            int placed = 0;
            for (int s = 0; s < MAX_SEGMENTS; s++) {
                if (track[s] != NONE) {
                    placed++;
                }
            }
            return placed;
        }

        int depth() {
            int greatest = NONE;
            for (int s = 0; s < MAX_SEGMENTS; s++) {
                greatest = Math.max(greatest, track[s]);
            }
            return greatest + 1;
        }

        boolean isValid(Segments segments) {
            for (int s = 0; s < segments.number; s++) {
                if (track[s] == NONE || !fitsBefore(segments, s)) {
                    return false;
                }
            }
            return true;
        }

        /** Whether a segment's track goes with those of the segments with lower numbers. */
        private boolean fitsBefore(Segments segments, int segment) {
            for (int s = 0; s < segment; s++) {
                boolean clash = track[s] == track[segment] && segments.overlap(s, segment);
                boolean tooLow = track[s] <= track[segment] && segments.isAbove(segment, s);
                boolean tooHigh = track[s] >= track[segment] && segments.isAbove(s, segment);
                if (clash || tooLow || tooHigh) {
                    return false;
                }
            }
            return true;
        }

        int horizontalNets(Segments segments, int wanted, int column) {
            int nets = 0;
            for (int s = 0; s < segments.number; s++) {
                if (track[s] == wanted && segments.covers(s, column)) {
                    nets |= 1 << segments.net[s];
                }
            }
            return nets;
        }

        int verticalNets(Pins pins, Segments segments, int wanted, int column) {
            int top = pins.netOf(column, TOP);
            int bottom = pins.netOf(column, BOTTOM);
            int nets = 0;
            if (top != NONE && (top == bottom || wireFromTop(segments, top, wanted, column))) {
                nets |= 1 << top;
            }
            if (bottom != NONE && wireFromBottom(segments, bottom, wanted, column)) {
                nets |= 1 << bottom;
            }
            return nets;
        }

        private boolean wireFromTop(Segments segments, int net, int wanted, int column) {
            for (int s = 0; s < segments.number; s++) {
                if (segments.isJoined(s, net, column) && track[s] >= wanted) {
                    return true;
                }
            }
            return false;
        }

        private boolean wireFromBottom(Segments segments, int net, int wanted, int column) {
            for (int s = 0; s < segments.number; s++) {
                boolean reached = track[s] != NONE && track[s] <= wanted;
                if (reached && segments.isJoined(s, net, column)) {
                    return true;
                }
            }
            return false;
        }

        int conflicts(Pins pins, Segments segments) {
            int conflicts = 0;
            int depth = depth();
            for (int t = 0; t < depth; t++) {
                for (int column = 0; column < pins.columns; column++) {
                    if (Integer.bitCount(horizontalNets(segments, t, column)) > 1) {
                        conflicts++;
                    }
                    if (Integer.bitCount(verticalNets(pins, segments, t, column)) > 1) {
                        conflicts++;
                    }
                }
            }
            return conflicts;
        }

        void fillFromLeft(Segments segments) {
            takeAllAway();
            for (int present = 0; present < TRACKS; present++) {
                fillTrack(segments, present);
            }
        }

        private void fillTrack(Segments segments, int present) {
            for (int filled = 0; filled < segments.number; filled++) {
                int chosen = leftmost(segments, present);
                if (chosen == NONE) {
                    return;
                }
                track[chosen] = present;
            }
        }

        private int leftmost(Segments segments, int present) {
            int chosen = NONE;
            for (int s = 0; s < segments.number; s++) {
                boolean lefter = chosen == NONE || segments.first[s] < segments.first[chosen];
                if (lefter && track[s] == NONE && isFree(segments, s, present)) {
                    chosen = s;
                }
            }
            return chosen;
        }

        private boolean isFree(Segments segments, int segment, int present) {
            for (int s = 0; s < segments.number; s++) {
                boolean earlier = track[s] != NONE && track[s] < present;
                boolean clash = track[s] == present && segments.overlap(s, segment);
                if (clash || segments.isAbove(s, segment) && !earlier) {
                    return false;
                }
            }
            return true;
        }

        // The first depth with a valid plan is the smallest; one track a segment is always enough.
        void fillBest(Segments segments, int leastDepth) {
            takeAllAway();
            for (int depth = leastDepth; depth <= segments.number; depth++) {
                if (placeFrom(segments, 0, depth)) {
                    return;
                }
            }
        }

        // Small tracks come first for low numbers, so the first plan found is the one wanted.
        private boolean placeFrom(Segments segments, int segment, int depth) {
            if (segment >= segments.number || segment >= BEST_SEGMENTS) {
                return true;
            }
            for (int t = segments.level[segment]; t < depth - segments.height[segment]; t++) {
                track[segment] = t;
                if (fitsBefore(segments, segment) && placeFrom(segments, segment + 1, depth)) {
                    return true;
                }
            }
            track[segment] = NONE;
            return false;
        }
    }
}
