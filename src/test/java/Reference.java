import java.util.ArrayList;
import java.util.Arrays;
import java.util.Comparator;
import java.util.List;
import java.util.SortedSet;
import java.util.TreeSet;

/**
 * The document once more, as literally and slowly as it can be said: nothing is kept but the
 * state, and every answer is worked out anew by trying all that the definition speaks of.
 */
final class Reference {
    static final int NONE = -1, UNKNOWN = -101, OUTSIDE = -102, STATE = -103, FULL = -104;

    record Segment(int net, int first, int last, SortedSet<Integer> attached) {
        boolean covers(int column) {
            return first <= column && column <= last;
        }
    }

    private String text = "";
    private int[] top;
    private int[] bottom;
    private boolean[] split = new boolean[6];
    private List<Integer> tracks = new ArrayList<>();
    private int reads;
    private int bests;

    // ---- Texts

    int letter(int code) {
        if (code < 32 || code > 126) return OUTSIDE;
        if (text.length() == 20) return FULL;
        text += (char) code;
        return text.length();
    }

    int blank() {
        int held = text.length();
        text = "";
        return held;
    }

    static List<String> commands() {
        List<String> all = new ArrayList<>(List.of("pack", "best", "clear"));
        for (char c = 'a'; c <= 'f'; c++) {
            all.add("cut " + c);
            all.add("whole " + c);
        }
        for (char c = '0'; c <= '9'; c++) all.add("turn " + c);
        return all;
    }

    private static boolean beginsCommand(String start) {
        return commands().stream().anyMatch(c -> c.startsWith(start));
    }

    private static boolean beginsChannel(String start) {
        for (int n = 2; n <= 8; n++) {
            StringBuilder whole = new StringBuilder(start);
            while (whole.length() < 2 * n + 1) whole.append(whole.length() == n ? '/' : '.');
            if (isChannelText(whole.toString())) return true;
        }
        return false;
    }

    private static boolean isChannelText(String s) {
        for (int n = 2; n <= 8; n++) {
            if (s.matches("[a-f.]{" + n + "}/[a-f.]{" + n + "}")) return true;
        }
        return false;
    }

    int fault(int what) {
        if (what != 0 && what != 1) return OUTSIDE;
        for (int i = 0; i < text.length(); i++) {
            String start = text.substring(0, i + 1);
            if (!(what == 0 ? beginsChannel(start) : beginsCommand(start))) return i;
        }
        return text.length();
    }

    int channel() {
        if (!isChannelText(text)) return STATE;
        int n = text.indexOf('/');
        top = new int[n];
        bottom = new int[n];
        for (int c = 0; c < n; c++) {
            top[c] = "abcdef".indexOf(text.charAt(c));
            bottom[c] = "abcdef".indexOf(text.charAt(n + 1 + c));
        }
        split = new boolean[6];
        text = "";
        reads++;
        loseTracks();
        return n;
    }

    int say() {
        if (!commands().contains(text)) return STATE;
        String[] words = text.split(" ");
        int answer = switch (words[0]) {
            case "pack" -> pack();
            case "best" -> best();
            case "clear" -> clear();
            case "cut" -> cut(words[1].charAt(0) - 'a', true);
            case "whole" -> cut(words[1].charAt(0) - 'a', false);
            default -> turn(Integer.parseInt(words[1]));
        };
        if (!List.of(UNKNOWN, OUTSIDE, STATE, FULL).contains(answer)) text = "";
        return answer;
    }

    String inkText() {
        StringBuilder all = new StringBuilder();
        for (int t = 0; t < depth(); t++) {
            if (t > 0) all.append('/');
            for (int c = 0; c < columns(); c++) {
                SortedSet<Integer> nets = horizontal(t, c);
                all.append(nets.isEmpty() ? '.' : nets.size() > 1 ? '#' : (char) ('a' + nets.first()));
            }
        }
        return all.toString();
    }

    int ink(int place) {
        String all = inkText();
        return place < 0 || place >= all.length() ? UNKNOWN : all.charAt(place);
    }

    // ---- The state, read

    private int columns() {
        return top == null ? 0 : top.length;
    }

    private SortedSet<Integer> columnsOf(int net) {
        SortedSet<Integer> set = new TreeSet<>();
        for (int c = 0; c < columns(); c++) if (top[c] == net || bottom[c] == net) set.add(c);
        return set;
    }

    private List<Segment> segments(boolean[] splits) {
        List<Segment> all = new ArrayList<>();
        for (int net = 0; net < 6; net++) {
            List<Integer> at = new ArrayList<>(columnsOf(net));
            if (at.size() < 2) continue;
            if (!splits[net]) {
                all.add(new Segment(net, at.get(0), at.get(at.size() - 1), columnsOf(net)));
                continue;
            }
            for (int i = 1; i < at.size(); i++) {
                SortedSet<Integer> ends = new TreeSet<>(List.of(at.get(i - 1), at.get(i)));
                all.add(new Segment(net, at.get(i - 1), at.get(i), ends));
            }
        }
        return all;
    }

    private List<Segment> segments() {
        return segments(split);
    }

    private boolean mustBeAbove(Segment s, Segment t) {
        if (s.net == t.net) return false;
        for (int c = 0; c < columns(); c++) {
            boolean both = s.attached.contains(c) && t.attached.contains(c);
            if (both && top[c] == s.net && bottom[c] == t.net) return true;
        }
        return false;
    }

    private boolean overlap(Segment s, Segment t) {
        if (s.net == t.net) return false;
        for (int c = 0; c < columns(); c++) if (s.covers(c) && t.covers(c)) return true;
        return false;
    }

    /** Whether a sequence of two or more segments, each above the next, leads from one to other. */
    private boolean leads(List<Segment> all, int one, int other) {
        boolean[] seen = new boolean[all.size()];
        List<Integer> todo = new ArrayList<>(List.of(one));
        while (!todo.isEmpty()) {
            int s = todo.remove(todo.size() - 1);
            for (int t = 0; t < all.size(); t++) {
                if (!mustBeAbove(all.get(s), all.get(t)) || seen[t]) continue;
                if (t == other) return true;
                seen[t] = true;
                todo.add(t);
            }
        }
        return false;
    }

    private boolean hasCycle(List<Segment> all) {
        for (int s = 0; s < all.size(); s++) if (leads(all, s, s)) return true;
        return false;
    }

    /** All sequences of one length, in lexicographic order; the first one that closes. */
    private List<Integer> cycle() {
        List<Segment> all = segments();
        for (int length = 2; length <= all.size(); length++) {
            for (int s = 0; s < all.size(); s++) {
                List<Integer> found = closed(all, new ArrayList<>(List.of(s)), length);
                if (found != null) return found;
            }
        }
        return List.of();
    }

    private List<Integer> closed(List<Segment> all, List<Integer> begun, int length) {
        Segment end = all.get(begun.get(begun.size() - 1));
        if (begun.size() == length) {
            return mustBeAbove(end, all.get(begun.get(0))) ? new ArrayList<>(begun) : null;
        }
        for (int t = begun.get(0) + 1; t < all.size(); t++) {
            if (begun.contains(t) || !mustBeAbove(end, all.get(t))) continue;
            begun.add(t);
            List<Integer> found = closed(all, begun, length);
            if (found != null) return found;
            begun.remove(begun.size() - 1);
        }
        return null;
    }

    private int level(List<Segment> all, int segment) {
        int most = 0;
        for (int s = 0; s < all.size(); s++) {
            if (mustBeAbove(all.get(s), all.get(segment))) most = Math.max(most, 1 + level(all, s));
        }
        return most;
    }

    private int chain() {
        List<Segment> all = segments();
        if (hasCycle(all)) return NONE;
        int chain = 0;
        for (int s = 0; s < all.size(); s++) chain = Math.max(chain, 1 + level(all, s));
        return chain;
    }

    private int breakingSet() {
        List<Integer> masks = new ArrayList<>();
        for (int mask = 0; mask < 64; mask++) masks.add(mask);
        masks.sort(Comparator.<Integer>comparingInt(Integer::bitCount).thenComparing(m -> m));
        for (int mask : masks) {
            boolean[] splits = new boolean[6];
            for (int net = 0; net < 6; net++) splits[net] = (mask & 1 << net) != 0;
            if (!hasCycle(segments(splits))) return mask;
        }
        return NONE;
    }

    private SortedSet<Integer> crossing(int column) {
        SortedSet<Integer> nets = new TreeSet<>();
        for (Segment s : segments()) if (s.covers(column)) nets.add(s.net);
        return nets;
    }

    private static int mask(SortedSet<Integer> nets) {
        int mask = 0;
        for (int net : nets) mask += 1 << net;
        return mask;
    }

    private List<Integer> zones() {
        List<Integer> zones = new ArrayList<>();
        for (int c = 0; c < columns(); c++) {
            SortedSet<Integer> set = crossing(c);
            boolean within = set.isEmpty();
            for (int d = 0; d < columns(); d++) {
                within |= crossing(d).containsAll(set) && crossing(d).size() > set.size();
            }
            if (!within && !zones.contains(mask(set))) zones.add(mask(set));
        }
        return zones;
    }

    private int density() {
        int most = 0;
        for (int c = 0; c < columns(); c++) most = Math.max(most, crossing(c).size());
        return most;
    }

    private int depth() {
        return tracks.stream().mapToInt(t -> t + 1).max().orElse(0);
    }

    private boolean valid(List<Segment> all, List<Integer> plan) {
        for (int s = 0; s < plan.size(); s++) {
            if (plan.get(s) == NONE) return false;
            for (int t = 0; t < plan.size(); t++) {
                boolean same = plan.get(s).equals(plan.get(t));
                if (same && overlap(all.get(s), all.get(t))) return false;
                if (mustBeAbove(all.get(s), all.get(t)) && plan.get(s) >= plan.get(t)) return false;
            }
        }
        return true;
    }

    private SortedSet<Integer> horizontal(int track, int column) {
        SortedSet<Integer> nets = new TreeSet<>();
        List<Segment> all = segments();
        for (int s = 0; s < all.size(); s++) {
            if (tracks.get(s) == track && all.get(s).covers(column)) nets.add(all.get(s).net);
        }
        return nets;
    }

    private SortedSet<Integer> vertical(int track, int column) {
        SortedSet<Integer> nets = new TreeSet<>();
        List<Segment> all = segments();
        for (int s = 0; s < all.size(); s++) {
            int own = tracks.get(s);
            if (!all.get(s).attached.contains(column) || own == NONE) continue;
            if (all.get(s).net == top[column] && own >= track) nets.add(top[column]);
            if (all.get(s).net == bottom[column] && own <= track) nets.add(bottom[column]);
        }
        if (top[column] != NONE && top[column] == bottom[column]) nets.add(top[column]);
        return nets;
    }

    private int conflicts() {
        int conflicts = 0;
        for (int t = 0; t < depth(); t++) {
            for (int c = 0; c < columns(); c++) {
                if (horizontal(t, c).size() > 1) conflicts++;
                if (vertical(t, c).size() > 1) conflicts++;
            }
        }
        return conflicts;
    }

    // ---- The channel

    int about(int what) {
        if (what < 0 || what > 9) return OUTSIDE;
        if (top == null) return STATE;
        return switch (what) {
            case 0 -> columns();
            case 1 -> segments().size();
            case 2 -> density();
            case 3 -> chain();
            case 4 -> cycle().size();
            case 5 -> breakingSet();
            case 6 -> zones().size();
            case 7 -> depth();
            case 8 -> valid(segments(), tracks) ? 1 : 0;
            default -> conflicts();
        };
    }

    int pin(int column, int side) {
        if (column < 0 || column >= columns()) return UNKNOWN;
        if (side < 0 || side > 1) return OUTSIDE;
        return side == 0 ? top[column] : bottom[column];
    }

    int net(int net, int what) {
        if (net < 0 || net > 5 || columnsOf(net).isEmpty()) return UNKNOWN;
        return switch (what) {
            case 0 -> pins(net);
            case 1 -> columnsOf(net).first();
            case 2 -> columnsOf(net).last();
            case 3 -> split[net] ? 1 : 0;
            case 4 -> (int) segments().stream().filter(s -> s.net == net).count();
            default -> OUTSIDE;
        };
    }

    private int pins(int net) {
        int pins = 0;
        for (int c = 0; c < columns(); c++) pins += (top[c] == net ? 1 : 0) + (bottom[c] == net ? 1 : 0);
        return pins;
    }

    private boolean exists(int segment) {
        return segment >= 0 && segment < segments().size();
    }

    int segment(int segment, int what) {
        if (!exists(segment)) return UNKNOWN;
        List<Segment> all = segments();
        Segment own = all.get(segment);
        return switch (what) {
            case 0 -> own.net;
            case 1 -> own.first;
            case 2 -> own.last;
            case 3 -> tracks.get(segment);
            case 4 -> (int) all.stream().filter(s -> mustBeAbove(own, s)).count();
            case 5 -> (int) all.stream().filter(s -> mustBeAbove(s, own)).count();
            case 6 -> hasCycle(all) ? NONE : level(all, segment);
            default -> OUTSIDE;
        };
    }

    int above(int one, int other) {
        if (!exists(one) || !exists(other)) return UNKNOWN;
        return mustBeAbove(segments().get(one), segments().get(other)) ? 1 : 0;
    }

    int may(int one, int other) {
        if (!exists(one) || !exists(other)) return UNKNOWN;
        List<Segment> all = segments();
        boolean led = leads(all, one, other) || leads(all, other, one);
        return !led && !overlap(all.get(one), all.get(other)) ? 1 : 0;
    }

    int ring(int place) {
        List<Integer> cycle = cycle();
        return place < 0 || place >= cycle.size() ? UNKNOWN : cycle.get(place);
    }

    int zone(int zone) {
        List<Integer> zones = zones();
        return zone < 0 || zone >= zones.size() ? UNKNOWN : zones.get(zone);
    }

    // ---- Changes

    private void loseTracks() {
        tracks = new ArrayList<>();
        for (int s = 0; s < segments().size(); s++) tracks.add(NONE);
    }

    int put(int column, int side, int net) {
        if (column < 0 || column >= columns()) return UNKNOWN;
        if (side < 0 || side > 1 || net < NONE || net > 5) return OUTSIDE;
        int[] row = side == 0 ? top : bottom;
        int previous = row[column];
        row[column] = net;
        loseTracks();
        return previous;
    }

    int turn(int column) {
        if (column < 0 || column >= columns()) return UNKNOWN;
        int above = top[column];
        top[column] = bottom[column];
        bottom[column] = above;
        loseTracks();
        return top[column];
    }

    int cut(int net, boolean apart) {
        if (top == null || net < 0 || net > 5) return UNKNOWN;
        if (split[net] == apart) return STATE;
        split[net] = apart;
        loseTracks();
        return segments().size();
    }

    // ---- Plans

    int set(int segment, int track) {
        if (!exists(segment)) return UNKNOWN;
        if (track < NONE || track > 13) return OUTSIDE;
        return tracks.set(segment, track);
    }

    int clear() {
        if (top == null) return STATE;
        int had = placed();
        loseTracks();
        return had;
    }

    private int placed() {
        return (int) tracks.stream().filter(t -> t != NONE).count();
    }

    int pack() {
        if (top == null || hasCycle(segments())) return STATE;
        loseTracks();
        for (int present = 0; tracks.contains(NONE); present++) {
            while (true) {
                int chosen = NONE;
                for (int s = 0; s < tracks.size(); s++) {
                    boolean lefter = chosen == NONE
                            || segments().get(s).first < segments().get(chosen).first;
                    if (lefter && fitsTrack(s, present)) chosen = s;
                }
                if (chosen == NONE) break;
                tracks.set(chosen, present);
            }
        }
        return depth();
    }

    private boolean fitsTrack(int segment, int present) {
        List<Segment> all = segments();
        if (tracks.get(segment) != NONE) return false;
        for (int s = 0; s < all.size(); s++) {
            int own = tracks.get(s);
            if (own == present && overlap(all.get(s), all.get(segment))) return false;
            boolean earlier = own != NONE && own < present;
            if (mustBeAbove(all.get(s), all.get(segment)) && !earlier) return false;
        }
        return true;
    }

    int best() {
        List<Segment> all = segments();
        if (top == null || hasCycle(all) || all.size() > 8 || bests == 20) return STATE;
        bests++;
        for (int depth = 0; ; depth++) {
            List<Integer> plan = firstValid(all, new ArrayList<>(), depth);
            if (plan != null) {
                tracks = plan;
                return depth();
            }
        }
    }

    /** The lexicographically first valid plan with tracks below depth that begins so. */
    private List<Integer> firstValid(List<Segment> all, List<Integer> begun, int depth) {
        if (!valid(all, begun)) return null;
        if (begun.size() == all.size()) return begun;
        for (int t = 0; t < depth; t++) {
            List<Integer> longer = new ArrayList<>(begun);
            longer.add(t);
            List<Integer> found = firstValid(all, longer, depth);
            if (found != null) return found;
        }
        return null;
    }

    int cell(int track, int column, int layer) {
        if (track < 0 || track >= depth() || column < 0 || column >= columns()) return UNKNOWN;
        if (layer < 0 || layer > 1) return OUTSIDE;
        SortedSet<Integer> nets = layer == 0 ? horizontal(track, column) : vertical(track, column);
        return nets.isEmpty() ? NONE : nets.first();
    }

    // ---- Numbers

    int count(int what) {
        int pins = 0;
        int nets = 0;
        int splits = 0;
        for (int net = 0; net < 6; net++) {
            pins += pins(net);
            nets += pins(net) > 0 ? 1 : 0;
            splits += split[net] ? 1 : 0;
        }
        List<Integer> all = Arrays.asList(columns(), pins, nets, splits, segments().size(), placed(),
                text.length(), reads, bests);
        return what < 0 || what >= all.size() ? OUTSIDE : all.get(what);
    }

    long digest() {
        List<Integer> values = new ArrayList<>();
        if (top != null) {
            for (int what = 0; what <= 9; what++) values.add(about(what));
            for (int c = 0; c < columns(); c++) values.addAll(List.of(top[c], bottom[c]));
            for (boolean one : split) values.add(one ? 1 : 0);
            for (int s = 0; s < segments().size(); s++) {
                for (int what = 0; what <= 6; what++) values.add(segment(s, what));
            }
            values.addAll(cycle());
            values.addAll(zones());
            inkText().chars().forEach(values::add);
            for (int t = 0; t < depth(); t++) {
                for (int c = 0; c < columns(); c++) values.add(cell(t, c, 1));
            }
        }
        text.chars().forEach(values::add);
        for (int what = 0; what <= 8; what++) values.add(count(what));
        long h = 1489;
        for (int value : values) h = 31 * h + value;
        return h;
    }
}
