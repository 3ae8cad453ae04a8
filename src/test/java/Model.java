import java.util.ArrayDeque;
import java.util.ArrayList;
import java.util.Deque;
import java.util.HashMap;
import java.util.List;
import java.util.Map;
import java.util.TreeSet;
import java.util.regex.Pattern;

/**
 * The document once more, in lists and texts, with no thought of cost: what a block takes
 * is the length of its bits as a text, and everything else is told from that.
 */
final class Model {

    private static final Pattern COLUMN = Pattern.compile(
            "(0|[1-9][0-9]{0,2})(\\*([2-9]|1[0-6]))?(,(0|[1-9][0-9]{0,2})(\\*([2-9]|1[0-6]))?)*");

    private record Block(List<Integer> values, int form, int room) {
    }

    private record State(List<Block> blocks, List<Integer> tail, List<Integer> settings,
            int inPlace, int anew) {
    }

    private static final Map<List<Integer>, List<String>> known = new HashMap<>();

    private List<Block> blocks = new ArrayList<>();
    private List<Integer> tail = new ArrayList<>();
    private List<Integer> settings = new ArrayList<>(List.of(16, 16, 31));
    private int inPlace = 0;
    private int anew = 0;
    private final Deque<State> saved = new ArrayDeque<>();
    private State snapshot = null;
    private String buffer = "";

    // ---- states

    private State state() {
        return new State(List.copyOf(blocks), List.copyOf(tail), List.copyOf(settings),
                inPlace, anew);
    }

    private void restore(State state) {
        blocks = new ArrayList<>(state.blocks());
        tail = new ArrayList<>(state.tail());
        settings = new ArrayList<>(state.settings());
        inPlace = state.inPlace();
        anew = state.anew();
    }

    private void save() {
        saved.addLast(state());
        if (saved.size() > 6) {
            saved.removeFirst();
        }
    }

    // ---- forms

    private static String field(int number, int width) {
        String bits = Integer.toBinaryString(number);
        return width == 0 ? "" : "0".repeat(width - bits.length()) + bits;
    }

    private static int width(int number) {
        return number == 0 ? 0 : Integer.toBinaryString(number).length();
    }

    private static List<List<Integer>> runs(List<Integer> values) {
        List<List<Integer>> runs = new ArrayList<>();
        for (int value : values) {
            if (runs.isEmpty() || runs.get(runs.size() - 1).get(0) != value) {
                runs.add(new ArrayList<>());
            }
            runs.get(runs.size() - 1).add(value);
        }
        return runs;
    }

    private static String bits(List<Integer> values, int form) {
        if (known.size() > 200000) {
            known.clear();
        }
        return known.computeIfAbsent(List.copyOf(values), Model::allBits).get(form);
    }

    private static List<String> allBits(List<Integer> values) {
        return List.of(plain(values), packed(values), inRuns(values), deltas(values),
                listed(values));
    }

    private static String plain(List<Integer> values) {
        StringBuilder all = new StringBuilder();
        values.forEach(value -> all.append(field(value, 10)));
        return all.toString();
    }

    private static String packed(List<Integer> values) {
        int least = new TreeSet<>(values).first();
        int width = width(new TreeSet<>(values).last() - least);
        StringBuilder all = new StringBuilder(field(least, 10) + field(width, 4));
        values.forEach(value -> all.append(field(value - least, width)));
        return all.toString();
    }

    private static String inRuns(List<Integer> values) {
        StringBuilder all = new StringBuilder();
        runs(values).forEach(run -> all.append(field(run.get(0), 10))
                .append(field(run.size() - 1, 4)));
        return all.toString();
    }

    private static String deltas(List<Integer> values) {
        List<Integer> steps = new ArrayList<>();
        for (int i = 1; i < values.size(); i++) {
            int e = values.get(i) - values.get(i - 1);
            steps.add(e >= 0 ? 2 * e : -2 * e - 1);
        }
        int width = width(steps.stream().mapToInt(step -> step).max().orElse(0));
        StringBuilder all = new StringBuilder(field(values.get(0), 10) + field(width, 4));
        steps.forEach(step -> all.append(field(step, width)));
        return all.toString();
    }

    private static String listed(List<Integer> values) {
        List<Integer> unlike = new ArrayList<>(new TreeSet<>(values));
        StringBuilder all = new StringBuilder(field(unlike.size() - 1, 4) + plain(unlike));
        values.forEach(value -> all.append(
                field(unlike.indexOf(value), width(unlike.size() - 1))));
        return all.toString();
    }

    private int lightest(List<Integer> values) {
        int best = 0;
        for (int form = 1; form < 5; form++) {
            boolean allowed = (settings.get(2) & 1 << form) != 0;
            if (allowed && bits(values, form).length() < bits(values, best).length()) {
                best = form;
            }
        }
        return best;
    }

    private int picked(List<Integer> values) {
        return lightest(values.subList(0, Math.min(values.size(), settings.get(0))));
    }

    private Block block(List<Integer> values) {
        int form = picked(values);
        return new Block(List.copyOf(values), form, bits(values, form).length());
    }

    private Block writtenAnew(List<Integer> values) {
        anew++;
        return block(values);
    }

    // ---- writing

    private static void argument(boolean good) {
        if (!good) {
            throw new IllegalArgumentException();
        }
    }

    private static void index(boolean good) {
        if (!good) {
            throw new IndexOutOfBoundsException();
        }
    }

    private static void state(boolean good) {
        if (!good) {
            throw new IllegalStateException();
        }
    }

    private List<Integer> all() {
        List<Integer> all = new ArrayList<>();
        blocks.forEach(block -> all.addAll(block.values()));
        all.addAll(tail);
        return all;
    }

    private boolean canWrite() {
        return tail.size() + 1 < settings.get(1) || blocks.size() < 12;
    }

    private void put(int value) {
        tail.add(value);
        if (tail.size() >= settings.get(1)) {
            blocks.add(writtenAnew(tail));
            tail.clear();
        }
    }

    int write(int value) {
        argument(value >= 0 && value <= 999);
        state(canWrite());
        save();
        put(value);
        return all().size();
    }

    int close() {
        state(!tail.isEmpty() && blocks.size() < 12);
        save();
        blocks.add(writtenAnew(tail));
        tail.clear();
        return blocks.get(blocks.size() - 1).form();
    }

    private int blockOf(int index) {
        int end = 0;
        for (int i = 0; i < blocks.size(); i++) {
            end += blocks.get(i).values().size();
            if (index < end) {
                return i;
            }
        }
        return -1;
    }

    private int startOf(int block) {
        int start = 0;
        for (Block ahead : blocks.subList(0, block < 0 ? blocks.size() : block)) {
            start += ahead.values().size();
        }
        return start;
    }

    int change(int index, int value) {
        index(index >= 0 && index < all().size());
        argument(value >= 0 && value <= 999);
        save();
        int number = blockOf(index);
        int place = index - startOf(number);
        if (number < 0) {
            tail.set(place, value);
            return 0;
        }
        Block block = blocks.get(number);
        List<Integer> values = new ArrayList<>(block.values());
        values.set(place, value);
        if (bits(values, block.form()).length() <= block.room()) {
            blocks.set(number, new Block(values, block.form(), block.room()));
            inPlace++;
            return 1;
        }
        blocks.set(number, writtenAnew(values));
        return 2;
    }

    // ---- blocks

    private boolean isBlock(int block) {
        return block >= 0 && block < blocks.size();
    }

    int anew(int number) {
        index(isBlock(number));
        save();
        Block block = blocks.get(number);
        blocks.set(number, writtenAnew(block.values()));
        return block.room() - blocks.get(number).room();
    }

    int join(int number) {
        index(isBlock(number) && isBlock(number + 1));
        List<Integer> both = new ArrayList<>(blocks.get(number).values());
        both.addAll(blocks.get(number + 1).values());
        state(both.size() <= 16);
        save();
        blocks.remove(number + 1);
        blocks.set(number, writtenAnew(both));
        return blocks.get(number).form();
    }

    private int gain(int number, int place) {
        Block block = blocks.get(number);
        List<Integer> values = block.values();
        return block.room() + 7 - (block(values.subList(0, place)).room() + 7)
                - (block(values.subList(place, values.size())).room() + 7);
    }

    int split(int number, int place) {
        index(isBlock(number) && place >= 1 && place < blocks.get(number).values().size());
        state(blocks.size() < 12);
        save();
        int gain = gain(number, place);
        List<Integer> values = blocks.get(number).values();
        blocks.set(number, writtenAnew(values.subList(0, place)));
        blocks.add(number + 1, writtenAnew(values.subList(place, values.size())));
        return gain;
    }

    int drop(int number) {
        index(isBlock(number));
        save();
        return blocks.remove(number).values().size();
    }

    int set(int setting, int value) {
        index(setting >= 0 && setting <= 2);
        argument(value >= (setting == 1 ? 2 : 1) && value <= (setting == 2 ? 31 : 16)
                && (setting < 2 || value % 2 == 1));
        save();
        return settings.set(setting, value);
    }

    // ---- texts, the snapshot

    int append(int code) {
        argument(code >= 33 && code <= 126);
        state(buffer.length() < 60);
        buffer += (char) code;
        return buffer.length();
    }

    int clearBuffer() {
        int length = buffer.length();
        buffer = "";
        return length;
    }

    /** What begins a column is a whole one with one more digit at the most. */
    private static boolean begins(String text) {
        return COLUMN.matcher(text).matches() || COLUMN.matcher(text + "0").matches()
                || COLUMN.matcher(text + "2").matches();
    }

    int firstError() {
        for (int i = 0; i < buffer.length(); i++) {
            if (!begins(buffer.substring(0, i + 1))) {
                return i;
            }
        }
        return buffer.length();
    }

    int load() {
        argument(COLUMN.matcher(buffer).matches());
        save();
        int written = 0;
        for (String part : buffer.split(",")) {
            String[] both = part.split("\\*");
            for (int i = 0; i < (both.length == 1 ? 1 : Integer.parseInt(both[1])); i++) {
                if (canWrite()) {
                    put(Integer.parseInt(both[0]));
                    written++;
                }
            }
        }
        buffer = "";
        return written;
    }

    int keep() {
        snapshot = state();
        return all().size();
    }

    int goBack() {
        state(snapshot != null);
        save();
        restore(snapshot);
        return all().size();
    }

    int undo() {
        state(!saved.isEmpty());
        restore(saved.removeLast());
        return saved.size();
    }

    // ---- looks

    int value(int index, int what) {
        index(index >= 0 && index < all().size());
        argument(what >= 0 && what <= 3);
        int number = blockOf(index);
        int place = index - startOf(number);
        int form = number < 0 ? 0 : blocks.get(number).form();
        int looks = form == 2 ? runs(blocks.get(number).values().subList(0, place + 1)).size()
                : form == 3 ? place + 1 : form == 4 ? 2 : 1;
        return List.of(all().get(index), number, place, looks).get(what);
    }

    int block(int number, int what) {
        index(isBlock(number));
        argument(what >= 0 && what <= 9);
        Block block = blocks.get(number);
        List<Integer> values = block.values();
        TreeSet<Integer> unlike = new TreeSet<>(values);
        return new int[] {block.form(), values.size(), bits(values, block.form()).length(),
            block.room(), unlike.first(), unlike.last(), runs(values).size(), unlike.size(),
            picked(values), startOf(number)}[what];
    }

    int size(int number, int form) {
        index(isBlock(number));
        argument(form >= 0 && form <= 4);
        return bits(blocks.get(number).values(), form).length();
    }

    int bit(int number, int index) {
        index(isBlock(number));
        argument(index >= 0);
        String bits = bits(blocks.get(number).values(), blocks.get(number).form());
        return index < bits.length() ? bits.charAt(index) - '0' : -1;
    }

    int count(int what) {
        argument(what >= 0 && what <= 8);
        int rooms = blocks.stream().mapToInt(Block::room).sum();
        int used = blocks.stream().mapToInt(b -> bits(b.values(), b.form()).length()).sum();
        return new int[] {all().size(), blocks.size(), tail.size(),
            rooms + 7 * blocks.size() + 10 * tail.size(), inPlace, anew, rooms - used,
            all().stream().mapToInt(value -> value).sum(), saved.size()}[what];
    }

    int setting(int setting) {
        index(setting >= 0 && setting <= 2);
        return settings.get(setting);
    }

    int match(int least, int greatest, int what) {
        argument(least >= 0 && least <= 999 && greatest >= 0 && greatest <= 999
                && what >= 0 && what <= 3);
        List<Integer> all = all();
        int first = -1;
        int hits = 0;
        for (int i = 0; i < all.size(); i++) {
            if (all.get(i) >= least && all.get(i) <= greatest) {
                first = first < 0 ? i : first;
                hits++;
            }
        }
        return new int[] {hits, hits, matchLooks(least, greatest), first}[what];
    }

    private int matchLooks(int least, int greatest) {
        int looks = tail.size();
        for (Block block : blocks) {
            TreeSet<Integer> unlike = new TreeSet<>(block.values());
            boolean outside = unlike.last() < least || unlike.first() > greatest;
            boolean inside = unlike.first() >= least && unlike.last() <= greatest;
            looks++;
            if (!outside && !inside && greatest >= least) {
                int length = block.values().size();
                looks += block.form() == 2 ? runs(block.values()).size()
                        : block.form() == 4 ? unlike.size() + length : length;
            }
        }
        return looks;
    }

    // ---- what would be

    int ifChanged(int index, int value, int what) {
        index(index >= 0 && index < all().size());
        argument(value >= 0 && value <= 999 && what >= 0 && what <= 1);
        State before = state();
        List<State> states = List.copyOf(saved);
        int weight = count(3);
        int answer = change(index, value);
        int growth = count(3) - weight;
        restore(before);
        saved.clear();
        saved.addAll(states);
        return what == 0 ? answer : growth;
    }

    int bestSplit(int number) {
        index(isBlock(number));
        int best = -1;
        for (int place = 1; place < blocks.get(number).values().size(); place++) {
            if (best < 0 || gain(number, place) > gain(number, best)) {
                best = place;
            }
        }
        return best;
    }

    int least(int what) {
        argument(what >= 0 && what <= 2);
        List<Integer> all = all();
        int[] best = new int[all.size() + 1];
        for (int i = 1; i <= all.size(); i++) {
            best[i] = Integer.MAX_VALUE;
            for (int start = Math.max(0, i - 16); start < i; start++) {
                List<Integer> values = all.subList(start, i);
                int bits = bits(values, lightest(values)).length();
                // bits count in thousands, so that blocks decide between like bits
                best[i] = Math.min(best[i], best[start] + 1000 * (bits + 7) + 1);
            }
        }
        return what == 2 ? best[all.size()] % 1000 : best[all.size()] / 1000;
    }

    double sizeShare() {
        return all().isEmpty() ? 1.0 : (double) count(3) / (10 * all().size());
    }

    float meanBits() {
        return all().isEmpty() ? 0.0f : (float) count(3) / all().size();
    }

    long digest() {
        List<Long> list = new ArrayList<>();
        for (int what = 0; what <= 8; what++) {
            list.add((long) count(what));
        }
        settings.forEach(setting -> list.add((long) setting));
        for (int i = 0; i < all().size(); i++) {
            for (int what = 0; what <= 3; what++) {
                list.add((long) value(i, what));
            }
        }
        for (int block = 0; block < blocks.size(); block++) {
            addBlock(list, block);
        }
        for (int what = 0; what <= 3; what++) {
            list.add((long) match(0, 99, what));
        }
        for (int what = 0; what <= 3; what++) {
            list.add((long) match(100, 499, what));
        }
        for (int what = 0; what <= 3; what++) {
            list.add((long) match(0, 999, what));
        }
        for (int what = 0; what <= 2; what++) {
            list.add((long) least(what));
        }
        list.add(Double.doubleToLongBits(sizeShare()));
        list.add((long) Float.floatToIntBits(meanBits()));
        list.add(snapshot == null ? 0L : 1L);
        list.add((long) buffer.length());
        buffer.chars().forEach(code -> list.add((long) code));
        long hash = 3631;
        for (long number : list) {
            hash = 31 * hash + number;
        }
        return hash;
    }

    private void addBlock(List<Long> list, int block) {
        for (int what = 0; what <= 9; what++) {
            list.add((long) block(block, what));
        }
        for (int form = 0; form <= 4; form++) {
            list.add((long) size(block, form));
        }
        for (int i = 0; i < block(block, 2); i++) {
            list.add((long) bit(block, i));
        }
        list.add((long) bestSplit(block));
    }
}
