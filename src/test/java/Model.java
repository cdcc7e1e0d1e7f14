import java.util.ArrayDeque;
import java.util.ArrayList;
import java.util.Deque;
import java.util.HashSet;
import java.util.List;
import java.util.Set;
import java.util.regex.Matcher;
import java.util.regex.Pattern;

/** The document once more, written to be compared with: slow, by trying everything, and sharing nothing. */
final class Model {
    private static final String ORDER = "(k\\d{4}|c\\d=\\d{4}/\\d{4}|[tp][A-P]|g\\d|b(0|[1-9]\\d{0,2}))";
    private static final String[] DIGITS = new String[10000];
    private static final Pattern TEXT = Pattern.compile(ORDER + "(;" + ORDER + ")*");

    static {
        for (int row = 0; row < DIGITS.length; row++) DIGITS[row] = String.format("%04d", row);
    }

    /** All that undo brings back. */
    private static final class State {
        int[] settings = {5, 10, 60};
        List<int[]> doors = new ArrayList<>(); // one, other, first, second, times cut
        List<int[]> keys = new ArrayList<>(); // cuts, weight, place
        List<int[]> plan = new ArrayList<>(); // door, first, second
        int room, walked, box, cameIn, lost;

        State copy() {
            State state = new State();
            state.settings = settings.clone();
            for (int[] door : doors) state.doors.add(door.clone());
            for (int[] key : keys) state.keys.add(key.clone());
            for (int[] cut : plan) state.plan.add(cut.clone());
            state.room = room;
            state.walked = walked;
            state.box = box;
            state.cameIn = cameIn;
            state.lost = lost;
            return state;
        }
    }

    private State now = new State();
    private final List<State> history = new ArrayList<>();
    private final State[] slots = new State[2];
    private String pad = "";
    private boolean inText;

    private void record() {
        if (inText) return;
        history.add(now.copy());
        if (history.size() > 6) history.remove(0);
    }

    private static String digits(int row) {
        return DIGITS[row];
    }

    private static boolean badRow(int row) {
        return row < 0 || row > 9999;
    }

    private static boolean badRoom(int room) {
        return room < 0 || room > 7;
    }

    private boolean noDoor(int door) {
        return door < 0 || door >= now.doors.size();
    }

    private static int weight(int first, int second) {
        int weight = 0;
        for (int pin = 0; pin < 4; pin++) {
            char one = digits(first).charAt(pin);
            weight += 1 + (one - '0') + (one == digits(second).charAt(pin) ? 0 : 1);
        }
        return weight;
    }

    private static int depths(int row) {
        return digits(row).chars().map(c -> c - '0').sum();
    }

    private static boolean canBeKey(int row, int step) {
        String cuts = digits(row);
        for (int place = 0; place < 3; place++) {
            if (Math.abs(cuts.charAt(place) - cuts.charAt(place + 1)) > step) return false;
        }
        return true;
    }

    private boolean fits(int cuts, int door) {
        String key = digits(cuts);
        String first = digits(now.doors.get(door)[2]);
        String second = digits(now.doors.get(door)[3]);
        for (int pin = 0; pin < 4; pin++) {
            char depth = key.charAt(pin);
            if (depth != first.charAt(pin) && depth != second.charAt(pin)) return false;
        }
        return true;
    }

    private static int loss(int weight, int percent) {
        return (int) Math.ceil(weight * percent / 100.0);
    }

    int set(int setting, int value) {
        int[] least = {1, 0, 40};
        int[] most = {9, 50, 90};
        if (setting < 0 || setting > 2 || value < least[setting] || value > most[setting]) return -2;
        record();
        int previous = now.settings[setting];
        now.settings[setting] = value;
        return previous;
    }

    int brass(int grams) {
        if (grams < 1 || grams > 1000) return -2;
        record();
        now.cameIn += grams;
        return now.box += grams;
    }

    int door(int one, int other, int first, int second) {
        if (badRoom(one) || badRoom(other) || one == other || badRow(first) || badRow(second)) return -2;
        if (now.doors.size() == 10) return -4;
        if (now.box < weight(first, second)) return -5;
        record();
        now.box -= weight(first, second);
        now.doors.add(new int[] {one, other, first, second, 0});
        return now.doors.size() - 1;
    }

    int cut(int door, int first, int second) {
        if (noDoor(door)) return -1;
        if (badRow(first) || badRow(second)) return -2;
        int[] lock = now.doors.get(door);
        int old = weight(lock[2], lock[3]);
        int lost = loss(old, now.settings[1]);
        if (now.box + old - lost < weight(first, second)) return -5;
        record();
        now.box += old - lost - weight(first, second);
        now.lost += lost;
        lock[2] = first;
        lock[3] = second;
        lock[4]++;
        return now.box;
    }

    int key(int cuts, int room) {
        if (badRow(cuts) || badRoom(room)) return -2;
        if (now.keys.size() == 16) return -4;
        if (!canBeKey(cuts, now.settings[0])) return -5;
        record();
        now.cameIn += now.settings[2];
        now.box += depths(cuts);
        now.keys.add(new int[] {cuts, now.settings[2] - depths(cuts), room});
        return now.keys.size() - 1;
    }

    int melt(int key) {
        if (key < 0 || key >= now.keys.size()) return -1;
        int[] melted = now.keys.get(key);
        if (melted[2] == 9) return -5;
        record();
        int lost = loss(melted[1], now.settings[1]);
        now.lost += lost;
        now.box += melted[1] - lost;
        melted[1] = 0;
        melted[2] = 9;
        return now.box;
    }

    int take(int key) {
        if (key < 0 || key >= now.keys.size()) return -1;
        if (now.keys.get(key)[2] != now.room) return -5;
        record();
        now.keys.get(key)[2] = 8;
        return count(1);
    }

    int putDown(int key) {
        if (key < 0 || key >= now.keys.size()) return -1;
        if (now.keys.get(key)[2] != 8) return -5;
        record();
        now.keys.get(key)[2] = now.room;
        return count(1);
    }

    int go(int door) {
        if (noDoor(door)) return -1;
        int[] way = now.doors.get(door);
        if (way[0] != now.room && way[1] != now.room) return -5;
        boolean open = false;
        for (int[] key : now.keys) open |= key[2] == 8 && fits(key[0], door);
        if (!open) return -5;
        record();
        now.walked++;
        return now.room = way[0] + way[1] - now.room;
    }

    int plan(int door, int first, int second) {
        if (noDoor(door)) return -1;
        if (badRow(first) || badRow(second)) return -2;
        if (now.plan.size() == 6) return -4;
        if (ofDoor(door, 7) != -6) return -5;
        record();
        now.plan.add(new int[] {door, first, second});
        return now.plan.size();
    }

    int dropPlan() {
        record();
        int size = now.plan.size();
        now.plan.clear();
        return size;
    }

    int carryPlan() {
        List<List<Integer>> orders = orders(0, 1);
        if (now.plan.isEmpty() || orders.isEmpty()) return -5;
        record();
        inText = true;
        for (int place : orders.get(0)) cut(now.plan.get(place)[0], now.plan.get(place)[1], now.plan.get(place)[2]);
        inText = false;
        now.plan.clear();
        return now.box;
    }

    /** Orders of the plan that can be carried out with more brass, the first one first, and so many at most. */
    private List<List<Integer>> orders(int more, int most) {
        List<List<Integer>> found = new ArrayList<>();
        State kept = now;
        boolean was = inText;
        inText = true;
        now = kept.copy();
        now.box += more;
        tryOrders(new ArrayList<>(), found, most);
        now = kept;
        inText = was;
        return found;
    }

    private void tryOrders(List<Integer> chosen, List<List<Integer>> found, int most) {
        if (found.size() == most) return;
        if (chosen.size() == now.plan.size()) {
            found.add(new ArrayList<>(chosen));
            return;
        }
        for (int place = 0; place < now.plan.size(); place++) {
            if (chosen.contains(place)) continue;
            State kept = now;
            now = kept.copy();
            int[] next = now.plan.get(place);
            if (cut(next[0], next[1], next[2]) >= 0) {
                chosen.add(place);
                tryOrders(chosen, found, most);
                chosen.remove(chosen.size() - 1);
            }
            now = kept;
        }
    }

    int ofDoor(int door, int what) {
        if (noDoor(door)) return -1;
        int[] asked = now.doors.get(door);
        if (what >= 0 && what <= 3) return asked[what];
        if (what == 4) return weight(asked[2], asked[3]);
        if (what == 5) return asked[4];
        if (what == 6) {
            int set = 0;
            for (int key = 0; key < now.keys.size(); key++) {
                if (now.keys.get(key)[2] != 9 && fits(now.keys.get(key)[0], door)) set += 1 << key;
            }
            return set;
        }
        if (what != 7) return -2;
        for (int place = 0; place < now.plan.size(); place++) {
            if (now.plan.get(place)[0] == door) return place;
        }
        return -6;
    }

    int ofKey(int key, int what) {
        if (key < 0 || key >= now.keys.size()) return -1;
        if (what >= 0 && what <= 2) return now.keys.get(key)[what];
        if (what != 3) return -2;
        int set = 0;
        for (int door = 0; door < now.doors.size(); door++) {
            if (now.keys.get(key)[2] != 9 && fits(now.keys.get(key)[0], door)) set += 1 << door;
        }
        return set;
    }

    int count(int what) {
        if (what < 0 || what > 15) return -2;
        int carried = 0;
        int inKeys = 0;
        for (int key = 0; key < now.keys.size(); key++) {
            if (now.keys.get(key)[2] == 8) carried += 1 << key;
            inKeys += now.keys.get(key)[1];
        }
        int inLocks = now.doors.stream().mapToInt(door -> weight(door[2], door[3])).sum();
        return new int[] {now.room, carried, now.doors.size(), now.keys.size(), now.cameIn, inLocks, inKeys, now.box, now.lost,
            now.plan.size(), now.walked, pad.length(), history.size(), now.settings[0], now.settings[1],
            now.settings[2]}[what];
    }

    int opens(int cuts, int door) {
        if (noDoor(door)) return -1;
        if (badRow(cuts)) return -2;
        return fits(cuts, door) ? 1 : 0;
    }

    private int opened(int cuts) {
        int set = 0;
        for (int door = 0; door < now.doors.size(); door++) set += fits(cuts, door) ? 1 << door : 0;
        return set;
    }

    int chanceKeys(int doors) {
        if (doors < 0 || doors >= 1 << now.doors.size()) return -1;
        int many = 0;
        for (int row = 0; row <= 9999; row++) {
            if (canBeKey(row, now.settings[0]) && (opened(row) & doors) == doors) many++;
        }
        return many;
    }

    int justFor(int doors) {
        if (doors < 0 || doors >= 1 << now.doors.size()) return -1;
        for (int row = 0; row <= 9999; row++) {
            if (canBeKey(row, now.settings[0]) && opened(row) == doors) return row;
        }
        return -6;
    }

    /** Walks on by rooms and keys in hand: gives the doors to a room, or by room -1 the set of rooms. */
    private int walk(int target) {
        Deque<int[]> open = new ArrayDeque<>();
        Set<Integer> seen = new HashSet<>();
        int rooms = 0;
        open.add(new int[] {now.room, withKeysOf(count(1), now.room), 0});
        while (!open.isEmpty()) {
            int[] here = open.poll();
            if (!seen.add(here[0] << 16 | here[1])) continue;
            rooms |= 1 << here[0];
            if (here[0] == target) return here[2];
            for (int door = 0; door < now.doors.size(); door++) {
                int[] way = now.doors.get(door);
                if ((ofDoor(door, 6) & here[1]) == 0 || way[0] != here[0] && way[1] != here[0]) continue;
                int beyond = way[0] == here[0] ? way[1] : way[0];
                open.add(new int[] {beyond, withKeysOf(here[1], beyond), here[2] + 1});
            }
        }
        return target < 0 ? rooms : -6;
    }

    private int withKeysOf(int keys, int room) {
        int set = keys;
        for (int key = 0; key < now.keys.size(); key++) {
            if (now.keys.get(key)[2] == room) set |= 1 << key;
        }
        return set;
    }

    int reach() {
        return walk(-1);
    }

    int doorsTo(int room) {
        return badRoom(room) ? -2 : walk(room);
    }

    int planOrder(int place) {
        if (place < 0 || place > 5) return -2;
        List<List<Integer>> orders = orders(0, 1);
        return orders.isEmpty() || place >= orders.get(0).size() ? -6 : orders.get(0).get(place);
    }

    int planOrders() {
        return orders(0, 720).size();
    }

    int mustBeLast() {
        Set<Integer> last = new HashSet<>();
        for (List<Integer> order : orders(0, 720)) last.add(order.isEmpty() ? -6 : order.get(order.size() - 1));
        return last.size() == 1 ? last.iterator().next() : -6;
    }

    int brassForPlan() {
        int grams = 0;
        while (orders(grams, 1).isEmpty()) grams++;
        return grams;
    }

    int put(long characters) {
        StringBuilder added = new StringBuilder();
        boolean ended = false;
        for (int place = 0; place < 8; place++) {
            int code = (int) (characters >>> 8 * place & 255);
            if (code == 0) {
                ended = true;
            } else if (ended || code < 33 || code > 126) {
                return -2;
            } else {
                added.insert(0, (char) code);
            }
        }
        if (added.length() == 0) return -2;
        if (pad.length() + added.length() > 80) return -4;
        pad += added;
        return pad.length();
    }

    int wipe() {
        int length = pad.length();
        pad = "";
        return length;
    }

    int fault() {
        for (int end = 1; end <= pad.length(); end++) {
            Matcher matcher = TEXT.matcher(pad.substring(0, end));
            if (!matcher.matches() && !matcher.hitEnd()) return end - 1;
        }
        return TEXT.matcher(pad).matches() ? -6 : pad.length();
    }

    int carryOut() {
        if (fault() != -6) return -3;
        record();
        int done = 0;
        inText = true;
        for (String order : pad.split(";")) {
            if (obey(order) < 0) break;
            done++;
        }
        inText = false;
        pad = "";
        return done;
    }

    private int obey(String order) {
        String rest = order.substring(1);
        switch (order.charAt(0)) {
            case 'k': return key(Integer.parseInt(rest), now.room);
            case 't': return take(rest.charAt(0) - 'A');
            case 'p': return putDown(rest.charAt(0) - 'A');
            case 'g': return go(Integer.parseInt(rest));
            case 'b': return brass(Integer.parseInt(rest));
            default:
                String[] parts = rest.split("[=/]");
                return cut(Integer.parseInt(parts[0]), Integer.parseInt(parts[1]), Integer.parseInt(parts[2]));
        }
    }

    int undo() {
        if (history.isEmpty()) return -5;
        now = history.remove(history.size() - 1);
        return history.size();
    }

    int save(int slot) {
        if (slot < 0 || slot > 1) return -2;
        slots[slot] = now.copy();
        return now.room;
    }

    int restore(int slot) {
        if (slot < 0 || slot > 1) return -2;
        if (slots[slot] == null) return -5;
        record();
        now = slots[slot].copy();
        return now.room;
    }
}
