/**
 * A house of rooms with locks and keys, as ../shared/DOC.md tells it.
 *
 * All objects and rows are made by the constructor and used again, so that no call makes new ones.
 */
public final class PinHouse {
    public static final int NO_SUCH = -1, BAD_VALUE = -2, BAD_TEXT = -3, TOO_MANY = -4, NOT_POSSIBLE = -5, NONE = -6;
    public static final int STEP = 0, LOSS = 1, BLANK = 2;

    private static final int ROOMS = 8, MOST_DOORS = 10, MOST_KEYS = 16, MOST_PLANNED = 6;
    private static final int MOST_STATES = 6, SLOTS = 2;
    private static final int PINS = 4, DEPTHS = 10, MOST_ROW = 9999;
    private static final int MOST_GRAMS = 1000, MOST_DIGITS = 3;
    private static final int CARRIED = 8, MELTED = 9;
    private static final int MOST_SIGNS = 80, SIGNS_AT_ONCE = 8;
    // The shortest order has 2 signs and a ";" before the next one.
    private static final int MOST_ORDERS = 27;

    private final House now = new House();
    private House before = new House();
    private final History history = new History();
    private final House[] slots = new House[SLOTS];
    private final boolean[] saved = new boolean[SLOTS];
    private final Pad pad = new Pad();
    private final KeySearch keySearch = new KeySearch();
    private final WalkSearch walkSearch = new WalkSearch();
    private final PlanSearch planSearch = new PlanSearch();

    public PinHouse() {
        for (int slot = 0; slot < SLOTS; slot++) slots[slot] = new House();
    }

    // ---- setting up

    public int set(int setting, int value) {
        before.copyFrom(now);
        return recorded(now.changeSetting(setting, value));
    }

    public int brass(int grams) {
        before.copyFrom(now);
        return recorded(now.bringBrass(grams));
    }

    public int door(int one, int other, int first, int second) {
        before.copyFrom(now);
        return recorded(now.makeDoor(one, other, first, second));
    }

    public int cut(int door, int first, int second) {
        before.copyFrom(now);
        return recorded(now.cutAnew(door, first, second));
    }

    // ---- keys

    public int key(int cuts, int room) {
        before.copyFrom(now);
        return recorded(now.makeKey(cuts, room));
    }

    public int melt(int key) {
        before.copyFrom(now);
        return recorded(now.meltKey(key));
    }

    // ---- the walker

    public int take(int key) {
        before.copyFrom(now);
        return recorded(now.takeKey(key));
    }

    public int putDown(int key) {
        before.copyFrom(now);
        return recorded(now.layKeyDown(key));
    }

    public int go(int door) {
        before.copyFrom(now);
        return recorded(now.walkThrough(door));
    }

    // ---- the plan

    public int plan(int door, int first, int second) {
        before.copyFrom(now);
        return recorded(now.planCut(door, first, second));
    }

    public int dropPlan() {
        before.copyFrom(now);
        return recorded(now.emptyPlan());
    }

    public int carryPlan() {
        planSearch.work(now);
        if (now.plan.size == 0 || planSearch.howManyOrders() == 0) return NOT_POSSIBLE;
        before.copyFrom(now);
        int size = now.plan.size;
        for (int place = 0; place < size; place++) now.carryPlanned(planSearch.firstOrderAt(place));
        now.emptyPlan();
        return recorded(now.box);
    }

    // ---- what there is

    public int ofDoor(int door, int what) {
        return now.aboutDoor(door, what);
    }

    public int ofKey(int key, int what) {
        return now.aboutKey(key, what);
    }

    public int count(int what) {
        if (what == 11) return pad.length;
        if (what == 12) return history.size;
        return now.aboutAll(what);
    }

    // ---- what if; nothing changes

    public int opens(int cuts, int door) {
        if (!now.hasDoor(door)) return NO_SUCH;
        if (!Rows.isRow(cuts)) return BAD_VALUE;
        return now.doors[door].isOpenedBy(cuts) ? 1 : 0;
    }

    public int chanceKeys(int doors) {
        if (!now.hasDoors(doors)) return NO_SUCH;
        return keySearch.howMany(now, doors);
    }

    public int justFor(int doors) {
        if (!now.hasDoors(doors)) return NO_SUCH;
        return keySearch.leastJustFor(now, doors);
    }

    public int reach() {
        return walkSearch.roomsInReach(now);
    }

    public int doorsTo(int room) {
        if (!House.isRoom(room)) return BAD_VALUE;
        return walkSearch.fewestDoors(now, room);
    }

    public int planOrder(int place) {
        if (place < 0 || place >= MOST_PLANNED) return BAD_VALUE;
        planSearch.work(now);
        return planSearch.firstOrderAt(place);
    }

    public int planOrders() {
        planSearch.work(now);
        return planSearch.howManyOrders();
    }

    public int mustBeLast() {
        planSearch.work(now);
        return planSearch.onlyLast();
    }

    public int brassForPlan() {
        planSearch.work(now);
        return planSearch.leastBrass();
    }

    // ---- texts

    public int put(long characters) {
        return pad.append(characters);
    }

    public int wipe() {
        return pad.clear();
    }

    public int fault() {
        return pad.read();
    }

    public int carryOut() {
        if (pad.read() != NONE) return BAD_TEXT;
        before.copyFrom(now);
        int done = 0;
        while (done < pad.orderCount && now.obey(pad.orders[done]) >= 0) done++;
        pad.clear();
        return recorded(done);
    }

    // ---- undo, saving

    public int undo() {
        if (history.size == 0) return NOT_POSSIBLE;
        now.copyFrom(history.takeLatest());
        return history.size;
    }

    public int save(int slot) {
        if (!isSlot(slot)) return BAD_VALUE;
        slots[slot].copyFrom(now);
        saved[slot] = true;
        return now.room;
    }

    public int restore(int slot) {
        if (!isSlot(slot)) return BAD_VALUE;
        if (!saved[slot]) return NOT_POSSIBLE;
        before.copyFrom(now);
        now.copyFrom(slots[slot]);
        return recorded(now.room);
    }

    private static boolean isSlot(int slot) {
        return slot >= 0 && slot < SLOTS;
    }

    /** Keeps the state before a change; an error, which is below 0, changed nothing. */
    private int recorded(int answer) {
        if (answer >= 0) before = history.keep(before);
        return answer;
    }

    /** What can be told of rows of cuts, and of the brass for them. */
    static final class Rows {
        static boolean isRow(int row) {
            return row >= 0 && row <= MOST_ROW;
        }

        static boolean canBeKey(int row, int step) {
            int right = row % 10;
            int rest = row / 10;
            for (int pin = 1; pin < PINS; pin++) {
                int depth = rest % 10;
                if (Math.abs(depth - right) > step) return false;
                right = depth;
                rest /= 10;
            }
            return true;
        }

        static int sumOfDepths(int row) {
            int sum = 0;
            int rest = row;
            for (int pin = 0; pin < PINS; pin++) {
                sum += rest % 10;
                rest /= 10;
            }
            return sum;
        }

        static int lockWeight(int first, int second) {
            int weight = PINS + sumOfDepths(first);
            int one = first;
            int two = second;
            for (int pin = 0; pin < PINS; pin++) {
                if (one % 10 != two % 10) weight++;
                one /= 10;
                two /= 10;
            }
            return weight;
        }

        static int lossOf(int weight, int percent) {
            return (weight * percent + 99) / 100;
        }
    }

    /** A door between two rooms, with its lock. */
    static final class Door {
        int one, other, first, second, timesCut;

        void copyFrom(Door door) {
            one = door.one;
            other = door.other;
            first = door.first;
            second = door.second;
            timesCut = door.timesCut;
        }

        void build(int oneRoom, int otherRoom, int firstRow, int secondRow) {
            one = oneRoom;
            other = otherRoom;
            first = firstRow;
            second = secondRow;
            timesCut = 0;
        }

        int weight() {
            return Rows.lockWeight(first, second);
        }

        boolean isOpenedBy(int cuts) {
            int key = cuts;
            int firstRest = first;
            int secondRest = second;
            for (int pin = 0; pin < PINS; pin++) {
                int depth = key % 10;
                if (depth != firstRest % 10 && depth != secondRest % 10) return false;
                key /= 10;
                firstRest /= 10;
                secondRest /= 10;
            }
            return true;
        }

        /** The room on the other side, NONE if the door is not one of this room. */
        int beyond(int room) {
            if (room == one) return other;
            return room == other ? one : NONE;
        }
    }

    /** A key that was cut. */
    static final class Key {
        int cuts, weight, place;

        void copyFrom(Key key) {
            cuts = key.cuts;
            weight = key.weight;
            place = key.place;
        }
    }

    /** The plan: cuts that are still to be carried out. */
    static final class Plan {
        final int[] doors = new int[MOST_PLANNED];
        final int[] firsts = new int[MOST_PLANNED];
        final int[] seconds = new int[MOST_PLANNED];
        int size;

        void copyFrom(Plan plan) {
            for (int place = 0; place < plan.size; place++) {
                doors[place] = plan.doors[place];
                firsts[place] = plan.firsts[place];
                seconds[place] = plan.seconds[place];
            }
            size = plan.size;
        }

        int placeOf(int door) {
            for (int place = 0; place < size; place++) {
                if (doors[place] == door) return place;
            }
            return NONE;
        }
    }

    /** All that undo and saved states bring back; its methods check and change, and record nothing. */
    static final class House {
        private static final int[] LEAST = {1, 0, 40};
        private static final int[] MOST = {9, 50, 90};

        final int[] settings = {5, 10, 60};
        final Door[] doors = new Door[MOST_DOORS];
        final Key[] keys = new Key[MOST_KEYS];
        final Plan plan = new Plan();
        int doorCount, keyCount, room, walked, box, cameIn, lost;

        House() {
            for (int door = 0; door < MOST_DOORS; door++) doors[door] = new Door();
            for (int key = 0; key < MOST_KEYS; key++) keys[key] = new Key();
        }

        void copyFrom(House house) {
            for (int setting = STEP; setting <= BLANK; setting++) settings[setting] = house.settings[setting];
            for (int door = 0; door < house.doorCount; door++) doors[door].copyFrom(house.doors[door]);
            for (int key = 0; key < house.keyCount; key++) keys[key].copyFrom(house.keys[key]);
            plan.copyFrom(house.plan);
            doorCount = house.doorCount;
            keyCount = house.keyCount;
            room = house.room;
            walked = house.walked;
            box = house.box;
            cameIn = house.cameIn;
            lost = house.lost;
        }

        static boolean isRoom(int room) {
            return room >= 0 && room < ROOMS;
        }

        boolean hasDoor(int door) {
            return door >= 0 && door < doorCount;
        }

        boolean hasDoors(int set) {
            return set >= 0 && set >> doorCount == 0;
        }

        boolean hasKey(int key) {
            return key >= 0 && key < keyCount;
        }

        int changeSetting(int setting, int value) {
            if (setting < STEP || setting > BLANK) return BAD_VALUE;
            if (value < LEAST[setting] || value > MOST[setting]) return BAD_VALUE;
            int previous = settings[setting];
            settings[setting] = value;
            return previous;
        }

        int bringBrass(int grams) {
            if (grams < 1 || grams > MOST_GRAMS) return BAD_VALUE;
            cameIn += grams;
            box += grams;
            return box;
        }

        int makeDoor(int one, int other, int first, int second) {
            if (!isRoom(one) || !isRoom(other) || one == other) return BAD_VALUE;
            if (!Rows.isRow(first) || !Rows.isRow(second)) return BAD_VALUE;
            if (doorCount >= MOST_DOORS) return TOO_MANY;
            int weight = Rows.lockWeight(first, second);
            if (weight > box) return NOT_POSSIBLE;
            box -= weight;
            doors[doorCount].build(one, other, first, second);
            doorCount++;
            return doorCount - 1;
        }

        int cutAnew(int door, int first, int second) {
            if (!hasDoor(door)) return NO_SUCH;
            if (!Rows.isRow(first) || !Rows.isRow(second)) return BAD_VALUE;
            Door lock = doors[door];
            int loss = Rows.lossOf(lock.weight(), settings[LOSS]);
            int left = box + lock.weight() - loss - Rows.lockWeight(first, second);
            if (left < 0) return NOT_POSSIBLE;
            box = left;
            lost += loss;
            lock.first = first;
            lock.second = second;
            lock.timesCut++;
            return box;
        }

        int makeKey(int cuts, int place) {
            if (!Rows.isRow(cuts) || !isRoom(place)) return BAD_VALUE;
            if (keyCount >= MOST_KEYS) return TOO_MANY;
            if (!Rows.canBeKey(cuts, settings[STEP])) return NOT_POSSIBLE;
            int filed = Rows.sumOfDepths(cuts);
            Key key = keys[keyCount];
            key.cuts = cuts;
            key.weight = settings[BLANK] - filed;
            key.place = place;
            cameIn += settings[BLANK];
            box += filed;
            keyCount++;
            return keyCount - 1;
        }

        int meltKey(int number) {
            if (!hasKey(number)) return NO_SUCH;
            Key key = keys[number];
            if (key.place == MELTED) return NOT_POSSIBLE;
            int loss = Rows.lossOf(key.weight, settings[LOSS]);
            lost += loss;
            box += key.weight - loss;
            key.weight = 0;
            key.place = MELTED;
            return box;
        }

        int takeKey(int key) {
            return moveKey(key, room, CARRIED);
        }

        int layKeyDown(int key) {
            return moveKey(key, CARRIED, room);
        }

        private int moveKey(int key, int from, int to) {
            if (!hasKey(key)) return NO_SUCH;
            if (keys[key].place != from) return NOT_POSSIBLE;
            keys[key].place = to;
            return keysAt(CARRIED);
        }

        int walkThrough(int door) {
            if (!hasDoor(door)) return NO_SUCH;
            int beyond = doors[door].beyond(room);
            if (beyond == NONE || (keysOpening(door) & keysAt(CARRIED)) == 0) return NOT_POSSIBLE;
            room = beyond;
            walked++;
            return room;
        }

        int planCut(int door, int first, int second) {
            if (!hasDoor(door)) return NO_SUCH;
            if (!Rows.isRow(first) || !Rows.isRow(second)) return BAD_VALUE;
            if (plan.size >= MOST_PLANNED) return TOO_MANY;
            if (plan.placeOf(door) != NONE) return NOT_POSSIBLE;
            plan.doors[plan.size] = door;
            plan.firsts[plan.size] = first;
            plan.seconds[plan.size] = second;
            plan.size++;
            return plan.size;
        }

        int emptyPlan() {
            int size = plan.size;
            plan.size = 0;
            return size;
        }

        int carryPlanned(int place) {
            if (place < 0 || place >= plan.size) return NO_SUCH;
            return cutAnew(plan.doors[place], plan.firsts[place], plan.seconds[place]);
        }

        int obey(Order order) {
            switch (order.kind) {
                case 'k': return makeKey(order.first, room);
                case 'c': return cutAnew(order.number, order.first, order.second);
                case 't': return takeKey(order.number);
                case 'p': return layKeyDown(order.number);
                case 'g': return walkThrough(order.number);
                case 'b': return bringBrass(order.number);
                default: return BAD_TEXT;
            }
        }

        /** The set of keys that are in a room, carried or melted. */
        int keysAt(int place) {
            int set = 0;
            for (int key = 0; key < keyCount; key++) {
                if (keys[key].place == place) set |= 1 << key;
            }
            return set;
        }

        int keysOpening(int door) {
            int set = 0;
            for (int key = 0; key < keyCount; key++) {
                if (keys[key].place != MELTED && doors[door].isOpenedBy(keys[key].cuts)) set |= 1 << key;
            }
            return set;
        }

        int doorsOpenedBy(int cuts) {
            int set = 0;
            for (int door = 0; door < doorCount; door++) {
                if (doors[door].isOpenedBy(cuts)) set |= 1 << door;
            }
            return set;
        }

        private int brassInLocks() {
            int sum = 0;
            for (int door = 0; door < doorCount; door++) sum += doors[door].weight();
            return sum;
        }

        private int brassInKeys() {
            int sum = 0;
            for (int key = 0; key < keyCount; key++) sum += keys[key].weight;
            return sum;
        }

        int aboutDoor(int number, int what) {
            if (!hasDoor(number)) return NO_SUCH;
            Door door = doors[number];
            switch (what) {
                case 0: return door.one;
                case 1: return door.other;
                case 2: return door.first;
                case 3: return door.second;
                case 4: return door.weight();
                case 5: return door.timesCut;
                case 6: return keysOpening(number);
                case 7: return plan.placeOf(number);
                default: return BAD_VALUE;
            }
        }

        int aboutKey(int number, int what) {
            if (!hasKey(number)) return NO_SUCH;
            Key key = keys[number];
            switch (what) {
                case 0: return key.cuts;
                case 1: return key.weight;
                case 2: return key.place;
                case 3: return key.place == MELTED ? 0 : doorsOpenedBy(key.cuts);
                default: return BAD_VALUE;
            }
        }

        int aboutAll(int what) {
            switch (what) {
                case 0: return room;
                case 1: return keysAt(CARRIED);
                case 2: return doorCount;
                case 3: return keyCount;
                case 4: return cameIn;
                case 5: return brassInLocks();
                case 6: return brassInKeys();
                case 7: return box;
                case 8: return lost;
                case 9: return plan.size;
                case 10: return walked;
                case 13: return settings[STEP];
                case 14: return settings[LOSS];
                case 15: return settings[BLANK];
                default: return BAD_VALUE;
            }
        }
    }

    /** The states before the latest changes, the oldest one first. */
    static final class History {
        private final House[] states = new House[MOST_STATES];
        int size;

        History() {
            for (int place = 0; place < MOST_STATES; place++) states[place] = new House();
        }

        /** Keeps a state itself, no copy, and gives another one back that may be written over. */
        House keep(House state) {
            House free;
            if (size < MOST_STATES) {
                free = states[size];
                states[size] = state;
                size++;
            } else {
                free = states[0];
                for (int place = 1; place < MOST_STATES; place++) states[place - 1] = states[place];
                states[MOST_STATES - 1] = state;
            }
            return free;
        }

        /** Only for a history that is not empty. */
        House takeLatest() {
            if (size > 0) size--;
            return states[size];
        }
    }

    /** One order of a text. */
    static final class Order {
        char kind;
        int number, first, second;
    }

    /** The pad, and the orders that were read from it last. */
    static final class Pad {
        private static final int FAILED = -1;
        private static final int LEAST_CODE = 33, MOST_CODE = 126;

        private final char[] signs = new char[MOST_SIGNS];
        int length;
        final Order[] orders = new Order[MOST_ORDERS];
        int orderCount;
        // Where the next sign is read; where reading fails, it stays at the fault.
        private int at;

        Pad() {
            for (int place = 0; place < MOST_ORDERS; place++) orders[place] = new Order();
        }

        int append(long characters) {
            int many = howManyIn(characters);
            if (many == 0) return BAD_VALUE;
            if (length + many > MOST_SIGNS) return TOO_MANY;
            long rest = characters;
            for (int place = length + many - 1; place >= length; place--) {
                signs[place] = (char) (rest & 255);
                rest >>>= 8;
            }
            length += many;
            return length;
        }

        /** How many characters a number holds, 0 if it is not in order. */
        private static int howManyIn(long characters) {
            int many = 0;
            long rest = characters;
            while (many < SIGNS_AT_ONCE && (rest & 255) != 0) {
                long code = rest & 255;
                if (code < LEAST_CODE || code > MOST_CODE) return 0;
                rest >>>= 8;
                many++;
            }
            return rest == 0 ? many : 0;
        }

        int clear() {
            int was = length;
            length = 0;
            return was;
        }

        /** Reads all orders; returns the fault, NONE if there is none. */
        int read() {
            at = 0;
            orderCount = 0;
            for (int place = 0; place < MOST_ORDERS; place++) {
                if (!readOrder(orders[place])) return at;
                orderCount++;
                if (at >= length) return NONE;
                if (!readSign(';')) return at;
            }
            return at;
        }

        private boolean readOrder(Order order) {
            if (at >= length) return false;
            order.kind = signs[at];
            switch (order.kind) {
                case 'k':
                    at++;
                    order.first = readCuts();
                    return order.first != FAILED;
                case 'c':
                    at++;
                    return readNewLock(order);
                case 't':
                case 'p':
                    at++;
                    order.number = readBetween('A', 'P');
                    return order.number != FAILED;
                case 'g':
                    at++;
                    order.number = readBetween('0', '9');
                    return order.number != FAILED;
                case 'b':
                    at++;
                    order.number = readNumber();
                    return order.number != FAILED;
                default:
                    return false;
            }
        }

        private boolean readNewLock(Order order) {
            order.number = readBetween('0', '9');
            if (order.number == FAILED || !readSign('=')) return false;
            order.first = readCuts();
            if (order.first == FAILED || !readSign('/')) return false;
            order.second = readCuts();
            return order.second != FAILED;
        }

        private boolean readSign(char sign) {
            if (at >= length || signs[at] != sign) return false;
            at++;
            return true;
        }

        /** Reads one sign of a range, and returns its place in the range. */
        private int readBetween(char least, char most) {
            if (at >= length || signs[at] < least || signs[at] > most) return FAILED;
            at++;
            return signs[at - 1] - least;
        }

        private int readCuts() {
            int row = 0;
            for (int pin = 0; pin < PINS; pin++) {
                int depth = readBetween('0', '9');
                if (depth == FAILED) return FAILED;
                row = row * 10 + depth;
            }
            return row;
        }

        /** Stops at a digit too many: whatever follows an order refuses it. */
        private int readNumber() {
            int number = readBetween('0', '9');
            if (number == FAILED) return FAILED;
            for (int digits = 1; digits < MOST_DIGITS && number > 0; digits++) {
                int digit = readBetween('0', '9');
                if (digit == FAILED) return number;
                number = number * 10 + digit;
            }
            return number;
        }
    }

    /** Looks for rows of cuts that can be a key. */
    static final class KeySearch {
        private static final int ALL_DEPTHS = (1 << DEPTHS) - 1;

        // For each place the set of depths that fit in all the doors.
        private final int[] fitting = new int[PINS];
        // How many rows so far end with a depth, and the same one place on.
        private final int[] ways = new int[DEPTHS];
        private final int[] waysOn = new int[DEPTHS];
        private int step;

        private void work(House house, int doors) {
            step = house.settings[STEP];
            for (int place = 0; place < PINS; place++) fitting[place] = ALL_DEPTHS;
            for (int door = 0; door < house.doorCount; door++) {
                if ((doors >> door & 1) != 0) keepFitting(house.doors[door]);
            }
        }

        private void keepFitting(Door door) {
            int first = door.first;
            int second = door.second;
            for (int place = PINS - 1; place >= 0; place--) {
                fitting[place] &= 1 << first % 10 | 1 << second % 10;
                first /= 10;
                second /= 10;
            }
        }

        private boolean fits(int place, int depth) {
            return (fitting[place] >> depth & 1) != 0;
        }

        int howMany(House house, int doors) {
            work(house, doors);
            for (int depth = 0; depth < DEPTHS; depth++) ways[depth] = fits(0, depth) ? 1 : 0;
            for (int place = 1; place < PINS; place++) countOn(place);
            int sum = 0;
            for (int depth = 0; depth < DEPTHS; depth++) sum += ways[depth];
            return sum;
        }

        private void countOn(int place) {
            for (int depth = 0; depth < DEPTHS; depth++) waysOn[depth] = fits(place, depth) ? waysBeside(depth) : 0;
            for (int depth = 0; depth < DEPTHS; depth++) ways[depth] = waysOn[depth];
        }

        private int waysBeside(int depth) {
            int last = Math.min(DEPTHS - 1, depth + step);
            int sum = 0;
            for (int left = Math.max(0, depth - step); left <= last; left++) sum += ways[left];
            return sum;
        }

        int leastJustFor(House house, int doors) {
            work(house, doors);
            int row = 0;
            while (row <= MOST_ROW) {
                int misfits = misfitsFrom(row);
                if (misfits == 0 && house.doorsOpenedBy(row) == doors) return row;
                row += Math.max(1, misfits);
            }
            return NONE;
        }

        /** How many rows from this one on begin with the same places that cannot be, 0 if the row fits. */
        private int misfitsFrom(int row) {
            int left = row / 1000;
            int place = 0;
            for (int unit = 1000; unit > 0 && place < PINS; unit /= 10) {
                int depth = row / unit % 10;
                if (Math.abs(depth - left) > step || !fits(place, depth)) return unit - row % unit;
                left = depth;
                place++;
            }
            return 0;
        }
    }

    /** Looks for ways of a walker who takes every key that lies on the way. */
    static final class WalkSearch {
        // A state of a walk is the set of rooms that were visited, and the room: both tell the keys.
        private static final int ROOM_BITS = 3, ROOM_MASK = 7, STATES = ROOMS << ROOMS;

        private final int[] openers = new int[MOST_DOORS];
        private final int[] keysIn = new int[ROOMS];
        private final int[] queue = new int[STATES];
        private final boolean[] seen = new boolean[STATES];
        private int carried, queued;

        private void work(House house) {
            carried = house.keysAt(CARRIED);
            for (int door = 0; door < house.doorCount; door++) openers[door] = house.keysOpening(door);
            for (int room = 0; room < ROOMS; room++) keysIn[room] = house.keysAt(room);
        }

        private int keysAfter(int visited) {
            int keys = carried;
            for (int room = 0; room < ROOMS; room++) {
                if ((visited >> room & 1) != 0) keys |= keysIn[room];
            }
            return keys;
        }

        int roomsInReach(House house) {
            work(house);
            int visited = 1 << house.room;
            // Each pass but the last one finds a room more.
            for (int pass = 0; pass < ROOMS; pass++) visited |= roomsBeyond(house, visited);
            return visited;
        }

        private int roomsBeyond(House house, int visited) {
            int keys = keysAfter(visited);
            int found = 0;
            for (int door = 0; door < house.doorCount; door++) {
                int sides = 1 << house.doors[door].one | 1 << house.doors[door].other;
                if ((openers[door] & keys) != 0 && (sides & visited) != 0) found |= sides;
            }
            return found;
        }

        int fewestDoors(House house, int target) {
            work(house);
            for (int state = 0; state < STATES; state++) seen[state] = false;
            queued = 0;
            enqueue(1 << house.room, house.room);
            int taken = 0;
            for (int doors = 0; doors < STATES && taken < queued; doors++) {
                int end = queued;
                while (taken < end) {
                    if ((queue[taken] & ROOM_MASK) == target) return doors;
                    enqueueBeyond(house, queue[taken]);
                    taken++;
                }
            }
            return NONE;
        }

        private void enqueueBeyond(House house, int state) {
            int visited = state >> ROOM_BITS;
            int keys = keysAfter(visited);
            for (int door = 0; door < house.doorCount; door++) {
                int room = house.doors[door].beyond(state & ROOM_MASK);
                if (room != NONE && (openers[door] & keys) != 0) enqueue(visited | 1 << room, room);
            }
        }

        private void enqueue(int visited, int room) {
            int state = visited << ROOM_BITS | room;
            if (seen[state] || queued >= STATES) return;
            seen[state] = true;
            queue[queued] = state;
            queued++;
        }
    }

    /** Looks at all orders of the plan: what is left in the box tells only which cuts are done, not how. */
    static final class PlanSearch {
        private static final int SETS = 1 << MOST_PLANNED;
        private static final int TOO_MUCH = 1000000;

        // For each cut of the plan: what melting gives back, and what the new lock weighs.
        private final int[] back = new int[MOST_PLANNED];
        private final int[] needed = new int[MOST_PLANNED];
        // For each set of cuts that are done: the box then, and of the rest of the orders
        // how many there are, which cuts can come last, and the least brass that is missing.
        private final int[] boxAfter = new int[SETS];
        private final int[] orders = new int[SETS];
        private final int[] lasts = new int[SETS];
        private final int[] missing = new int[SETS];
        private int size;

        void work(House house) {
            size = house.plan.size;
            for (int place = 0; place < size; place++) weigh(house, place);
            int all = (1 << size) - 1;
            for (int done = 0; done <= all; done++) boxAfter[done] = house.box + gainOf(done);
            orders[all] = 1;
            lasts[all] = 0;
            missing[all] = 0;
            for (int done = all - 1; done >= 0; done--) lookOn(done);
        }

        private void weigh(House house, int place) {
            int weight = house.doors[house.plan.doors[place]].weight();
            back[place] = weight - Rows.lossOf(weight, house.settings[LOSS]);
            needed[place] = Rows.lockWeight(house.plan.firsts[place], house.plan.seconds[place]);
        }

        private int gainOf(int done) {
            int gain = 0;
            for (int place = 0; place < size; place++) {
                if ((done >> place & 1) != 0) gain += back[place] - needed[place];
            }
            return gain;
        }

        /** What is missing in the box for one more cut, 0 if nothing is. */
        private int missingFor(int done, int place) {
            return Math.max(0, needed[place] - back[place] - boxAfter[done]);
        }

        /** Needs the answers for all greater sets. */
        private void lookOn(int done) {
            orders[done] = 0;
            lasts[done] = 0;
            missing[done] = TOO_MUCH;
            int all = (1 << size) - 1;
            for (int place = 0; place < size; place++) {
                int next = done | 1 << place;
                if (next == done) continue;
                int gap = missingFor(done, place);
                missing[done] = Math.min(missing[done], Math.max(gap, missing[next]));
                if (gap == 0) {
                    orders[done] += orders[next];
                    lasts[done] |= next == all ? 1 << place : lasts[next];
                }
            }
        }

        int howManyOrders() {
            return orders[0];
        }

        int leastBrass() {
            return missing[0];
        }

        int onlyLast() {
            for (int place = 0; place < size; place++) {
                if (lasts[0] == 1 << place) return place;
            }
            return NONE;
        }

        /** The cut at a place of the first order, NONE if there is none. */
        int firstOrderAt(int wanted) {
            if (wanted < 0 || wanted >= size || orders[0] == 0) return NONE;
            int done = 0;
            int chosen = NONE;
            for (int place = 0; place <= wanted; place++) {
                chosen = leastNext(done);
                if (chosen == NONE) return NONE;
                done |= 1 << chosen;
            }
            return chosen;
        }

        private int leastNext(int done) {
            for (int place = 0; place < size; place++) {
                int next = done | 1 << place;
                if (next != done && missingFor(done, place) == 0 && orders[next] > 0) return place;
            }
            return NONE;
        }
    }
}
