/** Stations that share the air: they wait, send, collide, reserve and send again, slot by slot. */
public final class BackofficeAir {
    public static final int NONE = -1;

    private static final int STATIONS = 6;
    private static final int STRONGEST = 9;
    private static final int HIGHEST_CLASS = 1;
    private static final int HIGHEST_RESERVE = 5;
    private static final int HIGHEST_NUMBER = 1000;
    private static final int MOST_NUMBERS = 200;
    private static final int MOST_FRAMES = 5;
    private static final int MOST_PARTS = 4;
    private static final int MOST_SLOTS = 50;
    private static final int SLOTS_OF_PART = 2;
    private static final int LEAST_WINDOW_OF_CLASS_0 = 3;
    private static final int LEAST_WINDOW_OF_CLASS_1 = 7;
    private static final int GREATEST_WINDOW = 31;
    private static final int FAILURES_OF_A_DROP = 5;
    private static final int LEAD_OF_CAPTURE = 3;

    private final Station[] stations = new Station[STATIONS];
    private final Strengths strengths = new Strengths();
    private final Told told = new Told();
    private int reserve = HIGHEST_RESERVE;
    private int slot = 0;

    public BackofficeAir() {
        for (int s = 0; s < stations.length; s++) {
            stations[s] = new Station();
        }
    }

    // ---- settings

    public int setStrength(int station, int other, int strength)
            throws IndexOutOfBoundsException, IllegalArgumentException {
        stationAt(station);
        stationAt(other);
        if (strength < 0 || strength > STRONGEST) {
            throw new IllegalArgumentException("strength is out of range");
        }
        if (station == other) {
            throw new IllegalArgumentException("a station has no strength to itself");
        }
        int before = strengths.between(station, other);
        strengths.put(station, other, strength);
        return before;
    }

    public int setClass(int station, int its) throws IndexOutOfBoundsException, IllegalArgumentException {
        Station changed = stationAt(station);
        if (its < 0 || its > HIGHEST_CLASS) {
            throw new IllegalArgumentException("no such class");
        }
        int before = changed.itsClass;
        changed.itsClass = its;
        changed.window = leastWindow(its);
        return before;
    }

    public int setReserve(int parts) throws IllegalArgumentException {
        if (parts < 1 || parts > HIGHEST_RESERVE) {
            throw new IllegalArgumentException("parts is out of range");
        }
        int before = reserve;
        reserve = parts;
        return before;
    }

    public int tell(int number) throws IllegalArgumentException, IllegalStateException {
        if (number < 0 || number > HIGHEST_NUMBER) {
            throw new IllegalArgumentException("number is out of range");
        }
        if (told.left >= MOST_NUMBERS) {
            throw new IllegalStateException("200 numbers are left");
        }
        told.add(number);
        return told.left;
    }

    // ---- frames and slots

    public int frame(int station, int goal, int parts)
            throws IndexOutOfBoundsException, IllegalArgumentException, IllegalStateException {
        Row row = stationAt(station).row;
        stationAt(goal);
        if (parts < 1 || parts > MOST_PARTS) {
            throw new IllegalArgumentException("parts is out of range");
        }
        if (station == goal) {
            throw new IllegalArgumentException("the goal is another station");
        }
        if (row.count >= MOST_FRAMES) {
            throw new IllegalStateException("the station has 5 frames");
        }
        row.add(goal, parts);
        return row.count;
    }

    public int pass(int slots) throws IllegalArgumentException {
        if (slots < 1 || slots > MOST_SLOTS) {
            throw new IllegalArgumentException("slots is out of range");
        }
        int ended = 0;
        for (int i = 0; i < slots; i++) {
            ended += passOneSlot();
        }
        return ended;
    }

    public int now() {
        return slot;
    }

    // ---- how stations stand

    public boolean sends(int station) throws IndexOutOfBoundsException {
        return stationAt(station).sending.on;
    }

    public int waitOf(int station) throws IndexOutOfBoundsException {
        return stationAt(station).wait;
    }

    public int window(int station) throws IndexOutOfBoundsException {
        return stationAt(station).window;
    }

    public int failures(int station) throws IndexOutOfBoundsException {
        return stationAt(station).failures;
    }

    public int silencedTo(int station) throws IndexOutOfBoundsException {
        return stationAt(station).silencedTo;
    }

    public int frames(int station) throws IndexOutOfBoundsException {
        return stationAt(station).row.count;
    }

    public int partsLeft(int station) throws IndexOutOfBoundsException {
        return stationAt(station).row.partsOfFirst();
    }

    public int delivered(int station) throws IndexOutOfBoundsException {
        return stationAt(station).delivered;
    }

    public int dropped(int station) throws IndexOutOfBoundsException {
        return stationAt(station).dropped;
    }

    public int airtime(int station) throws IndexOutOfBoundsException {
        return stationAt(station).airtime;
    }

    public int airtimeBySendings(int station) throws IndexOutOfBoundsException {
        Station its = stationAt(station);
        return its.slotsOfEnded + (its.sending.on ? its.sending.slotsUpTo(slot) : 0);
    }

    public int numbers() {
        return told.left;
    }

    // ---- inside

    private static boolean isStation(int station) {
        return station >= 0 && station < STATIONS;
    }

    private static int leastWindow(int itsClass) {
        return itsClass == 0 ? LEAST_WINDOW_OF_CLASS_0 : LEAST_WINDOW_OF_CLASS_1;
    }

    private Station stationAt(int station) throws IndexOutOfBoundsException {
        Station its = station >= 0 && station < stations.length ? stations[station] : null;
        if (its == null) {
            throw new IndexOutOfBoundsException("no such station");
        }
        return its;
    }

    /** Lets one slot pass, and answers how many sendings end in it. */
    private int passOneSlot() {
        slot++;
        for (int s = 0; s < STATIONS; s++) {
            waitOrBegin(s);
        }
        // All of them are looked at before the first sending ends: whoever ends in this slot still disturbs in it.
        for (int s = 0; s < STATIONS; s++) {
            sendInSlot(s);
        }
        int ended = 0;
        for (int s = 0; s < STATIONS; s++) {
            if (endsAfterSlot(s)) {
                ended++;
            }
        }
        return ended;
    }

    private void waitOrBegin(int station) {
        Station its = stationAt(station);
        if (its.sending.on || its.row.count == 0) {
            return;
        }
        // The number is used up even by a station that is silenced or hears somebody.
        if (its.wait == NONE) {
            its.wait = restBy(told.next(), its.window + 1);
        }
        if (slot <= its.silencedTo || heardInSlotBefore(station)) {
            return;
        }
        if (its.wait > 0) {
            its.wait--;
        } else {
            its.begin(slot, reserve);
        }
    }

    private static int restBy(int number, int divisor) {
        return divisor > 0 ? number % divisor : 0;
    }

    private boolean heardInSlotBefore(int station) {
        for (int other = 0; other < STATIONS; other++) {
            if (strengths.between(station, other) > 0 && stationAt(other).lastSlotSent == slot - 1) {
                return true;
            }
        }
        return false;
    }

    private void sendInSlot(int station) {
        Station its = stationAt(station);
        if (!its.sending.on) {
            return;
        }
        its.airtime++;
        its.lastSlotSent = slot;
        if (isBrokenAt(its.row.goalOfFirst(), station)) {
            its.sending.breakIn(slot);
        }
    }

    private boolean isBrokenAt(int goal, int sender) {
        int own = strengths.between(goal, sender);
        if (own == 0 || stationAt(goal).sending.on) {
            return true;
        }
        for (int other = 0; other < STATIONS; other++) {
            int theirs = strengths.between(goal, other);
            boolean heard = other != sender && theirs > 0 && stationAt(other).sending.on;
            if (heard && theirs > own - LEAD_OF_CAPTURE) {
                return true;
            }
        }
        return false;
    }

    private boolean endsAfterSlot(int station) {
        Station its = stationAt(station);
        if (!its.sending.on) {
            return false;
        }
        if (its.sending.isRequest(slot) && !its.sending.requestBroken) {
            silenceAround(its.row.goalOfFirst(), station, its.sending.lastSlot);
            return false;
        }
        if (its.sending.isRequest(slot) || slot >= its.sending.lastSlot) {
            its.end(slot);
            return true;
        }
        return false;
    }

    private void silenceAround(int goal, int sender, int lastSlot) {
        for (int other = 0; other < STATIONS; other++) {
            if (other != sender && strengths.between(goal, other) > 0) {
                Station its = stationAt(other);
                its.silencedTo = Math.max(its.silencedTo, lastSlot);
            }
        }
    }

    /** The strength between every two stations; 0 from a station to itself, for nobody hears itself. */
    private static final class Strengths {
        private final int[] all = new int[STATIONS * STATIONS];

        int between(int one, int other) {
            int place = placeOf(one, other);
            return place >= 0 && place < all.length ? all[place] : 0;
        }

        void put(int one, int other, int strength) {
            int place = placeOf(one, other);
            int mirrored = placeOf(other, one);
            if (place >= 0 && place < all.length && mirrored >= 0 && mirrored < all.length) {
                all[place] = strength;
                all[mirrored] = strength;
            }
        }

        private static int placeOf(int one, int other) {
            return isStation(one) && isStation(other) ? one * STATIONS + other : NONE;
        }
    }

    /** The numbers that were told and are left, in a ring. */
    private static final class Told {
        private final int[] ring = new int[MOST_NUMBERS];
        private int first = 0;
        private int left = 0;

        void add(int number) {
            int place = first + left;
            if (place >= ring.length) {
                place -= ring.length;
            }
            if (left < ring.length && place >= 0 && place < ring.length) {
                ring[place] = number;
                left++;
            }
        }

        int next() {
            if (left <= 0 || first < 0 || first >= ring.length) {
                return 0;
            }
            int number = ring[first];
            first = first + 1 < ring.length ? first + 1 : 0;
            left--;
            return number;
        }
    }

    /** The frames of one station; parts are held as sums of 2 to the power of their numbers. */
    private static final class Row {
        private final int[] goals = new int[MOST_FRAMES];
        private final int[] parts = new int[MOST_FRAMES];
        private int count = 0;

        void add(int goal, int howMany) {
            if (count >= 0 && count < goals.length && count < parts.length) {
                goals[count] = goal;
                parts[count] = (1 << howMany) - 1;
                count++;
            }
        }

        int goalOfFirst() {
            return count > 0 && goals.length > 0 ? goals[0] : NONE;
        }

        int partsOfFirst() {
            return count > 0 && parts.length > 0 ? parts[0] : 0;
        }

        void takeFromFirst(int taken) {
            if (count > 0 && parts.length > 0) {
                parts[0] &= ~taken;
            }
        }

        void removeFirst() {
            for (int i = 1; i < count && i < goals.length && i < parts.length; i++) {
                goals[i - 1] = goals[i];
                parts[i - 1] = parts[i];
            }
            count = Math.max(count - 1, 0);
        }
    }

    /** The sending of one station that is on, or was the last one. */
    private static final class Sending {
        private boolean on = false;
        private int firstSlot = 0;
        private int lastSlot = 0;
        private boolean hasRequest = false;
        private boolean requestBroken = false;
        private int parts = 0;
        private int brokenParts = 0;

        void begin(int slot, int itsParts, boolean withRequest) {
            on = true;
            firstSlot = slot;
            hasRequest = withRequest;
            requestBroken = false;
            parts = itsParts;
            brokenParts = 0;
            lastSlot = firstSlotOfParts() + SLOTS_OF_PART * Integer.bitCount(itsParts) - 1;
        }

        int slotsUpTo(int slot) {
            return slot - firstSlot + 1;
        }

        boolean isRequest(int slot) {
            return hasRequest && slot == firstSlot;
        }

        void breakIn(int slot) {
            if (isRequest(slot)) {
                requestBroken = true;
            } else {
                brokenParts |= partIn(slot);
            }
        }

        int arrivedParts() {
            return requestBroken ? 0 : parts & ~brokenParts;
        }

        private int firstSlotOfParts() {
            return hasRequest ? firstSlot + 1 : firstSlot;
        }

        /** The part that is sent in a slot, as 2 to the power of its number. */
        private int partIn(int slot) {
            int ahead = (slot - firstSlotOfParts()) / SLOTS_OF_PART;
            int rest = parts;
            for (int i = 0; i < ahead && i < MOST_PARTS; i++) {
                rest &= rest - 1;
            }
            return rest & -rest;
        }
    }

    private static final class Station {
        private final Row row = new Row();
        private final Sending sending = new Sending();
        private int itsClass = 0;
        private int window = LEAST_WINDOW_OF_CLASS_0;
        private int wait = NONE;
        private int failures = 0;
        private int silencedTo = 0;
        private int delivered = 0;
        private int dropped = 0;
        private int airtime = 0;
        private int slotsOfEnded = 0;
        private int lastSlotSent = NONE;

        void begin(int slot, int reserve) {
            int parts = row.partsOfFirst();
            wait = NONE;
            sending.begin(slot, parts, Integer.bitCount(parts) >= reserve);
        }

        void end(int slot) {
            sending.on = false;
            slotsOfEnded += sending.slotsUpTo(slot);
            int arrived = sending.arrivedParts();
            if (arrived == 0) {
                countFailure();
            } else {
                countSuccess(arrived);
            }
        }

        private void countSuccess(int arrived) {
            delivered += Integer.bitCount(arrived);
            row.takeFromFirst(arrived);
            startAfresh();
            if (row.partsOfFirst() == 0) {
                row.removeFirst();
            }
        }

        private void countFailure() {
            failures++;
            if (failures < FAILURES_OF_A_DROP) {
                window = Math.min(2 * window + 1, GREATEST_WINDOW);
                return;
            }
            dropped++;
            row.removeFirst();
            startAfresh();
        }

        private void startAfresh() {
            window = leastWindow(itsClass);
            failures = 0;
        }
    }
}
