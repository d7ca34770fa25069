import java.util.ArrayDeque;
import java.util.ArrayList;
import java.util.List;
import java.util.TreeSet;

/**
 * The document told a second time, in another way: nothing is kept as a sum, but every sending with all that it
 * sends slot by slot, and every silence, from which the answers are found anew.
 */
final class PlainModel {
    static final class Frame {
        final int goal;
        final TreeSet<Integer> left = new TreeSet<>();

        Frame(int goal, int parts) {
            this.goal = goal;
            for (int part = 0; part < parts; part++) {
                left.add(part);
            }
        }
    }

    static final class Sending {
        final int station;
        final int goal;
        final int begin;
        final List<String> inSlots = new ArrayList<>();
        final TreeSet<String> broken = new TreeSet<>();
        int end = -1;

        Sending(int station, int begin, Frame frame, int reserve) {
            this.station = station;
            this.goal = frame.goal;
            this.begin = begin;
            if (frame.left.size() >= reserve) {
                inSlots.add("request");
            }
            for (int part : frame.left) {
                inSlots.add("" + part);
                inSlots.add("" + part);
            }
        }

        boolean isIn(int slot) {
            return slot >= begin && (end == -1 || slot <= end);
        }

        String sentIn(int slot) {
            return inSlots.get(slot - begin);
        }

        int lastSlot() {
            return begin + inSlots.size() - 1;
        }
    }

    record Silence(int station, int from, int to) {
    }

    final int[][] strength = new int[6][6];
    final int[] itsClass = new int[6];
    final int[] window = {3, 3, 3, 3, 3, 3};
    final int[] wait = {-1, -1, -1, -1, -1, -1};
    final int[] failures = new int[6];
    final int[] delivered = new int[6];
    final int[] dropped = new int[6];
    final List<ArrayDeque<Frame>> rows = new ArrayList<>();
    final List<Sending> sendings = new ArrayList<>();
    final List<Silence> silences = new ArrayList<>();
    final ArrayDeque<Integer> numbers = new ArrayDeque<>();
    int reserve = 5;
    int now = 0;

    PlainModel() {
        for (int s = 0; s < 6; s++) {
            rows.add(new ArrayDeque<>());
        }
    }

    private static void station(int... stations) {
        for (int s : stations) {
            if (s < 0 || s > 5) {
                throw new IndexOutOfBoundsException();
            }
        }
    }

    private static void range(int value, int low, int high) {
        if (value < low || value > high) {
            throw new IllegalArgumentException();
        }
    }

    int setStrength(int station, int other, int its) {
        station(station, other);
        range(its, 0, 9);
        range(station == other ? 1 : 0, 0, 0);
        int before = strength[station][other];
        strength[station][other] = its;
        strength[other][station] = its;
        return before;
    }

    int setClass(int station, int its) {
        station(station);
        range(its, 0, 1);
        int before = itsClass[station];
        itsClass[station] = its;
        window[station] = least(station);
        return before;
    }

    int setReserve(int parts) {
        range(parts, 1, 5);
        int before = reserve;
        reserve = parts;
        return before;
    }

    int tell(int number) {
        range(number, 0, 1000);
        if (numbers.size() == 200) {
            throw new IllegalStateException();
        }
        numbers.addLast(number);
        return numbers.size();
    }

    int frame(int station, int goal, int parts) {
        station(station, goal);
        range(parts, 1, 4);
        range(station == goal ? 1 : 0, 0, 0);
        if (rows.get(station).size() == 5) {
            throw new IllegalStateException();
        }
        rows.get(station).addLast(new Frame(goal, parts));
        return rows.get(station).size();
    }

    int pass(int slots) {
        range(slots, 1, 50);
        int ended = 0;
        for (int i = 0; i < slots; i++) {
            now++;
            for (int s = 0; s < 6; s++) {
                listen(s);
            }
            List<Sending> on = onIn(now);
            for (Sending sending : on) {
                if (breaks(sending, on)) {
                    sending.broken.add(sending.sentIn(now));
                }
            }
            on.sort((a, b) -> a.station - b.station);
            for (Sending sending : on) {
                ended += close(sending);
            }
        }
        return ended;
    }

    private int least(int s) {
        return itsClass[s] == 1 ? 7 : 3;
    }

    private List<Sending> onIn(int slot) {
        List<Sending> on = new ArrayList<>();
        for (Sending sending : sendings) {
            if (sending.isIn(slot)) {
                on.add(sending);
            }
        }
        return on;
    }

    private void listen(int s) {
        if (sends(s) || rows.get(s).isEmpty()) {
            return;
        }
        if (wait[s] == -1) {
            int number = numbers.isEmpty() ? 0 : numbers.removeFirst();
            wait[s] = number % (window[s] + 1);
        }
        for (Silence silence : silences) {
            if (silence.station == s && now >= silence.from && now <= silence.to) {
                return;
            }
        }
        for (Sending sending : onIn(now - 1)) {
            if (sending.station != s && strength[s][sending.station] != 0) {
                return;
            }
        }
        if (wait[s] == 0) {
            sendings.add(new Sending(s, now, rows.get(s).peekFirst(), reserve));
            wait[s] = -1;
        } else {
            wait[s] -= 1;
        }
    }

    private boolean breaks(Sending sending, List<Sending> on) {
        int[] atGoal = strength[sending.goal];
        boolean broken = atGoal[sending.station] == 0;
        for (Sending other : on) {
            if (other.station == sending.goal) {
                broken = true;
            } else if (other != sending && atGoal[other.station] != 0) {
                broken |= atGoal[other.station] > atGoal[sending.station] - 3;
            }
        }
        return broken;
    }

    private int close(Sending sending) {
        int s = sending.station;
        boolean request = sending.sentIn(now).equals("request");
        if (request && !sending.broken.contains("request")) {
            for (int other = 0; other < 6; other++) {
                if (other != s && other != sending.goal && strength[sending.goal][other] != 0) {
                    silences.add(new Silence(other, now + 1, sending.lastSlot()));
                }
            }
            return 0;
        }
        if (!request && now != sending.lastSlot()) {
            return 0;
        }
        sending.end = now;
        Frame first = rows.get(s).peekFirst();
        int before = first.left.size();
        if (!request) {
            first.left.removeIf(part -> !sending.broken.contains("" + part));
        }
        int arrived = before - first.left.size();
        delivered[s] += arrived;
        failures[s] = arrived > 0 ? 0 : failures[s] + 1;
        boolean drop = failures[s] == 5;
        if (drop) {
            dropped[s]++;
            failures[s] = 0;
        }
        if (drop || first.left.isEmpty()) {
            rows.get(s).removeFirst();
        }
        window[s] = failures[s] == 0 ? least(s) : Math.min(31, window[s] * 2 + 1);
        return 1;
    }

    int now() {
        return now;
    }

    boolean sends(int station) {
        station(station);
        for (Sending sending : sendings) {
            if (sending.station == station && sending.end == -1) {
                return true;
            }
        }
        return false;
    }

    int waitOf(int station) {
        station(station);
        return wait[station];
    }

    int window(int station) {
        station(station);
        return window[station];
    }

    int failures(int station) {
        station(station);
        return failures[station];
    }

    int silencedTo(int station) {
        station(station);
        int last = 0;
        for (Silence silence : silences) {
            last = silence.station == station ? Math.max(last, silence.to) : last;
        }
        return last;
    }

    int frames(int station) {
        station(station);
        return rows.get(station).size();
    }

    int partsLeft(int station) {
        station(station);
        int sum = 0;
        if (!rows.get(station).isEmpty()) {
            for (int part : rows.get(station).peekFirst().left) {
                sum += new int[] {1, 2, 4, 8}[part];
            }
        }
        return sum;
    }

    int delivered(int station) {
        station(station);
        return delivered[station];
    }

    int dropped(int station) {
        station(station);
        return dropped[station];
    }

    int airtime(int station) {
        station(station);
        int slots = 0;
        for (Sending sending : sendings) {
            for (int slot = sending.begin; slot <= now && sending.station == station; slot++) {
                slots += sending.isIn(slot) ? 1 : 0;
            }
        }
        return slots;
    }

    int numbers() {
        return numbers.size();
    }
}
