import java.util.Random;

/** Long runs of calls, drawn by told seeds, that the class and the plain model must answer alike. */
public final class ModelRunsTest {
    private static final int RUNS = 1500;
    private static final int CALLS = 512;

    private final Checks checks;
    private final Random random;
    private final BackofficeAir air = new BackofficeAir();
    private final PlainModel model = new PlainModel();
    private final StringBuilder told = new StringBuilder();
    private final int wrongInputs;
    private final int mostSlots;
    private final int mostStrength;
    private final int mostNumber;
    private final int stations;
    private final boolean tellsOften;
    private int calls = 0;

    private ModelRunsTest(Checks checks, int seed) {
        this.checks = checks;
        random = new Random(seed);
        wrongInputs = seed % 3 == 0 ? 8 : 40;
        mostSlots = new int[] {1, 3, 8, 50}[random.nextInt(4)];
        mostStrength = new int[] {9, 3, 9, 9}[random.nextInt(4)];
        mostNumber = new int[] {3, 12, 40, 1000}[random.nextInt(4)];
        stations = 2 + random.nextInt(5);
        tellsOften = random.nextInt(8) == 0;
    }

    public static void main(String[] args) {
        Checks checks = new Checks();
        for (int seed = 0; seed < RUNS; seed++) {
            new ModelRunsTest(checks, seed).run();
        }
        checks.close("ModelRunsTest");
    }

    private void run() {
        for (int i = random.nextInt(15); i > 0; i--) {
            call(0);
        }
        if (random.nextBoolean()) {
            call(2);
        }
        while (calls < CALLS) {
            int kind = random.nextInt(100);
            if (tellsOften && random.nextInt(3) > 0) {
                call(3);
            } else if (kind < 5) {
                call(0);
            } else if (kind < 7) {
                call(1);
            } else if (kind < 9) {
                call(2);
            } else if (kind < 25) {
                call(3);
            } else if (kind < 45) {
                call(4);
            } else if (kind < 65) {
                call(5);
            } else {
                call(6 + random.nextInt(13));
            }
        }
    }

    /** Mostly a value from low to high, now and then one beside them or far from them. */
    private int value(int low, int high) {
        if (random.nextInt(wrongInputs) == 0) {
            int[] others = {low - 1, high + 1, low, high, Integer.MIN_VALUE, Integer.MAX_VALUE, 0, 6, 1 << 20};
            return others[random.nextInt(others.length)];
        }
        return low + random.nextInt(high - low + 1);
    }

    private int station() {
        return value(0, stations - 1);
    }

    private void call(int kind) {
        int a = station();
        int b = station();
        switch (kind) {
            case 0 -> setStrength(a, b, value(0, mostStrength));
            case 1 -> setClass(a, value(0, 1));
            case 2 -> setReserve(value(1, 5));
            case 3 -> tell(value(0, mostNumber));
            case 4 -> frame(a, b, value(1, 4));
            case 5 -> pass(value(1, mostSlots));
            default -> ask(kind, a);
        }
    }

    private void setStrength(int a, int b, int strength) {
        due("setStrength(" + a + ", " + b + ", " + strength + ")",
            Checks.answerOf(() -> model.setStrength(a, b, strength)),
            Checks.answerOf(() -> air.setStrength(a, b, strength)));
    }

    private void setClass(int a, int its) {
        due("setClass(" + a + ", " + its + ")",
            Checks.answerOf(() -> model.setClass(a, its)), Checks.answerOf(() -> air.setClass(a, its)));
    }

    private void setReserve(int parts) {
        due("setReserve(" + parts + ")",
            Checks.answerOf(() -> model.setReserve(parts)), Checks.answerOf(() -> air.setReserve(parts)));
    }

    private void tell(int number) {
        due("tell(" + number + ")",
            Checks.answerOf(() -> model.tell(number)), Checks.answerOf(() -> air.tell(number)));
    }

    private void frame(int a, int b, int parts) {
        due("frame(" + a + ", " + b + ", " + parts + ")",
            Checks.answerOf(() -> model.frame(a, b, parts)), Checks.answerOf(() -> air.frame(a, b, parts)));
    }

    private void pass(int slots) {
        due("pass(" + slots + ")",
            Checks.answerOf(() -> model.pass(slots)), Checks.answerOf(() -> air.pass(slots)));
    }

    private void ask(int kind, int a) {
        switch (kind) {
            case 6 -> due("now()", Checks.answerOf(model::now), Checks.answerOf(air::now));
            case 7 -> due("sends " + a, Checks.answerOf(() -> model.sends(a)), Checks.answerOf(() -> air.sends(a)));
            case 8 -> due("waitOf " + a, Checks.answerOf(() -> model.waitOf(a)), Checks.answerOf(() -> air.waitOf(a)));
            case 9 -> due("window " + a, Checks.answerOf(() -> model.window(a)), Checks.answerOf(() -> air.window(a)));
            case 10 -> due("failures " + a,
                Checks.answerOf(() -> model.failures(a)), Checks.answerOf(() -> air.failures(a)));
            case 11 -> due("silencedTo " + a,
                Checks.answerOf(() -> model.silencedTo(a)), Checks.answerOf(() -> air.silencedTo(a)));
            case 12 -> due("frames " + a, Checks.answerOf(() -> model.frames(a)), Checks.answerOf(() -> air.frames(a)));
            case 13 -> due("partsLeft " + a,
                Checks.answerOf(() -> model.partsLeft(a)), Checks.answerOf(() -> air.partsLeft(a)));
            case 14 -> due("delivered " + a,
                Checks.answerOf(() -> model.delivered(a)), Checks.answerOf(() -> air.delivered(a)));
            case 15 -> due("dropped " + a,
                Checks.answerOf(() -> model.dropped(a)), Checks.answerOf(() -> air.dropped(a)));
            case 16 -> due("airtime " + a,
                Checks.answerOf(() -> model.airtime(a)), Checks.answerOf(() -> air.airtime(a)));
            case 17 -> due("airtimeBySendings " + a,
                Checks.answerOf(() -> model.airtime(a)), Checks.answerOf(() -> air.airtimeBySendings(a)));
            default -> due("numbers()", Checks.answerOf(model::numbers), Checks.answerOf(air::numbers));
        }
    }

    private void due(String call, String want, String got) {
        calls++;
        told.append(call).append(" -> ").append(got).append('\n');
        checks.due(want.equals(got) ? call : told + "the last call", want, () -> got);
        if (!want.equals(got)) {
            checks.close("ModelRunsTest");
        }
    }
}
