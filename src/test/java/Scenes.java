/** Objects to begin tests with, and what can be asked of them in one go. */
final class Scenes {
    static final String BOUNDS = "IndexOutOfBoundsException";
    static final String ARGUMENT = "IllegalArgumentException";
    static final String STATE = "IllegalStateException";

    private Scenes() {
    }

    /** A new object; "01:5" has the stations 0 and 1 hear one another at 5. */
    static BackofficeAir air(String... strengths) {
        BackofficeAir x = new BackofficeAir();
        for (String its : strengths) {
            x.setStrength(its.charAt(0) - '0', its.charAt(1) - '0', its.charAt(3) - '0');
        }
        return x;
    }

    static BackofficeAir reserving(int bound, String... strengths) {
        BackofficeAir x = air(strengths);
        x.setReserve(bound);
        return x;
    }

    static void tellAll(BackofficeAir x, int... numbers) {
        for (int number : numbers) {
            x.tell(number);
        }
    }

    /** Passes slots one by one; none of them is fine, too. */
    static void passAll(BackofficeAir x, int slots) {
        for (int i = 0; i < slots; i++) {
            x.pass(1);
        }
    }

    /** Passes slots one by one; in those told the stations 0 and 1 do not hear one another, in the others at 5. */
    static void breakSlots(BackofficeAir x, int slots, int... broken) {
        for (int slot = 1; slot <= slots; slot++) {
            x.setStrength(0, 1, 5);
            for (int one : broken) {
                if (one == slot) {
                    x.setStrength(0, 1, 0);
                }
            }
            x.pass(1);
        }
        x.setStrength(0, 1, 5);
    }

    /** The first or the second slots of the parts of 4 that are told as a sum of 2 to the power of their numbers. */
    static int[] slotsOf(int parts, int slotOfPart) {
        int[] slots = new int[4];
        for (int part = 0; part < 4; part++) {
            slots[part] = (parts >> part & 1) == 1 ? 2 * part + 1 + slotOfPart : 0;
        }
        return slots;
    }

    /** In how many slots a station sends, if it begins in the next one. */
    static int slotsOfNextSending(BackofficeAir x, int station) {
        int slots = 1;
        x.pass(1);
        while (x.sends(station) && slots < 50) {
            x.pass(1);
            slots++;
        }
        return slots;
    }

    /** How all stations stand. */
    static String standing(BackofficeAir x) {
        StringBuilder text = new StringBuilder();
        text.append("now ").append(x.now()).append(" numbers ").append(x.numbers());
        for (int s = 0; s < 6; s++) {
            int[] its = {x.sends(s) ? 1 : 0, x.waitOf(s), x.window(s), x.failures(s), x.silencedTo(s), x.frames(s),
                x.partsLeft(s), x.delivered(s), x.dropped(s), x.airtime(s), x.airtimeBySendings(s)};
            text.append('\n').append(s);
            for (int one : its) {
                text.append(' ').append(one);
            }
        }
        return text.toString();
    }
}
