/** The promises 9 to 20: how stations stand; and what is not promised. */
final class AnswerSentences {
    private static final String AS_TOLD = "Throws `IndexOutOfBoundsException` as told";

    private final Sentences of;

    AnswerSentences(Sentences of) {
        this.of = of;
    }

    void all() {
        sends();
        waitOf();
        window();
        failures();
        silencedTo();
        frames();
        partsLeft();
        delivered();
        dropped();
        airtime();
        airtimeBySendings();
        numbers();
        notPromised();
    }

    private void sends() {
        of.in("Promise 9: sends");
        of.says("Returns whether a sending of a station has begun and has not ended.");
        BackofficeAir x = Scenes.reserving(2, "01:5");
        x.tell(1);
        x.frame(0, 1, 2);
        of.due("a frame does not begin it", false, () -> x.sends(0));
        x.pass(1);
        of.due("nor does a wait", false, () -> x.sends(0));
        for (int i = 1; i <= 4; i++) {
            x.pass(1);
            of.due("it has begun", true, () -> x.sends(0));
            of.due("its goal does not send", false, () -> x.sends(1));
        }
        x.pass(1);
        of.due("it has ended", false, () -> x.sends(0));
        x.frame(0, 2, 2);
        x.pass(1);
        of.due("one broken request has begun and ended", false, () -> x.sends(0));
        of.says(AS_TOLD);
        of.due("station -1", Scenes.BOUNDS, () -> x.sends(-1));
        of.due("station 6", Scenes.BOUNDS, () -> x.sends(6));
    }

    private void waitOf() {
        of.in("Promise 10: waitOf");
        of.says("Returns the wait of a station; NONE if it has none.");
        BackofficeAir x = Scenes.air("01:5");
        Scenes.tellAll(x, 2, 3);
        of.due("none without a frame", -1, () -> x.waitOf(0));
        x.frame(0, 1, 1);
        x.frame(0, 1, 1);
        of.due("none before a slot", -1, () -> x.waitOf(0));
        int[] waits = {1, 0, -1, -1, 2, 1, 0, -1, -1, -1};
        for (int want : waits) {
            x.pass(1);
            of.due("in the slot " + x.now(), want, () -> x.waitOf(0));
        }
        of.due("of another", -1, () -> x.waitOf(1));
        of.says(AS_TOLD);
        of.due("station -1", Scenes.BOUNDS, () -> x.waitOf(-1));
        of.due("station 6", Scenes.BOUNDS, () -> x.waitOf(6));
    }

    private void window() {
        of.in("Promise 11: window");
        of.says("Returns the window of a station.");
        BackofficeAir x = Scenes.reserving(1);
        of.due("at first", 3, () -> x.window(0));
        x.frame(0, 1, 1);
        for (int want : new int[] {7, 15, 31, 31, 3}) {
            x.pass(1);
            of.due("in the slot " + x.now(), want, () -> x.window(0));
        }
        of.due("of another", 3, () -> x.window(1));
        of.says(AS_TOLD);
        of.due("station -1", Scenes.BOUNDS, () -> x.window(-1));
        of.due("station 6", Scenes.BOUNDS, () -> x.window(6));
    }

    private void failures() {
        of.in("Promise 12: failures");
        of.says("Returns the failures of a station.");
        BackofficeAir x = Scenes.reserving(1);
        x.frame(0, 1, 1);
        for (int want : new int[] {1, 2, 3, 4, 0}) {
            x.pass(1);
            of.due("in the slot " + x.now(), want, () -> x.failures(0));
        }
        of.due("of another", 0, () -> x.failures(1));
        of.says(AS_TOLD);
        of.due("station -1", Scenes.BOUNDS, () -> x.failures(-1));
        of.due("station 6", Scenes.BOUNDS, () -> x.failures(6));
    }

    private void silencedTo() {
        of.in("Promise 13: silencedTo");
        of.says("Returns the last slot in which a station is silenced; 0 if it never was.");
        BackofficeAir x = Scenes.reserving(1, "01:5", "12:5");
        x.frame(0, 1, 1);
        of.due("not before the request", 0, () -> x.silencedTo(2));
        for (int slot = 1; slot <= 20; slot++) {
            x.pass(1);
            of.due("in the slot " + slot + ", and when it is over", 3, () -> x.silencedTo(2));
        }
        x.frame(0, 1, 4);
        x.pass(1);
        of.due("by the next request", 29, () -> x.silencedTo(2));
        of.due("0 never was: the sender", 0, () -> x.silencedTo(0));
        of.due("1 never was: its goal", 0, () -> x.silencedTo(1));
        of.due("3 never was", 0, () -> x.silencedTo(3));
        of.says(AS_TOLD);
        of.due("station -1", Scenes.BOUNDS, () -> x.silencedTo(-1));
        of.due("station 6", Scenes.BOUNDS, () -> x.silencedTo(6));
    }

    private void frames() {
        of.in("Promise 14: frames");
        of.says("Returns how many frames a station has.");
        BackofficeAir x = Scenes.air("01:5");
        of.due("none", 0, () -> x.frames(0));
        for (int i = 1; i <= 5; i++) {
            int count = i;
            x.frame(0, 1, 1);
            of.due("after a frame", count, () -> x.frames(0));
        }
        for (int i = 4; i >= 0; i--) {
            int count = i;
            x.pass(1);
            of.due("the one that is sent counts", count + 1, () -> x.frames(0));
            x.pass(1);
            of.due("the one that is done does not", count, () -> x.frames(0));
        }
        x.pass(5);
        of.due("none again", 0, () -> x.frames(0));
        of.due("of another", 0, () -> x.frames(1));
        of.says(AS_TOLD);
        of.due("station -1", Scenes.BOUNDS, () -> x.frames(-1));
        of.due("station 6", Scenes.BOUNDS, () -> x.frames(6));
    }

    private void partsLeft() {
        of.in("Promise 15: partsLeft");
        of.says("Returns the parts that are left of the first frame of a station, as the sum of 2 to the power of their "
            + "numbers; 0 without frames.");
        BackofficeAir x = Scenes.air("01:5");
        of.due("without frames", 0, () -> x.partsLeft(0));
        x.frame(0, 1, 4);
        x.frame(0, 1, 2);
        of.due("the parts 0 to 3", 15, () -> x.partsLeft(0));
        Scenes.breakSlots(x, 8, 3, 7);
        of.due("the parts 1 and 3", 10, () -> x.partsLeft(0));
        Scenes.breakSlots(x, 4, 4);
        of.due("the part 3", 8, () -> x.partsLeft(0));
        x.pass(2);
        of.due("of the next frame", 3, () -> x.partsLeft(0));
        x.pass(4);
        of.due("without frames again", 0, () -> x.partsLeft(0));
        x.frame(0, 2, 1);
        of.due("the part 0", 1, () -> x.partsLeft(0));
        x.pass(10);
        of.due("without frames after a drop", 0, () -> x.partsLeft(0));
        of.says(AS_TOLD);
        of.due("station -1", Scenes.BOUNDS, () -> x.partsLeft(-1));
        of.due("station 6", Scenes.BOUNDS, () -> x.partsLeft(6));
    }

    private void delivered() {
        of.in("Promise 16: delivered");
        of.says("Returns how many parts of frames of a station were delivered.");
        BackofficeAir x = Scenes.air("01:5");
        of.due("none at first", 0, () -> x.delivered(0));
        x.frame(0, 1, 4);
        x.frame(0, 1, 3);
        Scenes.breakSlots(x, 8, 1);
        of.due("three of the first", 3, () -> x.delivered(0));
        x.pass(2);
        of.due("and the fourth", 4, () -> x.delivered(0));
        Scenes.breakSlots(x, 6, 1, 3);
        of.due("one of the second", 5, () -> x.delivered(0));
        x.setStrength(0, 1, 0);
        x.pass(20);
        of.due("that is dropped then", 5, () -> x.delivered(0));
        of.due("dropped", 1, () -> x.dropped(0));
        of.due("not those that came to it", 0, () -> x.delivered(1));
        of.says(AS_TOLD);
        of.due("station -1", Scenes.BOUNDS, () -> x.delivered(-1));
        of.due("station 6", Scenes.BOUNDS, () -> x.delivered(6));
    }

    private void dropped() {
        of.in("Promise 17: dropped");
        of.says("Returns how many frames of a station were dropped.");
        BackofficeAir x = Scenes.reserving(1);
        for (int i = 0; i < 5; i++) {
            x.frame(0, 1, 4);
        }
        for (int i = 0; i <= 25; i++) {
            int slot = i;
            of.due("after " + slot + " failures", slot / 5, () -> x.dropped(0));
            x.pass(1);
        }
        x.setStrength(0, 1, 5);
        x.frame(0, 1, 1);
        x.pass(3);
        of.due("one that is done is not dropped", 5, () -> x.dropped(0));
        of.due("of another", 0, () -> x.dropped(1));
        of.says(AS_TOLD);
        of.due("station -1", Scenes.BOUNDS, () -> x.dropped(-1));
        of.due("station 6", Scenes.BOUNDS, () -> x.dropped(6));
    }

    /** 0 waits 1 slot, sends 5, then fails in 1, 1, 1, 1 and 1, and is done then. */
    private static final int[] SLOTS_SENT = {0, 0, 1, 2, 3, 4, 5, 6, 7, 8, 9, 10, 10, 10};

    private void airtime() {
        of.in("Promise 18: airtime");
        of.says("Returns in how many slots a station sent.");
        BackofficeAir x = sender();
        for (int want : SLOTS_SENT) {
            of.due("up to the slot " + x.now(), want, () -> x.airtime(0));
            x.pass(1);
        }
        of.due("of its goal", 0, () -> x.airtime(1));
        of.says(AS_TOLD);
        of.due("station -1", Scenes.BOUNDS, () -> x.airtime(-1));
        of.due("station 6", Scenes.BOUNDS, () -> x.airtime(6));
    }

    private static BackofficeAir sender() {
        BackofficeAir x = Scenes.reserving(2, "01:5");
        x.tell(1);
        x.frame(0, 1, 2);
        x.frame(0, 2, 2);
        return x;
    }

    private void airtimeBySendings() {
        of.in("Promise 19: airtimeBySendings");
        of.says("Returns the same, found from when its sendings began and ended.");
        BackofficeAir x = sender();
        for (int want : SLOTS_SENT) {
            of.due("up to the slot " + x.now(), want, () -> x.airtimeBySendings(0));
            of.due("the same", want, () -> x.airtime(0));
            x.pass(1);
        }
        of.due("of its goal", 0, () -> x.airtimeBySendings(1));
        of.says(AS_TOLD);
        of.due("station -1", Scenes.BOUNDS, () -> x.airtimeBySendings(-1));
        of.due("station 6", Scenes.BOUNDS, () -> x.airtimeBySendings(6));
    }

    private void numbers() {
        of.in("Promise 20: numbers");
        of.says("Returns how many numbers are left.");
        BackofficeAir x = new BackofficeAir();
        of.due("none at first", 0, x::numbers);
        for (int i = 1; i <= 200; i++) {
            int left = i;
            x.tell(0);
            of.due("told", left, x::numbers);
        }
        Checks.answerOf(() -> x.tell(0));
        of.due("not more than 200", 200, x::numbers);
        x.frame(0, 1, 1);
        x.frame(1, 2, 1);
        x.pass(1);
        of.due("two are used up", 198, x::numbers);
        BackofficeAir y = new BackofficeAir();
        y.frame(0, 1, 1);
        y.pass(10);
        of.due("not less than none", 0, y::numbers);
    }

    private void notPromised() {
        of.in("Not promised");
        of.tells("How the state is held inside the object is free, as are the speed of each call, the text of toString "
            + "and the behaviour of equals and hashCode.");
        of.tells("Use of one object from several threads at once is not promised to be safe.");
        of.tells("Nothing is promised beyond the answers and state changes described above, and nothing about an object "
            + "after its 512th call.");
    }
}
