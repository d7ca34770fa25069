/** 'What it is', and of 'Terms' the stations, frames, numbers and what holds for all calls. */
final class StationSentences {
    private static final int[] NO_STATIONS = {-1, 6, 7, Integer.MIN_VALUE, Integer.MAX_VALUE};

    private final Sentences of;

    StationSentences(Sentences of) {
        this.of = of;
    }

    void all() {
        of.in("What it is");
        of.tells("Backoffice Air, a simulator of shared radio access: stations that hear one another at some strength or "
            + "not, carrier sense, waits by told numbers that freeze and double, collisions and capture, reservations "
            + "that silence others for a span, and frames put together of parts with partial acknowledgements.");
        calls512();
        of.in("Terms");
        of.tells("The calls set strengths and classes, tell numbers and frames, let slots pass, and ask how stations "
            + "stand.");
        sixStations();
        strengths();
        classes();
        windowWaitAndFailures();
        frames();
        sendings();
        numbersInTheirOrder();
        exceptionsInTheirOrder();
        thrownCallsChangeNothing();
        noSuchStation();
        constants();
        of.tells("Ahead of the calls `setStrength`, `setClass`, `setReserve`, `tell` the interface says: ---- settings.");
        of.tells("Ahead of the calls `frame`, `pass`, `now` the interface says: ---- frames and slots.");
        of.tells("Ahead of the calls `sends`, `waitOf`, `window`, `failures`, `silencedTo`, `frames`, `partsLeft`, "
            + "`delivered`, `dropped`, `airtime`, `airtimeBySendings`, `numbers` the interface says: ---- how stations "
            + "stand.");
    }

    private void calls512() {
        of.says("An object is used for at most 512 calls after it has been made; what later calls answer is free.");
        BackofficeAir x = new BackofficeAir();
        for (int i = 0; i < 511; i++) {
            x.pass(50);
        }
        of.due("the call 512 after 511 times 50 slots", 25550, x::now);
        BackofficeAir y = Scenes.air("01:9");
        for (int i = 0; i < 5; i++) {
            y.frame(0, 1, 4);
        }
        for (int i = 0; i < 101; i++) {
            y.pass(40);
            for (int frame = 0; frame < 4; frame++) {
                y.frame(0, 1, 4);
            }
        }
        of.due("the call 512 after 409 frames of 4 parts", 4 * (5 + 4 * 100), () -> y.delivered(0));
    }

    private void sixStations() {
        of.says("There are the stations 0 to 5.");
        for (int i = 0; i <= 5; i++) {
            int s = i;
            int goal = (i + 1) % 6;
            BackofficeAir x = Scenes.air(s + "" + goal + ":1");
            of.due("station " + s + " has a row", 1, () -> x.frame(s, goal, 1));
            of.due("station " + s + " sends to " + goal, 1, () -> x.pass(2));
            of.due("station " + s + " arrives at " + goal, 1, () -> x.delivered(s));
        }
        of.due("station -1", Scenes.BOUNDS, () -> new BackofficeAir().window(-1));
        of.due("station 6", Scenes.BOUNDS, () -> new BackofficeAir().window(6));
    }

    private void strengths() {
        of.says("Two stations hear one another at a strength, 0 to 9; 0 is not at all, as at first.");
        for (int i = 0; i < 36; i++) {
            int one = i / 6;
            int other = i % 6;
            if (one != other) {
                of.due("at first", 0, () -> new BackofficeAir().setStrength(one, other, 9));
                of.due("one another", 7, () -> Scenes.air(one + "" + other + ":7").setStrength(other, one, 0));
            }
        }
        for (int i = 0; i <= 9; i++) {
            int strength = i;
            int heard = i > 0 ? 1 : 0;
            of.due("a part at " + strength, heard, () -> arrivesAlone(strength, 0, 1));
            of.due("a part back at " + strength, heard, () -> arrivesAlone(strength, 1, 0));
            of.due("a wait beside one heard at " + strength, heard, () -> waitAfterOneSent(strength, 0, 1));
            of.due("a wait beside one heard back at " + strength, heard, () -> waitAfterOneSent(strength, 1, 0));
            of.due("silenced by a goal heard at " + strength, 3 * heard, () -> silencedBeside(strength, 2));
        }
        of.due("a station at 0 does not disturb a sender at 1", 1, () -> arrivesBeside(0));
        of.due("a station at 1 does", 0, () -> arrivesBeside(1));
        BackofficeAir x = Scenes.air("01:5");
        x.setStrength(0, 1, 0);
        x.frame(0, 1, 1);
        x.pass(2);
        of.due("0 again is not at all again", 1, () -> x.failures(0));
    }

    private static int arrivesAlone(int strength, int station, int goal) {
        BackofficeAir x = Scenes.air("01:" + strength);
        x.frame(station, goal, 1);
        x.pass(2);
        return x.delivered(station);
    }

    /** The wait of a station that is 2 after the slot 1, in which the other one begins to send to 5. */
    private static int waitAfterOneSent(int strength, int station, int other) {
        BackofficeAir x = Scenes.air("01:" + strength);
        x.frame(other, 5, 1);
        x.pass(1);
        x.frame(station, 4, 1);
        x.tell(1);
        x.pass(1);
        return x.waitOf(station);
    }

    private static int silencedBeside(int strength, int station) {
        BackofficeAir x = Scenes.reserving(1, "01:5", "12:" + strength);
        x.frame(0, 1, 1);
        x.pass(1);
        return x.silencedTo(station);
    }

    private static int arrivesBeside(int strength) {
        BackofficeAir x = Scenes.air("01:1", "12:" + strength);
        x.frame(0, 1, 1);
        x.frame(2, 5, 1);
        x.pass(2);
        return x.delivered(0);
    }

    private void classes() {
        of.says("A station has the class 0 or 1, 0 at first: the least window is 3 in the class 0, 7 in the class 1.");
        for (int i = 0; i <= 5; i++) {
            int s = i;
            BackofficeAir x = new BackofficeAir();
            of.due("the window at first", 3, () -> x.window(s));
            of.due("the class at first", 0, () -> x.setClass(s, 1));
            of.due("the window in the class 1", 7, () -> x.window(s));
            of.due("then the class 1", 1, () -> x.setClass(s, 0));
            of.due("the window in the class 0", 3, () -> x.window(s));
            of.due("the class -1", Scenes.ARGUMENT, () -> x.setClass(s, -1));
            of.due("the class 2", Scenes.ARGUMENT, () -> x.setClass(s, 2));
        }
    }

    private void windowWaitAndFailures() {
        of.says("It has a window, its least one at first, a wait or none, none at first, and failures, 0 at first.");
        BackofficeAir x = new BackofficeAir();
        for (int i = 0; i <= 5; i++) {
            int s = i;
            of.due("the window", 3, () -> x.window(s));
            of.due("the wait", -1, () -> x.waitOf(s));
            of.due("the failures", 0, () -> x.failures(s));
        }
    }

    private void frames() {
        of.says("Frames. A frame of a station has another station as its goal and 1 to 4 parts; the frames of a station "
            + "stand in a row, at most 5, of which the first one is sent.");
        for (int i = 1; i <= 4; i++) {
            int parts = i;
            BackofficeAir x = Scenes.air("02:1");
            of.due(parts + " parts", 1, () -> x.frame(0, 2, parts));
            of.due(parts + " parts are sent", 2 * parts, () -> Scenes.slotsOfNextSending(x, 0));
            of.due(parts + " parts arrive", parts, () -> x.delivered(0));
        }
        BackofficeAir y = new BackofficeAir();
        of.due("0 parts", Scenes.ARGUMENT, () -> y.frame(0, 2, 0));
        of.due("5 parts", Scenes.ARGUMENT, () -> y.frame(0, 2, 5));
        of.due("the station itself", Scenes.ARGUMENT, () -> y.frame(3, 3, 1));
        for (int i = 1; i <= 5; i++) {
            int count = i;
            of.due("frame " + count, count, () -> y.frame(4, count % 4, 1 + count % 4));
        }
        of.due("frame 6", Scenes.STATE, () -> y.frame(4, 0, 1));
        of.due("another row", 1, () -> y.frame(5, 0, 1));
        theFirstIsSent();
    }

    private void theFirstIsSent() {
        BackofficeAir x = Scenes.air("01:1", "03:1", "05:1");
        x.frame(0, 1, 2);
        x.frame(0, 3, 1);
        x.frame(0, 5, 4);
        of.due("the first of three", 4, () -> Scenes.slotsOfNextSending(x, 0));
        of.due("then the second", 2, () -> Scenes.slotsOfNextSending(x, 0));
        of.due("then the third", 8, () -> Scenes.slotsOfNextSending(x, 0));
        of.due("each to its goal", 7, () -> x.delivered(0));
        x.frame(0, 2, 1);
        x.frame(0, 1, 1);
        x.frame(0, 4, 1);
        x.pass(2);
        of.due("the first is sent again", 1, () -> x.failures(0));
        x.pass(8);
        of.due("until it is dropped", 1, () -> x.dropped(0));
        x.pass(2);
        of.due("then the second, to its goal, is done", 8, () -> x.delivered(0));
        x.pass(2);
        of.due("then the third, to its goal, has failed", 1, () -> x.failures(0));
        of.due("nothing arrived from it", 8, () -> x.delivered(0));
    }

    private void sendings() {
        of.says("A station that sends sends all parts that are left of its first frame, the lowest first, each for 2 "
            + "slots; if there are as many parts left as the reserve bound (5 at first) or more, it sends a request for 1 "
            + "slot ahead of them.");
        for (int i = 0; i < 20; i++) {
            int parts = 1 + i / 5;
            int bound = 1 + i % 5;
            int slots = 2 * parts + (parts >= bound ? 1 : 0);
            of.due(parts + " parts at the bound " + bound, slots, () -> slotsOf(parts, bound));
        }
        BackofficeAir x = Scenes.air("01:5");
        x.frame(0, 1, 4);
        of.due("the bound at first is above 4 parts", 8, () -> Scenes.slotsOfNextSending(x, 0));
        of.due("the bound at first", 5, () -> x.setReserve(1));
        requestOfTheRest();
        lowestPartFirst();
    }

    private static int slotsOf(int parts, int bound) {
        BackofficeAir x = Scenes.reserving(bound, "01:5");
        x.frame(0, 1, parts);
        return Scenes.slotsOfNextSending(x, 0);
    }

    /** The bound is looked at for the parts that are left, not for those that the frame had, nor for their sum. */
    private void requestOfTheRest() {
        for (int i = 0; i < 70; i++) {
            int rest = 1 + i / 5;
            int bound = 1 + i % 5;
            int parts = Integer.bitCount(rest);
            int slots = 2 * parts + (parts >= bound ? 1 : 0);
            BackofficeAir x = Scenes.air("01:5");
            x.frame(0, 1, 4);
            Scenes.breakSlots(x, 8, Scenes.slotsOf(rest, 0));
            x.setReserve(bound);
            of.due("the parts that are left", rest, () -> x.partsLeft(0));
            of.due("the rest " + rest + " at the bound " + bound, slots, () -> Scenes.slotsOfNextSending(x, 0));
        }
    }

    private void lowestPartFirst() {
        for (int i = 1; i <= 8; i++) {
            int slot = i;
            BackofficeAir x = Scenes.air("01:5");
            x.frame(0, 1, 4);
            Scenes.breakSlots(x, 8, slot);
            of.due("left by the slot " + slot, 1 << (slot - 1) / 2, () -> x.partsLeft(0));
            BackofficeAir y = Scenes.reserving(4, "01:5");
            y.frame(0, 1, 4);
            Scenes.breakSlots(y, 9, slot + 1);
            of.due("left by the slot " + slot + " behind a request", 1 << (slot - 1) / 2, () -> y.partsLeft(0));
        }
        for (int i = 1; i <= 6; i++) {
            int slot = i;
            int[] left = {1, 1, 4, 4, 8, 8};
            BackofficeAir x = Scenes.air("01:5");
            x.frame(0, 1, 4);
            Scenes.breakSlots(x, 8, 1, 5, 7);
            of.due("the parts 0, 2 and 3 are left", 13, () -> x.partsLeft(0));
            Scenes.breakSlots(x, 6, slot);
            of.due("left by the slot " + slot + " of the rest", left[slot - 1], () -> x.partsLeft(0));
        }
    }

    private void numbersInTheirOrder() {
        of.says("Numbers are told and used up in the order in which they were told; if none is left, it is 0.");
        overTheEndOfTheRow();
        BackofficeAir x = Scenes.reserving(1);
        tellZeros(x, 200);
        useUp(x, 40);
        of.due("200 are used up", 0, x::numbers);
        for (int i = 0; i < 200; i++) {
            x.tell(i < 5 ? 5 - i : 9);
        }
        of.due("200 more are told", Scenes.STATE, () -> x.tell(0));
        waitsOfAll(x, 4, 3, 2, 1, 0, 0);
        of.due("six of 200 more", 194, x::numbers);
        BackofficeAir y = Scenes.reserving(1);
        of.due("0 if none is left: it fails five times at once", 5, () -> useUp(y, 1));
        of.due("none is left still", 0, y::numbers);
        of.due("told later, it is the first", 1, () -> y.tell(3));
        y.frame(0, 1, 1);
        y.pass(1);
        of.due("and used up for the next wait", 2, () -> y.waitOf(0));
        noneIsLeftForOneThatHears();
    }

    /** It can't begin at once, so that the wait that it has by the number 0 is seen. */
    private void noneIsLeftForOneThatHears() {
        BackofficeAir x = Scenes.air("01:5", "02:5");
        x.frame(0, 1, 1);
        x.pass(1);
        x.frame(2, 3, 1);
        x.pass(1);
        of.due("0 if none is left: a wait of 0", 0, () -> x.waitOf(2));
        x.tell(3);
        x.pass(1);
        of.due("a number told later is not for this wait", 0, () -> x.waitOf(2));
        of.due("and is left", 1, x::numbers);
        x.pass(1);
        of.due("it begins by the 0", true, () -> x.sends(2));
        of.due("and still leaves it", 1, x::numbers);
    }

    /** 198 numbers, then 150 less, then 3 more: the last of them is the number 201 that was told. */
    private void overTheEndOfTheRow() {
        BackofficeAir x = Scenes.reserving(1);
        tellZeros(x, 195);
        Scenes.tellAll(x, 7, 6, 5);
        useUp(x, 30);
        of.due("behind those that are left", 49, () -> x.tell(4));
        Scenes.tellAll(x, 3, 2);
        useUp(x, 9);
        of.due("no zero is left", 6, x::numbers);
        waitsOfAll(x, 6, 5, 4, 3, 2, 1);
        of.due("none is left", 0, x::numbers);
    }

    private static void tellZeros(BackofficeAir x, int count) {
        for (int i = 0; i < count; i++) {
            x.tell(0);
        }
    }

    /** Has frames fail until they are dropped: each uses up 5 numbers that are 0. How many sendings ended. */
    private static int useUp(BackofficeAir x, int frames) {
        int ended = 0;
        for (int i = 0; i < frames; i++) {
            x.frame(i % 6, (i + 1) % 6, 1);
            ended += i % 30 == 29 || i == frames - 1 ? x.pass(50) : 0;
        }
        return ended;
    }

    /** The stations 0 to 5 use up a number each, by 8; none of them is 0. */
    private void waitsOfAll(BackofficeAir x, int... waits) {
        for (int s = 0; s < 6; s++) {
            x.setClass(s, 1);
            x.frame(s, (s + 1) % 6, 1);
        }
        x.pass(1);
        for (int i = 0; i < 6; i++) {
            int s = i;
            of.due("the wait of " + s, waits[s], () -> x.waitOf(s));
        }
    }

    private void exceptionsInTheirOrder() {
        of.says("If several exceptions apply to a call, the one that its throws clause names first is thrown");
        BackofficeAir x = new BackofficeAir();
        of.due("setStrength: station, strength, same", Scenes.BOUNDS, () -> x.setStrength(6, 6, 10));
        of.due("setStrength: station, strength", Scenes.BOUNDS, () -> x.setStrength(-1, 0, 10));
        of.due("setStrength: other, strength", Scenes.BOUNDS, () -> x.setStrength(0, 6, -1));
        of.due("setStrength: station, same", Scenes.BOUNDS, () -> x.setStrength(-1, -1, 1));
        of.due("setClass: station, class", Scenes.BOUNDS, () -> x.setClass(6, 2));
        of.due("frame: station, goal, parts, same", Scenes.BOUNDS, () -> x.frame(6, 6, 0));
        of.due("frame: goal, parts", Scenes.BOUNDS, () -> x.frame(0, -1, 5));
        for (int i = 0; i < 5; i++) {
            x.frame(0, 1, 1);
        }
        of.due("frame: goal, parts, state", Scenes.BOUNDS, () -> x.frame(0, 6, 5));
        of.due("frame: goal, state", Scenes.BOUNDS, () -> x.frame(0, 6, 1));
        of.due("frame: parts, state", Scenes.ARGUMENT, () -> x.frame(0, 1, 5));
        of.due("frame: same, state", Scenes.ARGUMENT, () -> x.frame(0, 0, 1));
        tellZeros(x, 200);
        of.due("tell: too great, state", Scenes.ARGUMENT, () -> x.tell(1001));
        of.due("tell: too small, state", Scenes.ARGUMENT, () -> x.tell(-1));
    }

    private void thrownCallsChangeNothing() {
        of.says("; a call that throws changes nothing.");
        BackofficeAir x = busy();
        BackofficeAir twin = busy();
        refusedCalls(x);
        for (int i = 0; i < 40; i++) {
            of.due("as without the refused calls, slot " + twin.now(), Scenes.standing(twin), () -> Scenes.standing(x));
            of.due("the sendings that end", twin.pass(1), () -> x.pass(1));
        }
        for (int s = 1; s < 6; s++) {
            int other = s;
            of.due("the strength", twin.setStrength(0, other, 0), () -> x.setStrength(0, other, 0));
            of.due("the class", twin.setClass(other, 0), () -> x.setClass(other, 0));
        }
        of.due("the reserve bound", twin.setReserve(1), () -> x.setReserve(1));
    }

    private static BackofficeAir busy() {
        BackofficeAir x = Scenes.reserving(3, "01:5", "12:5", "23:1", "34:9", "45:3");
        x.setClass(4, 1);
        tellZeros(x, 200);
        for (int i = 0; i < 5; i++) {
            x.frame(0, 1, 1 + i % 4);
            x.frame(4, 3, 4 - i % 4);
        }
        x.pass(2);
        Scenes.tellAll(x, 3, 2);
        return x;
    }

    /** Each call that can throw, once for each reason that it has to. */
    private void refusedCalls(BackofficeAir x) {
        of.due("setStrength", Scenes.BOUNDS, () -> x.setStrength(6, 0, 1));
        of.due("setStrength", Scenes.BOUNDS, () -> x.setStrength(0, 6, 1));
        of.due("setStrength", Scenes.ARGUMENT, () -> x.setStrength(0, 1, 10));
        of.due("setStrength", Scenes.ARGUMENT, () -> x.setStrength(0, 1, -1));
        of.due("setStrength", Scenes.ARGUMENT, () -> x.setStrength(1, 1, 9));
        of.due("setClass", Scenes.BOUNDS, () -> x.setClass(-1, 1));
        of.due("setClass", Scenes.ARGUMENT, () -> x.setClass(0, 2));
        of.due("setClass", Scenes.ARGUMENT, () -> x.setClass(4, -1));
        of.due("setReserve", Scenes.ARGUMENT, () -> x.setReserve(0));
        of.due("setReserve", Scenes.ARGUMENT, () -> x.setReserve(6));
        of.due("tell", Scenes.ARGUMENT, () -> x.tell(-1));
        of.due("tell", Scenes.ARGUMENT, () -> x.tell(1001));
        of.due("tell", Scenes.STATE, () -> x.tell(1));
        of.due("frame", Scenes.BOUNDS, () -> x.frame(6, 1, 1));
        of.due("frame", Scenes.BOUNDS, () -> x.frame(1, 6, 1));
        of.due("frame", Scenes.ARGUMENT, () -> x.frame(1, 0, 0));
        of.due("frame", Scenes.ARGUMENT, () -> x.frame(1, 0, 5));
        of.due("frame", Scenes.ARGUMENT, () -> x.frame(1, 1, 1));
        of.due("frame", Scenes.STATE, () -> x.frame(4, 0, 1));
        of.due("pass", Scenes.ARGUMENT, () -> x.pass(0));
        of.due("pass", Scenes.ARGUMENT, () -> x.pass(51));
        of.due("an answer", Scenes.BOUNDS, () -> x.partsLeft(6));
    }

    private void noSuchStation() {
        of.says("IndexOutOfBoundsException is thrown if there is no such station.");
        BackofficeAir x = new BackofficeAir();
        for (int none : NO_STATIONS) {
            of.due("setStrength " + none, Scenes.BOUNDS, () -> x.setStrength(none, 0, 1));
            of.due("setStrength of other " + none, Scenes.BOUNDS, () -> x.setStrength(0, none, 1));
            of.due("setClass " + none, Scenes.BOUNDS, () -> x.setClass(none, 0));
            of.due("frame " + none, Scenes.BOUNDS, () -> x.frame(none, 0, 1));
            of.due("frame to " + none, Scenes.BOUNDS, () -> x.frame(0, none, 1));
            of.due("sends " + none, Scenes.BOUNDS, () -> x.sends(none));
            of.due("waitOf " + none, Scenes.BOUNDS, () -> x.waitOf(none));
            of.due("window " + none, Scenes.BOUNDS, () -> x.window(none));
            of.due("failures " + none, Scenes.BOUNDS, () -> x.failures(none));
            of.due("silencedTo " + none, Scenes.BOUNDS, () -> x.silencedTo(none));
            of.due("frames " + none, Scenes.BOUNDS, () -> x.frames(none));
            of.due("partsLeft " + none, Scenes.BOUNDS, () -> x.partsLeft(none));
            of.due("delivered " + none, Scenes.BOUNDS, () -> x.delivered(none));
            of.due("dropped " + none, Scenes.BOUNDS, () -> x.dropped(none));
            of.due("airtime " + none, Scenes.BOUNDS, () -> x.airtime(none));
            of.due("airtimeBySendings " + none, Scenes.BOUNDS, () -> x.airtimeBySendings(none));
        }
    }

    private void constants() {
        of.says("The constants: `NONE = -1`: There is none.");
        of.due("NONE", -1, () -> BackofficeAir.NONE);
        of.due("the wait of a new station", BackofficeAir.NONE, () -> new BackofficeAir().waitOf(0));
    }
}
