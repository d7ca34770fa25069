/** Of 'Terms' the slots with their steps (1) to (4), and how a sending ends. */
final class SlotSentences {
    private final Sentences of;

    SlotSentences(Sentences of) {
        this.of = of;
    }

    void all() {
        of.in("Terms");
        slots();
        numberIsUsedUp();
        numbersByWindow();
        beginsOrWaits();
        silencedDoesNotWait();
        heardDoesNotWait();
        broken();
        brokenBySlots();
        brokenRequests();
        requestEnds();
        whoIsSilenced();
        whenSilenced();
        silencedLonger();
        lastSlotOfParts();
        notFailed();
        failed();
        failedAtTheFifth();
    }

    private void slots() {
        of.says("Slots. Now is a slot, 0 at first.");
        of.due("at first", 0, () -> new BackofficeAir().now());
        of.says("When a slot passes, in this order:");
        BackofficeAir x = Scenes.reserving(1, "01:5");
        x.frame(0, 1, 1);
        of.due("now, wait, begin, send and end are of one slot", 3, () -> Scenes.slotsOfNextSending(x, 0));
        of.due("three slots for three", 3, x::now);
        of.says("(1) Now becomes 1 more.");
        BackofficeAir y = new BackofficeAir();
        for (int i = 1; i <= 60; i++) {
            int slot = i;
            y.pass(1);
            of.due("slot " + slot, slot, y::now);
        }
    }

    private void numberIsUsedUp() {
        of.says("(2) For each station, by their numbers, that does not send and has a frame: if it has no wait, the next "
            + "number is used up,");
        BackofficeAir x = Scenes.air("01:5");
        Scenes.tellAll(x, 1, 2, 3, 0, 0, 0);
        x.pass(1);
        of.due("none without a frame", 6, x::numbers);
        x.frame(5, 4, 1);
        x.frame(0, 1, 1);
        x.frame(3, 4, 1);
        x.pass(1);
        of.due("one each", 3, x::numbers);
        of.due("by their numbers: 0", 0, () -> x.waitOf(0));
        of.due("by their numbers: 3", 1, () -> x.waitOf(3));
        of.due("by their numbers: 5", 2, () -> x.waitOf(5));
        x.pass(1);
        of.due("none by those that wait", 3, x::numbers);
        BackofficeAir y = Scenes.air("01:5");
        Scenes.tellAll(y, 0, 0, 0);
        y.frame(0, 1, 2);
        y.frame(0, 1, 1);
        y.pass(1);
        of.due("one to begin", 2, y::numbers);
        y.pass(3);
        of.due("none while it sends, and none in the slot of its end", 2, y::numbers);
        y.pass(1);
        of.due("the next one in the slot behind", 1, y::numbers);
    }

    private void numbersByWindow() {
        of.says("and its wait is the rest of the number by its window and 1, together.");
        int[] windows = {3, 7, 15, 31};
        for (int i = 0; i < windows.length; i++) {
            int window = windows[i];
            int failures = i;
            of.due("the window", window, () -> failing(failures).window(0));
            int[] numbers = {0, 1, 2, window - 1, window, window + 1, window + 2, 2 * window + 1, 2 * window + 2, 999,
                1000};
            for (int number : numbers) {
                int rest = number % (window + 1);
                of.due(number + " by the window " + window, rest, () -> slotsAhead(failing(failures), number));
            }
        }
    }

    /** Station 0 has failed so often with a frame that goes to nobody who hears it. */
    private static BackofficeAir failing(int failures) {
        BackofficeAir x = Scenes.reserving(1);
        x.frame(0, 1, 1);
        Scenes.passAll(x, failures);
        return x;
    }

    /** How many slots pass ahead of the next sending of 0, after a number was told. */
    private static int slotsAhead(BackofficeAir x, int number) {
        x.tell(number);
        int slots = 0;
        while (slots < 100 && x.pass(1) == 0) {
            slots++;
        }
        return slots;
    }

    private void beginsOrWaits() {
        of.says("Then, if it is not silenced in this slot, and no other station that it hears sent in the slot before: if "
            + "its wait is 0, it begins to send in this slot, and has no wait any more; otherwise its wait becomes 1 "
            + "less.");
        BackofficeAir x = Scenes.air("01:5");
        x.tell(2);
        x.frame(0, 1, 1);
        x.frame(0, 1, 1);
        x.pass(1);
        of.due("2 becomes 1", 1, () -> x.waitOf(0));
        x.pass(1);
        of.due("1 becomes 0", 0, () -> x.waitOf(0));
        of.due("and does not begin in this slot", false, () -> x.sends(0));
        x.pass(1);
        of.due("0 begins", true, () -> x.sends(0));
        of.due("no wait any more", -1, () -> x.waitOf(0));
        of.due("it sends in this slot", 1, () -> x.airtime(0));
        x.pass(1);
        of.due("no wait while it sends, nor when it ends", -1, () -> x.waitOf(0));
        x.pass(1);
        of.due("itself sent in the slot before: it is no other station", true, () -> x.sends(0));
        BackofficeAir y = Scenes.air("01:9", "05:9", "15:9");
        y.frame(0, 1, 1);
        y.frame(1, 5, 1);
        y.frame(5, 0, 1);
        y.pass(1);
        of.due("who begins in this slot does not stop others: 0", true, () -> y.sends(0));
        of.due("who begins in this slot does not stop others: 1", true, () -> y.sends(1));
        of.due("who begins in this slot does not stop others: 5", true, () -> y.sends(5));
    }

    private void silencedDoesNotWait() {
        for (int i = 0; i <= 2; i++) {
            int wait = i;
            BackofficeAir x = Scenes.reserving(2, "01:5", "12:5");
            x.frame(0, 1, 2);
            x.pass(1);
            of.due("silenced to 5", 5, () -> x.silencedTo(2));
            x.frame(2, 3, 1);
            x.tell(wait);
            for (int slot = 2; slot <= 5; slot++) {
                x.pass(1);
                of.due("silenced in the slot " + slot, wait, () -> x.waitOf(2));
            }
            x.pass(1);
            of.due("not silenced in the slot 6", wait - 1, () -> x.waitOf(2));
            of.due("it begins by its wait", wait == 0, () -> x.sends(2));
        }
    }

    private void heardDoesNotWait() {
        for (int i = 0; i <= 2; i++) {
            int wait = i;
            BackofficeAir x = Scenes.air("01:5", "02:1");
            x.frame(0, 1, 2);
            x.pass(1);
            x.frame(2, 3, 1);
            x.tell(wait);
            for (int slot = 2; slot <= 5; slot++) {
                x.pass(1);
                of.due("heard before the slot " + slot, wait, () -> x.waitOf(2));
            }
            x.pass(1);
            of.due("not heard before the slot 6", wait - 1, () -> x.waitOf(2));
            BackofficeAir y = Scenes.air("01:5");
            y.frame(0, 1, 4);
            y.pass(1);
            y.frame(2, 3, 1);
            y.tell(wait);
            y.pass(1);
            of.due("who is not heard does not stop it", wait - 1, () -> y.waitOf(2));
        }
        BackofficeAir z = Scenes.air("01:5", "02:5", "23:5");
        z.tell(0);
        z.tell(1);
        z.frame(0, 1, 1);
        z.frame(2, 3, 1);
        z.pass(1);
        of.due("nobody sent in the slot 0", 0, () -> z.waitOf(2));
        z.pass(2);
        of.due("a wait of 0 stays 0", 0, () -> z.waitOf(2));
        of.due("and does not begin", false, () -> z.sends(2));
        z.pass(1);
        of.due("it begins two slots behind the last one heard", true, () -> z.sends(2));
    }

    private void broken() {
        of.says("(3) For each station that sends: what it sends in this slot, the request or a part, is broken if its goal "
            + "sends, too, or does not hear it, or hears another station that sends in this slot at a strength above its "
            + "own strength there less 3.");
        for (int i = 0; i < 100; i++) {
            int own = i / 10;
            int other = i % 10;
            boolean arrives = own > 0 && (other == 0 || other <= own - 3);
            String name = "at " + own + " beside one at " + other;
            of.due("a part " + name, arrives ? 1 : 0, () -> beside(5, own, other, 0, 2).delivered(0));
            of.due("a part of 2 " + name, arrives ? 1 : 0, () -> beside(5, own, other, 2, 0).delivered(2));
            of.due("a request " + name, arrives ? 0 : 1, () -> beside(1, own, other, 0, 2).failures(0));
        }
        of.due("no pair is above it", 1, () -> besideTwo(5, 2, 2));
        of.due("the first of two is above it", 0, () -> besideTwo(5, 3, 2));
        of.due("the second of two is above it", 0, () -> besideTwo(5, 2, 3));
        goalSends();
    }

    /** One and another begin at once, to 1 and 5; their strengths at 1 are told. Two slots have passed. */
    private static BackofficeAir beside(int bound, int own, int others, int one, int other) {
        BackofficeAir x = Scenes.reserving(bound, one + "1:" + own, other + "1:" + others);
        x.frame(one, 1, 1);
        x.frame(other, 5, 1);
        x.pass(bound == 1 ? 1 : 2);
        return x;
    }

    private static int besideTwo(int own, int second, int third) {
        BackofficeAir x = Scenes.air("01:" + own, "21:" + second, "31:" + third);
        x.frame(0, 1, 1);
        x.frame(2, 5, 1);
        x.frame(3, 5, 1);
        x.pass(2);
        return x.delivered(0);
    }

    private void goalSends() {
        BackofficeAir x = Scenes.air("01:9");
        x.frame(0, 1, 1);
        x.frame(1, 2, 1);
        x.pass(2);
        of.due("its goal sends to another, at whatever strength", 0, () -> x.delivered(0));
        BackofficeAir y = Scenes.reserving(1, "01:9");
        y.frame(0, 1, 1);
        y.frame(1, 0, 1);
        of.due("two requests for one another end", 2, () -> y.pass(1));
        of.due("and have failed", 2, () -> y.failures(0) + y.failures(1));
        BackofficeAir z = Scenes.air("01:9");
        z.frame(0, 1, 2);
        z.frame(1, 2, 1);
        z.pass(4);
        of.due("the goal sends beside the first part alone", 1, () -> z.partsLeft(0));
        of.due("the second part arrives", 1, () -> z.delivered(0));
    }

    private void brokenBySlots() {
        for (int start = 2; start <= 11; start++) {
            brokenBesideTwoSlots(start, 0, 2);
            brokenBesideTwoSlots(start, 2, 0);
        }
    }

    /** The parts of one lie in the slots 3 to 10; another, heard by its goal, sends in two slots from start on. */
    private void brokenBesideTwoSlots(int start, int one, int another) {
        BackofficeAir x = Scenes.air("01:5", "21:5", another + "5:5");
        x.frame(one, 1, 4);
        x.tell(2);
        for (int slot = 1; slot <= 11; slot++) {
            if (slot == start) {
                x.frame(another, 5, 1);
            }
            x.pass(1);
        }
        int broken = partsIn(start) | partsIn(start + 1);
        of.due(another + " sends from the slot " + start, broken, () -> x.partsLeft(one));
        of.due("the others arrive", 4 - Integer.bitCount(broken), () -> x.delivered(one));
    }

    private static int partsIn(int slot) {
        return slot < 3 || slot > 10 ? 0 : 1 << (slot - 3) / 2;
    }

    private void brokenRequests() {
        BackofficeAir x = Scenes.reserving(2, "01:5", "21:5", "25:5");
        x.frame(0, 1, 2);
        x.frame(2, 5, 1);
        x.pass(1);
        of.due("a request beside a part", 1, () -> x.failures(0));
        BackofficeAir y = Scenes.reserving(2, "01:5", "21:5", "25:5");
        y.frame(0, 1, 1);
        y.frame(2, 5, 2);
        y.pass(2);
        of.due("a part beside a request", 1, () -> y.failures(0));
        BackofficeAir z = Scenes.reserving(1, "01:5", "21:5");
        z.frame(0, 1, 1);
        z.frame(2, 1, 1);
        of.due("two requests for one goal end at once", 2, () -> z.pass(1));
        of.due("both are broken", 2, () -> z.failures(0) + z.failures(2));
    }

    private void requestEnds() {
        of.says("(4) For each station that sends, by their numbers: if this was the slot of its request: if that is broken, "
            + "its sending ends and has failed;");
        for (int i = 1; i <= 4; i++) {
            int parts = i;
            BackofficeAir x = Scenes.reserving(1, "12:9");
            x.frame(0, 1, parts);
            of.due("it ends in its slot", 1, () -> x.pass(1));
            of.due("it does not send", false, () -> x.sends(0));
            of.due("it has failed", 1, () -> x.failures(0));
            of.due("all parts are left", (1 << parts) - 1, () -> x.partsLeft(0));
            of.due("nothing is delivered", 0, () -> x.delivered(0));
            of.due("nobody is silenced", 0, () -> x.silencedTo(2));
            of.due("it sent in one slot", 1, () -> x.airtime(0));
        }
        BackofficeAir y = Scenes.reserving(1, "01:9", "12:9");
        y.frame(0, 1, 2);
        of.due("one that is not broken goes on", 0, () -> y.pass(1));
        y.setStrength(0, 1, 0);
        of.due("a part that is broken does not end it", 0, () -> y.pass(3));
        of.due("up to its last slot", 1, () -> y.pass(1));
        BackofficeAir z = Scenes.reserving(1);
        z.frame(0, 1, 1);
        of.due("a broken one", 1, () -> z.pass(1));
        z.setStrength(0, 1, 5);
        of.due("the next one is not broken and goes on", 0, () -> z.pass(2));
        of.due("up to its last slot", 1, () -> z.pass(1));
        of.due("its part arrives", 1, () -> z.delivered(0));
        z.setStrength(0, 1, 0);
        z.frame(0, 1, 1);
        z.pass(1);
        z.setReserve(5);
        z.setStrength(0, 1, 5);
        z.pass(2);
        of.due("behind a broken one, a part without a request arrives", 2, () -> z.delivered(0));
    }

    private void whoIsSilenced() {
        of.says("otherwise all other stations that hear its goal, except the goal, are silenced from the next slot on, up "
            + "to the last slot of its sending.");
        for (int i = 0; i <= 9; i++) {
            int strength = i;
            BackofficeAir x = Scenes.reserving(1, "01:9", "12:" + strength, "13:1", "04:9", "45:9");
            x.frame(0, 1, 1);
            x.pass(1);
            of.due("who hears its goal at " + strength, strength == 0 ? 0 : 3, () -> x.silencedTo(2));
            of.due("another who hears its goal", 3, () -> x.silencedTo(3));
            of.due("not itself", 0, () -> x.silencedTo(0));
            of.due("not its goal", 0, () -> x.silencedTo(1));
            of.due("not who hears itself alone", 0, () -> x.silencedTo(4));
            of.due("not who hears none of both", 0, () -> x.silencedTo(5));
        }
        for (int i = 0; i < 16; i++) {
            int parts = 1 + i / 4;
            int bound = 1 + i % 4;
            BackofficeAir x = Scenes.reserving(bound, "51:9", "01:1");
            x.pass(10);
            x.frame(5, 1, parts);
            x.pass(1);
            int want = parts >= bound ? 11 + 2 * parts : 0;
            of.due(parts + " parts at the bound " + bound, want, () -> x.silencedTo(0));
        }
    }

    private void whenSilenced() {
        for (int i = 0; i < 2; i++) {
            int waiting = i == 0 ? 0 : 5;
            BackofficeAir x = Scenes.reserving(1, "31:9", waiting + "1:1");
            if (waiting == 0) {
                Scenes.tellAll(x, 2, 0);
            } else {
                Scenes.tellAll(x, 0, 2);
            }
            x.frame(3, 1, 1);
            x.frame(waiting, 2, 1);
            x.pass(1);
            of.due("not yet in the slot of the request", 1, () -> x.waitOf(waiting));
            x.pass(1);
            of.due("from the next slot on", 1, () -> x.waitOf(waiting));
            of.due("the last slot of the sending", 1, () -> x.pass(1));
            of.due("up to that one", 1, () -> x.waitOf(waiting));
            x.pass(1);
            of.due("and no longer", 0, () -> x.waitOf(waiting));
        }
    }

    private void silencedLonger() {
        of.says("(Who is silenced longer already stays so; who sends goes on.)");
        of.due("a longer one, then a shorter one", 9, () -> silencedByTwo(4, 2, 3));
        of.due("a longer one, then one as long", 9, () -> silencedByTwo(4, 3, 3));
        of.due("a longer one, then one that is longer still", 10, () -> silencedByTwo(4, 2, 4));
        of.due("a shorter one, then a longer one", 10, () -> silencedByTwo(1, 2, 4));
        for (int i = 0; i < 2; i++) {
            int first = i == 0 ? 4 : 1;
            BackofficeAir x = Scenes.reserving(1, "01:9", "21:1", "25:1", "35:9");
            x.frame(0, 1, first);
            x.frame(3, 5, 5 - first);
            x.pass(1);
            of.due("two in the same slot", 9, () -> x.silencedTo(2));
        }
        BackofficeAir y = Scenes.reserving(3, "01:9", "21:1", "23:5");
        y.frame(0, 1, 4);
        y.frame(2, 3, 2);
        y.frame(2, 3, 1);
        y.pass(1);
        of.due("who sends is silenced, too", 9, () -> y.silencedTo(2));
        of.due("and goes on", true, () -> y.sends(2));
        of.due("up to the end of its sending", 1, () -> y.pass(3));
        of.due("its parts arrive", 2, () -> y.delivered(2));
        y.pass(5);
        of.due("its next frame waits", 4, () -> y.airtime(2));
        y.pass(1);
        of.due("for the slot behind", 5, () -> y.airtime(2));
    }

    /** 2 hears the goals of two requests: one in the slot 1, and one later. */
    private static int silencedByTwo(int partsOfFirst, int slotOfSecond, int partsOfSecond) {
        BackofficeAir x = Scenes.reserving(1, "01:9", "21:1", "25:1", "35:9");
        x.frame(0, 1, partsOfFirst);
        x.pass(slotOfSecond - 1);
        x.frame(3, 5, partsOfSecond);
        x.pass(1);
        return x.silencedTo(2);
    }

    private void lastSlotOfParts() {
        of.says("If this was the last slot of its parts, its sending ends: the parts that are not broken are delivered; it "
            + "has failed if all are broken.");
        for (int i = 0; i < 32; i++) {
            int broken = i % 16;
            int slotOfPart = i / 16;
            BackofficeAir x = Scenes.air("01:5");
            x.frame(0, 1, 4);
            Scenes.breakSlots(x, 7, Scenes.slotsOf(broken, slotOfPart));
            of.due("not before the last slot", true, () -> x.sends(0));
            of.due("nothing is delivered before", 0, () -> x.delivered(0));
            of.due("all are left before", 15, () -> x.partsLeft(0));
            x.setStrength(0, 1, slotOfPart == 1 && broken > 7 ? 0 : 5);
            of.due("it ends in the last slot", 1, () -> x.pass(1));
            of.due("it does not send", false, () -> x.sends(0));
            of.due("broken " + broken + ": delivered", 4 - Integer.bitCount(broken), () -> x.delivered(0));
            of.due("broken " + broken + ": left", broken, () -> x.partsLeft(0));
            of.due("broken " + broken + ": failures", broken == 15 ? 1 : 0, () -> x.failures(0));
            of.due("broken " + broken + ": frames", broken == 0 ? 0 : 1, () -> x.frames(0));
        }
    }

    private void notFailed() {
        of.says("When a sending ends that has not failed, the window is the least one of the class again, and the failures "
            + "are 0; if no part is left, the frame is done.");
        for (int i = 0; i < 10; i++) {
            int itsClass = i % 2;
            int failures = i / 2 % 5;
            BackofficeAir x = new BackofficeAir();
            x.setClass(0, itsClass);
            x.frame(0, 1, 2);
            x.frame(0, 1, 1);
            Scenes.passAll(x, 4 * failures);
            of.due("failures ahead", failures, () -> x.failures(0));
            Scenes.breakSlots(x, 4, 1);
            of.due("one of two parts arrived: the window", itsClass == 0 ? 3 : 7, () -> x.window(0));
            of.due("one of two parts arrived: the failures", 0, () -> x.failures(0));
            of.due("a part is left: the frame stays", 2, () -> x.frames(0));
            of.due("the part that is left", 1, () -> x.partsLeft(0));
            x.pass(2);
            of.due("no part is left: the frame is done", 1, () -> x.frames(0));
            of.due("the next frame is the first", 1, () -> x.partsLeft(0));
            of.due("all arrived: the window", itsClass == 0 ? 3 : 7, () -> x.window(0));
            of.due("all arrived: the failures", 0, () -> x.failures(0));
        }
        BackofficeAir y = Scenes.air("01:5");
        y.frame(0, 1, 1);
        y.pass(1);
        y.setClass(0, 1);
        y.pass(1);
        of.due("the least one of the class that it has then", 7, () -> y.window(0));
    }

    private void failed() {
        of.says("When it has failed, there is one failure more;");
        BackofficeAir x = new BackofficeAir();
        x.frame(0, 1, 2);
        for (int i = 1; i <= 4; i++) {
            int failures = i;
            x.pass(3);
            of.due("not before it ends", failures - 1, () -> x.failures(0));
            x.pass(1);
            of.due("all parts broken", failures, () -> x.failures(0));
        }
        BackofficeAir y = Scenes.reserving(1);
        y.frame(0, 1, 2);
        for (int i = 1; i <= 4; i++) {
            int failures = i;
            y.pass(1);
            of.due("a request broken", failures, () -> y.failures(0));
        }
        of.due("not of another", 0, () -> y.failures(1));
    }

    private void failedAtTheFifth() {
        of.says("at the fifth one the frame is dropped, the window is the least one again, and the failures are 0; "
            + "otherwise the window becomes twice as great and 1 more, but not more than 31.");
        int[][] windows = {{7, 15, 31, 31, 3}, {15, 31, 31, 31, 7}};
        for (int i = 0; i < 10; i++) {
            int[] its = windows[i / 5];
            int failure = i % 5;
            BackofficeAir x = Scenes.reserving(1);
            x.setClass(0, i / 5);
            x.frame(0, 1, 3);
            x.frame(0, 1, 2);
            x.pass(failure + 1);
            boolean fifth = failure == 4;
            of.due("the window after " + (failure + 1), its[failure], () -> x.window(0));
            of.due("the failures after " + (failure + 1), fifth ? 0 : failure + 1, () -> x.failures(0));
            of.due("dropped after " + (failure + 1), fifth ? 1 : 0, () -> x.dropped(0));
            of.due("the frames after " + (failure + 1), fifth ? 1 : 2, () -> x.frames(0));
            of.due("the parts after " + (failure + 1), fifth ? 3 : 7, () -> x.partsLeft(0));
        }
        BackofficeAir y = new BackofficeAir();
        y.frame(0, 1, 2);
        y.pass(16);
        Scenes.breakSlots(y, 4, 4);
        y.setStrength(0, 1, 0);
        y.pass(8);
        of.due("four failures, one part, four failures: not dropped", 0, () -> y.dropped(0));
        of.due("four failures since", 4, () -> y.failures(0));
        y.pass(2);
        of.due("the fifth since", 1, () -> y.dropped(0));
        of.due("the part that arrived stays delivered", 1, () -> y.delivered(0));
        BackofficeAir z = Scenes.reserving(1);
        z.frame(0, 1, 1);
        z.pass(3);
        of.due("a window of 31", 31, () -> z.window(0));
        z.setClass(0, 1);
        z.pass(1);
        of.due("it grows from the least window of a class that was set", 15, () -> z.window(0));
        z.pass(1);
        of.due("the fifth in all", 1, () -> z.dropped(0));
        of.due("the least one of the class that it has then", 7, () -> z.window(0));
    }
}
