/** The promises 1 to 8: a new object, the settings, frames and slots. */
final class CallSentences {
    private final Sentences of;

    CallSentences(Sentences of) {
        this.of = of;
    }

    void all() {
        newObject();
        setStrength();
        setClass();
        setReserve();
        tell();
        frame();
        pass();
        now();
    }

    private void newObject() {
        of.in("Promise 1: A new object");
        of.says("Begins in the slot 0; nobody hears anybody.");
        BackofficeAir x = new BackofficeAir();
        of.due("the slot", 0, x::now);
        for (int i = 0; i < 36; i++) {
            int one = i / 6;
            int other = i % 6;
            if (one != other) {
                of.due(one + " does not hear " + other, 0, () -> x.setStrength(one, other, 0));
                of.due(one + " does not reach " + other, 0, () -> arrives(one, other));
            }
        }
        BackofficeAir y = Scenes.air("01:5");
        y.pass(3);
        of.due("a new one beside one that is used", 0, () -> new BackofficeAir().now());
        of.due("nobody hears anybody in it", 0, () -> new BackofficeAir().setStrength(0, 1, 5));
    }

    private static int arrives(int one, int other) {
        BackofficeAir x = new BackofficeAir();
        x.frame(one, other, 1);
        x.pass(50);
        return x.delivered(one);
    }

    private void setStrength() {
        of.in("Promise 2: setStrength");
        of.says("Sets at which strength two stations hear one another.");
        BackofficeAir x = new BackofficeAir();
        x.setStrength(2, 5, 4);
        of.due("the two", 4, () -> x.setStrength(2, 5, 4));
        of.due("one another", 4, () -> x.setStrength(5, 2, 4));
        of.due("no other two", 0, () -> x.setStrength(2, 4, 1));
        of.due("no other two", 0, () -> x.setStrength(5, 4, 1));
        of.due("the two still", 4, () -> x.setStrength(5, 2, 4));
        of.says("- `strength`: 0 to 9");
        BackofficeAir y = new BackofficeAir();
        for (int i = 0; i <= 9; i++) {
            int strength = i;
            y.setStrength(0, 1, strength);
            of.due("strength " + strength, strength, () -> y.setStrength(0, 1, strength));
        }
        of.says("Returns the strength before.");
        BackofficeAir z = new BackofficeAir();
        of.due("at first", 0, () -> z.setStrength(3, 1, 9));
        of.due("then", 9, () -> z.setStrength(1, 3, 0));
        of.due("after 0", 0, () -> z.setStrength(3, 1, 2));
        of.says("Throws `IndexOutOfBoundsException` as told, of either");
        of.due("station -1", Scenes.BOUNDS, () -> z.setStrength(-1, 1, 1));
        of.due("station 6", Scenes.BOUNDS, () -> z.setStrength(6, 1, 1));
        of.due("other -1", Scenes.BOUNDS, () -> z.setStrength(1, -1, 1));
        of.due("other 6", Scenes.BOUNDS, () -> z.setStrength(1, 6, 1));
        of.says("Throws `IllegalArgumentException` if strength is out of range, or both are the same");
        of.due("strength -1", Scenes.ARGUMENT, () -> z.setStrength(3, 1, -1));
        of.due("strength 10", Scenes.ARGUMENT, () -> z.setStrength(3, 1, 10));
        of.due("the least int", Scenes.ARGUMENT, () -> z.setStrength(3, 1, Integer.MIN_VALUE));
        of.due("the greatest int", Scenes.ARGUMENT, () -> z.setStrength(3, 1, Integer.MAX_VALUE));
        for (int i = 0; i <= 5; i++) {
            int s = i;
            of.due("both are " + s, Scenes.ARGUMENT, () -> z.setStrength(s, s, 1));
            of.due("both are " + s + ", at 0", Scenes.ARGUMENT, () -> z.setStrength(s, s, 0));
        }
        of.due("as it was", 2, () -> z.setStrength(3, 1, 2));
    }

    private void setClass() {
        of.in("Promise 3: setClass");
        of.says("Sets the class of a station; its window is the least one of it then.");
        for (int i = 0; i <= 9; i++) {
            int failures = i % 5;
            int its = i / 5;
            BackofficeAir x = Scenes.reserving(1);
            x.frame(0, 1, 1);
            x.frame(1, 0, 1);
            Scenes.passAll(x, failures);
            int other = x.window(1);
            x.setClass(0, its);
            of.due("after " + failures + " failures", its == 0 ? 3 : 7, () -> x.window(0));
            of.due("the failures stay", failures, () -> x.failures(0));
            of.due("another's window stays", other, () -> x.window(1));
        }
        BackofficeAir y = new BackofficeAir();
        y.tell(7);
        y.setClass(0, 1);
        y.frame(0, 1, 1);
        y.pass(1);
        y.setClass(0, 0);
        of.due("the wait stays, though it is above the window", 6, () -> y.waitOf(0));
        of.says("- `its`: 0 or 1");
        BackofficeAir z = new BackofficeAir();
        of.due("class 0", 0, () -> z.setClass(0, 0));
        of.due("class 1", 0, () -> z.setClass(0, 1));
        of.says("Returns the class before.");
        of.due("class 1, then 1", 1, () -> z.setClass(0, 1));
        of.due("class 1, then 0", 1, () -> z.setClass(0, 0));
        of.due("class 0, then 1", 0, () -> z.setClass(0, 1));
        of.due("of another", 0, () -> z.setClass(5, 1));
        of.says("Throws `IndexOutOfBoundsException` as told");
        of.due("station -1", Scenes.BOUNDS, () -> z.setClass(-1, 0));
        of.due("station 6", Scenes.BOUNDS, () -> z.setClass(6, 0));
        of.says("Throws `IllegalArgumentException` if there is no such class");
        of.due("class -1", Scenes.ARGUMENT, () -> z.setClass(0, -1));
        of.due("class 2", Scenes.ARGUMENT, () -> z.setClass(0, 2));
        of.due("the least int", Scenes.ARGUMENT, () -> z.setClass(0, Integer.MIN_VALUE));
        of.due("the greatest int", Scenes.ARGUMENT, () -> z.setClass(0, Integer.MAX_VALUE));
        of.due("as it was", 1, () -> z.setClass(0, 1));
    }

    private void setReserve() {
        of.in("Promise 4: setReserve");
        of.says("Sets the reserve bound, for sendings that begin from now on.");
        BackofficeAir x = Scenes.air("01:5");
        x.frame(0, 1, 1);
        x.frame(0, 1, 1);
        x.pass(1);
        x.setReserve(1);
        of.due("one that has begun has no request", 1, () -> x.pass(1));
        x.pass(1);
        x.setReserve(5);
        of.due("one that has begun keeps its request", 0, () -> x.pass(1));
        of.due("and ends a slot later", 1, () -> x.pass(1));
        BackofficeAir y = Scenes.air("01:5");
        y.tell(1);
        y.frame(0, 1, 1);
        y.pass(1);
        y.setReserve(1);
        of.due("one that waits has not begun", 3, () -> Scenes.slotsOfNextSending(y, 0));
        of.says("- `parts`: 1 to 5");
        for (int i = 1; i <= 5; i++) {
            int bound = i;
            y.setReserve(bound);
            of.due("bound " + bound, bound, () -> y.setReserve(bound));
        }
        of.says("Returns the bound before.");
        BackofficeAir z = new BackofficeAir();
        of.due("at first", 5, () -> z.setReserve(2));
        of.due("then", 2, () -> z.setReserve(4));
        of.says("Throws `IllegalArgumentException` if parts is out of range");
        of.due("bound 0", Scenes.ARGUMENT, () -> z.setReserve(0));
        of.due("bound 6", Scenes.ARGUMENT, () -> z.setReserve(6));
        of.due("bound -1", Scenes.ARGUMENT, () -> z.setReserve(-1));
        of.due("the least int", Scenes.ARGUMENT, () -> z.setReserve(Integer.MIN_VALUE));
        of.due("the greatest int", Scenes.ARGUMENT, () -> z.setReserve(Integer.MAX_VALUE));
        of.due("as it was", 4, () -> z.setReserve(4));
    }

    private void tell() {
        of.in("Promise 5: tell");
        of.says("Tells a number.");
        BackofficeAir x = new BackofficeAir();
        x.tell(2);
        x.frame(0, 1, 1);
        x.pass(1);
        of.due("that is used up", 1, () -> x.waitOf(0));
        of.says("- `number`: 0 to 1000");
        BackofficeAir y = new BackofficeAir();
        of.due("number 0", 1, () -> y.tell(0));
        of.due("number 1000", 2, () -> y.tell(1000));
        of.says("Returns how many are left then.");
        of.due("the third", 3, () -> y.tell(1));
        y.frame(0, 1, 1);
        y.pass(1);
        of.due("after one is used up", 3, () -> y.tell(1));
        of.says("Throws `IllegalArgumentException` if number is out of range");
        of.due("number -1", Scenes.ARGUMENT, () -> y.tell(-1));
        of.due("number 1001", Scenes.ARGUMENT, () -> y.tell(1001));
        of.due("the least int", Scenes.ARGUMENT, () -> y.tell(Integer.MIN_VALUE));
        of.due("the greatest int", Scenes.ARGUMENT, () -> y.tell(Integer.MAX_VALUE));
        of.due("none of them is told", 3, y::numbers);
        of.says("Throws `IllegalStateException` if 200 are left");
        for (int i = 4; i <= 200; i++) {
            int left = i;
            of.due("number " + i, left, () -> y.tell(1));
        }
        of.due("200 are left", Scenes.STATE, () -> y.tell(1));
        of.due("200 are left still", 200, y::numbers);
        y.frame(1, 0, 1);
        y.pass(1);
        of.due("199 are left", 200, () -> y.tell(1));
        of.due("200 are left again", Scenes.STATE, () -> y.tell(0));
    }

    private void frame() {
        of.in("Promise 6: frame");
        of.says("Puts a frame at the end of the row of a station.");
        BackofficeAir x = Scenes.air("01:5");
        x.frame(0, 1, 1);
        x.frame(0, 1, 3);
        of.due("the first one stays the first", 1, () -> x.partsLeft(0));
        x.pass(1);
        x.frame(0, 1, 2);
        of.due("while the first is sent, too", 1, () -> x.partsLeft(0));
        x.pass(1);
        of.due("then the second", 7, () -> x.partsLeft(0));
        x.pass(6);
        of.due("then the third", 3, () -> x.partsLeft(0));
        of.says("- `goal`: another station");
        for (int i = 1; i <= 5; i++) {
            int goal = i;
            BackofficeAir y = Scenes.air("0" + goal + ":1");
            y.frame(0, goal, 1);
            y.pass(2);
            of.due("the goal " + goal, 1, () -> y.delivered(0));
        }
        of.says("- `parts`: 1 to 4");
        for (int i = 1; i <= 4; i++) {
            int parts = i;
            BackofficeAir y = new BackofficeAir();
            y.frame(5, 0, parts);
            of.due(parts + " parts", (1 << parts) - 1, () -> y.partsLeft(5));
        }
        of.says("Returns how many frames the station has then.");
        BackofficeAir z = Scenes.air("01:5");
        of.due("the first", 1, () -> z.frame(0, 1, 1));
        of.due("the second", 2, () -> z.frame(0, 1, 1));
        of.due("of another", 1, () -> z.frame(1, 2, 1));
        BackofficeAir w = Scenes.air("01:5");
        w.frame(0, 1, 1);
        w.pass(2);
        of.due("after one is done", 1, () -> w.frame(0, 1, 1));
        thrownByFrame();
    }

    private void thrownByFrame() {
        of.says("Throws `IndexOutOfBoundsException` as told, of the station or its goal");
        BackofficeAir x = Scenes.air("01:5");
        of.due("station -1", Scenes.BOUNDS, () -> x.frame(-1, 1, 1));
        of.due("station 6", Scenes.BOUNDS, () -> x.frame(6, 1, 1));
        of.due("goal -1", Scenes.BOUNDS, () -> x.frame(0, -1, 1));
        of.due("goal 6", Scenes.BOUNDS, () -> x.frame(0, 6, 1));
        of.says("Throws `IllegalArgumentException` if parts is out of range, or both are the same");
        of.due("0 parts", Scenes.ARGUMENT, () -> x.frame(0, 1, 0));
        of.due("5 parts", Scenes.ARGUMENT, () -> x.frame(0, 1, 5));
        of.due("the least int", Scenes.ARGUMENT, () -> x.frame(0, 1, Integer.MIN_VALUE));
        of.due("the greatest int", Scenes.ARGUMENT, () -> x.frame(0, 1, Integer.MAX_VALUE));
        of.due("33 parts, which a shift takes for 1", Scenes.ARGUMENT, () -> x.frame(0, 1, 33));
        for (int i = 0; i <= 5; i++) {
            int s = i;
            of.due("both are " + s, Scenes.ARGUMENT, () -> x.frame(s, s, 1));
        }
        of.due("none of them is put", 0, () -> x.frames(0));
        of.says("Throws `IllegalStateException` if it has 5");
        for (int i = 1; i <= 5; i++) {
            int count = i;
            of.due("frame " + i, count, () -> x.frame(0, 1, 1));
        }
        of.due("it has 5", Scenes.STATE, () -> x.frame(0, 1, 1));
        x.pass(1);
        of.due("it has 5 while the first is sent", Scenes.STATE, () -> x.frame(0, 1, 1));
        x.pass(1);
        of.due("it has 4 when that is done", 5, () -> x.frame(0, 1, 4));
        of.due("it has 5 again", Scenes.STATE, () -> x.frame(0, 1, 1));
        x.setStrength(0, 1, 0);
        x.pass(9);
        of.due("it has 5 ahead of the drop", Scenes.STATE, () -> x.frame(0, 1, 1));
        x.pass(1);
        of.due("it has 4 after the drop", 5, () -> x.frame(0, 1, 1));
    }

    private void pass() {
        of.in("Promise 7: pass");
        of.says("Lets slots pass.");
        BackofficeAir x = Scenes.air("01:5");
        for (int i = 0; i < 4; i++) {
            x.frame(0, 1, 4);
        }
        BackofficeAir twin = Scenes.air("01:5");
        for (int i = 0; i < 4; i++) {
            twin.frame(0, 1, 4);
        }
        x.pass(17);
        Scenes.passAll(twin, 17);
        of.due("17 slots at once or one by one", Scenes.standing(twin), () -> Scenes.standing(x));
        of.says("- `slots`: 1 to 50");
        BackofficeAir y = new BackofficeAir();
        y.pass(1);
        of.due("1 slot", 1, y::now);
        y.pass(50);
        of.due("50 slots", 51, y::now);
        of.says("Returns how many sendings end in them.");
        BackofficeAir z = Scenes.air("01:5", "23:5");
        of.due("none without frames", 0, () -> z.pass(50));
        z.frame(0, 1, 1);
        z.frame(2, 3, 2);
        z.frame(4, 5, 1);
        of.due("none in the first slot", 0, () -> z.pass(1));
        of.due("two in the second, one of them failed", 2, () -> z.pass(1));
        of.due("two in the slot 4", 2, () -> z.pass(2));
        of.due("three more of 4, the last of them is a drop", 3, () -> z.pass(50));
        z.setReserve(1);
        z.frame(4, 5, 1);
        of.due("requests that are broken", 5, () -> z.pass(5));
        z.frame(0, 1, 1);
        of.due("a request that is not broken ends nothing", 0, () -> z.pass(2));
        of.due("but its last part does", 1, () -> z.pass(1));
        of.says("Throws `IllegalArgumentException` if slots is out of range");
        of.due("0 slots", Scenes.ARGUMENT, () -> z.pass(0));
        of.due("51 slots", Scenes.ARGUMENT, () -> z.pass(51));
        of.due("-1 slots", Scenes.ARGUMENT, () -> z.pass(-1));
        of.due("the least int", Scenes.ARGUMENT, () -> z.pass(Integer.MIN_VALUE));
        of.due("the greatest int", Scenes.ARGUMENT, () -> z.pass(Integer.MAX_VALUE));
        of.due("none of them passed", 112, z::now);
    }

    private void now() {
        of.in("Promise 8: now");
        of.says("Returns now.");
        BackofficeAir x = new BackofficeAir();
        of.due("at first", 0, x::now);
        x.pass(7);
        of.due("after 7 slots", 7, x::now);
        of.due("asking lets none pass", 7, x::now);
        x.pass(50);
        of.due("after 57 slots", 57, x::now);
    }
}
