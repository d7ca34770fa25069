/** At least one test for each promise of the document: ordinary inputs, edges and wrong inputs. */
public final class PromisesTest {
    private static final String BOUNDS = "IndexOutOfBoundsException";
    private static final String ARGUMENT = "IllegalArgumentException";
    private static final String STATE = "IllegalStateException";
    private static final int[] NO_STATIONS = {-1, 6, 7, Integer.MIN_VALUE, Integer.MAX_VALUE};

    private static final Checks checks = new Checks();

    public static void main(String[] args) {
        promise1NewObject();
        promise2SetStrength();
        promise3SetClass();
        promise4SetReserve();
        promise5Tell();
        promise5NumbersAreUsedInTheirOrder();
        promise6Frame();
        promise7Pass();
        promise8Now();
        promise9Sends();
        promise10WaitOf();
        promise10WaitIsTheRestByWindowAnd1();
        promise10WaitFreezes();
        promise11Window();
        promise12Failures();
        promise12FailuresStayWithTheStation();
        promise13SilencedTo();
        promise13AllStationsAreSilenced();
        promise13SilencedLongerStaysSo();
        promise13SilencedStationsWait();
        promise14Frames();
        promise15PartsLeft();
        promise15PartsThatWereBrokenAreLeft();
        promise15LowestPartFirst();
        promise16Delivered();
        promise16Capture();
        promise16OneBrokenSlotBreaksThePart();
        promise16GoalThatSends();
        promise17Dropped();
        promise18And19Airtime();
        promise20Numbers();
        stationsThatAreNone();
        callsThatThrowChangeNothing();
        checks.close("PromisesTest");
    }

    private static BackofficeAir pair(int strength) {
        BackofficeAir x = new BackofficeAir();
        x.setStrength(0, 1, strength);
        return x;
    }

    private static void tellAll(BackofficeAir x, int... numbers) {
        for (int number : numbers) {
            x.tell(number);
        }
    }

    private static void promise1NewObject() {
        BackofficeAir x = new BackofficeAir();
        checks.due("NONE", -1, () -> BackofficeAir.NONE);
        checks.due("new: now", 0, x::now);
        checks.due("new: numbers", 0, x::numbers);
        for (int i = 0; i < 6; i++) {
            int s = i;
            checks.due("new: sends", false, () -> x.sends(s));
            checks.due("new: waitOf", -1, () -> x.waitOf(s));
            checks.due("new: window", 3, () -> x.window(s));
            checks.due("new: failures", 0, () -> x.failures(s));
            checks.due("new: silencedTo", 0, () -> x.silencedTo(s));
            checks.due("new: frames", 0, () -> x.frames(s));
            checks.due("new: partsLeft", 0, () -> x.partsLeft(s));
            checks.due("new: delivered", 0, () -> x.delivered(s));
            checks.due("new: dropped", 0, () -> x.dropped(s));
            checks.due("new: airtime", 0, () -> x.airtime(s));
            checks.due("new: airtimeBySendings", 0, () -> x.airtimeBySendings(s));
        }
        for (int i = 0; i < 36; i++) {
            int one = i / 6;
            int other = i % 6;
            if (one != other) {
                checks.due("new: nobody hears anybody", 0, () -> x.setStrength(one, other, 0));
            }
        }
        BackofficeAir y = new BackofficeAir();
        x.setStrength(0, 1, 9);
        checks.due("objects are their own", 0, () -> y.setStrength(0, 1, 1));
    }

    private static void promise2SetStrength() {
        BackofficeAir x = new BackofficeAir();
        checks.due("the first strength", 0, () -> x.setStrength(2, 5, 9));
        checks.due("strength is for both", 9, () -> x.setStrength(5, 2, 0));
        checks.due("strength 0", 0, () -> x.setStrength(2, 5, 4));
        checks.due("others are not changed", 0, () -> x.setStrength(2, 4, 1));
        checks.due("strength -1", ARGUMENT, () -> x.setStrength(2, 5, -1));
        checks.due("strength 10", ARGUMENT, () -> x.setStrength(2, 5, 10));
        checks.due("both the same", ARGUMENT, () -> x.setStrength(3, 3, 4));
        checks.due("no such station first", BOUNDS, () -> x.setStrength(6, 6, 10));
        checks.due("no such other first", BOUNDS, () -> x.setStrength(0, 6, 10));
        checks.due("thrown calls changed nothing", 4, () -> x.setStrength(2, 5, 4));
    }

    private static void promise3SetClass() {
        BackofficeAir x = pair(5);
        checks.due("the first class", 0, () -> x.setClass(0, 1));
        checks.due("the window of class 1", 7, () -> x.window(0));
        checks.due("the window of another", 3, () -> x.window(1));
        checks.due("the class before", 1, () -> x.setClass(0, 1));
        checks.due("the class before again", 1, () -> x.setClass(0, 0));
        checks.due("the window of class 0", 3, () -> x.window(0));
        checks.due("class 2", ARGUMENT, () -> x.setClass(0, 2));
        checks.due("class -1", ARGUMENT, () -> x.setClass(0, -1));
        checks.due("no such station first", BOUNDS, () -> x.setClass(6, 2));
        x.frame(0, 2, 1);
        x.pass(2);
        checks.due("a window that grew", 7, () -> x.window(0));
        checks.due("the same class again", 0, () -> x.setClass(0, 0));
        checks.due("is the least window again", 3, () -> x.window(0));
        checks.due("failures stay", 1, () -> x.failures(0));
        x.setClass(0, 1);
        x.tell(7);
        x.pass(1);
        checks.due("the rest is by the window and 1", 6, () -> x.waitOf(0));
        x.setClass(0, 0);
        checks.due("the wait stays", 6, () -> x.waitOf(0));
    }

    private static void promise4SetReserve() {
        BackofficeAir x = pair(5);
        checks.due("the bound at first", 5, () -> x.setReserve(1));
        checks.due("the bound before", 1, () -> x.setReserve(5));
        checks.due("bound 0", ARGUMENT, () -> x.setReserve(0));
        checks.due("bound 6", ARGUMENT, () -> x.setReserve(6));
        x.frame(0, 1, 4);
        x.pass(8);
        checks.due("4 parts below the bound 5: no request", 8, () -> x.airtime(0));
        checks.due("4 parts below the bound 5: done", 0, () -> x.frames(0));
        checks.due("the bound is still 5", 5, () -> x.setReserve(4));
        x.frame(0, 1, 4);
        checks.due("as many parts as the bound: request", 0, () -> x.pass(8));
        checks.due("as many parts as the bound: last slot", 1, () -> x.pass(1));
        x.frame(0, 1, 3);
        checks.due("less parts than the bound: no request", 1, () -> x.pass(6));
        x.frame(0, 1, 2);
        x.pass(1);
        x.setReserve(1);
        checks.due("a sending that has begun has no request", 1, () -> x.pass(3));
        x.frame(0, 1, 1);
        x.pass(1);
        x.setReserve(5);
        checks.due("a sending that has begun keeps its request", 0, () -> x.pass(1));
        checks.due("and ends with its part", 1, () -> x.pass(1));
    }

    private static void promise5Tell() {
        BackofficeAir x = pair(5);
        checks.due("number -1", ARGUMENT, () -> x.tell(-1));
        checks.due("number 1001", ARGUMENT, () -> x.tell(1001));
        checks.due("number 0", 1, () -> x.tell(0));
        checks.due("number 1000", 2, () -> x.tell(1000));
        for (int i = 3; i <= 200; i++) {
            int left = i;
            checks.due("number " + i, left, () -> x.tell(left));
        }
        checks.due("200 are left", STATE, () -> x.tell(0));
        checks.due("the argument first", ARGUMENT, () -> x.tell(1001));
        checks.due("still 200", 200, x::numbers);
        x.frame(0, 1, 1);
        x.pass(1);
        checks.due("one is used up", 200, () -> x.tell(3));
        checks.due("200 are left again", STATE, () -> x.tell(3));
    }

    /** Nobody hears anybody: each frame uses up five numbers in ten slots, until it is dropped. */
    private static void promise5NumbersAreUsedInTheirOrder() {
        BackofficeAir x = new BackofficeAir();
        for (int i = 0; i < 200; i++) {
            x.tell(0);
        }
        for (int i = 0; i < 30; i++) {
            x.frame(i % 6, (i + 1) % 6, 1);
        }
        x.pass(50);
        checks.due("150 numbers are used up", 50, x::numbers);
        for (int i = 0; i < 6; i++) {
            int number = 6 - i;
            checks.due("told behind those left", 51 + i, () -> x.tell(number));
        }
        for (int i = 0; i < 10; i++) {
            x.frame(i % 5, 5, 1);
        }
        x.pass(20);
        checks.due("the other zeros are used up", 6, x::numbers);
        for (int i = 0; i < 6; i++) {
            x.setClass(i, 1);
            x.frame(i, (i + 1) % 6, 1);
        }
        x.pass(1);
        for (int i = 0; i < 6; i++) {
            int s = i;
            checks.due("a wait by a number told later", 5 - s, () -> x.waitOf(s));
        }
        checks.due("none is left", 0, x::numbers);
    }

    private static void promise6Frame() {
        BackofficeAir x = pair(5);
        for (int i = 1; i <= 5; i++) {
            int want = i;
            checks.due("frame " + i, want, () -> x.frame(0, 1, want % 4 + 1));
        }
        checks.due("a sixth frame", STATE, () -> x.frame(0, 1, 1));
        checks.due("parts before state", ARGUMENT, () -> x.frame(0, 1, 5));
        checks.due("same before state", ARGUMENT, () -> x.frame(0, 0, 1));
        checks.due("goal before state", BOUNDS, () -> x.frame(0, 6, 0));
        checks.due("another has its own row", 1, () -> x.frame(1, 0, 4));
        checks.due("parts 0", ARGUMENT, () -> x.frame(1, 0, 0));
        checks.due("parts 5", ARGUMENT, () -> x.frame(1, 0, 5));
        checks.due("both the same", ARGUMENT, () -> x.frame(1, 1, 1));
        checks.due("no such station", BOUNDS, () -> x.frame(-1, 0, 1));
        checks.due("no such goal", BOUNDS, () -> x.frame(0, -1, 1));
        checks.due("the row is as it was", 5, () -> x.frames(0));
        checks.due("the first frame is as it was", 3, () -> x.partsLeft(0));
    }

    private static void promise7Pass() {
        BackofficeAir x = pair(5);
        checks.due("pass 0", ARGUMENT, () -> x.pass(0));
        checks.due("pass 51", ARGUMENT, () -> x.pass(51));
        checks.due("pass -1", ARGUMENT, () -> x.pass(-1));
        checks.due("nothing sends", 0, () -> x.pass(50));
        x.frame(0, 1, 1);
        x.frame(0, 1, 1);
        x.frame(0, 1, 2);
        checks.due("before the first end", 0, () -> x.pass(1));
        checks.due("the first ends", 1, () -> x.pass(1));
        checks.due("the others end", 2, () -> x.pass(6));
        x.setReserve(1);
        x.frame(0, 2, 1);
        checks.due("failed sendings end, too", 5, () -> x.pass(5));
        checks.due("and then no more", 0, () -> x.pass(50));
    }

    private static void promise8Now() {
        BackofficeAir x = new BackofficeAir();
        checks.due("slot 0", 0, x::now);
        x.pass(1);
        checks.due("slot 1", 1, x::now);
        x.pass(50);
        checks.due("slot 51", 51, x::now);
        Checks.answerOf(() -> x.pass(51));
        checks.due("slot 51 still", 51, x::now);
    }

    private static void promise9Sends() {
        BackofficeAir x = pair(5);
        x.tell(1);
        x.frame(0, 1, 1);
        checks.due("not before a slot passed", false, () -> x.sends(0));
        x.pass(1);
        checks.due("it waits", false, () -> x.sends(0));
        x.pass(1);
        checks.due("it sends", true, () -> x.sends(0));
        checks.due("its goal does not", false, () -> x.sends(1));
        x.pass(1);
        checks.due("it has ended", false, () -> x.sends(0));
    }

    private static void promise10WaitOf() {
        BackofficeAir x = pair(5);
        tellAll(x, 1000, 3, 2);
        x.frame(0, 1, 1);
        x.frame(3, 1, 1);
        checks.due("none before a slot passed", -1, () -> x.waitOf(0));
        x.pass(1);
        checks.due("the rest of 1000 by 4 is 0: it began", -1, () -> x.waitOf(0));
        checks.due("it sends", true, () -> x.sends(0));
        checks.due("3, less 1", 2, () -> x.waitOf(3));
        checks.due("none without a frame", -1, () -> x.waitOf(1));
        x.pass(1);
        checks.due("2, less 1", 1, () -> x.waitOf(3));
        x.pass(1);
        checks.due("down to 0", 0, () -> x.waitOf(3));
        checks.due("0 is not yet sending", false, () -> x.sends(3));
        x.pass(1);
        checks.due("none when it begins", -1, () -> x.waitOf(3));
        checks.due("begins at 0", true, () -> x.sends(3));
        x.pass(1);
        checks.due("none in the slot of its end", -1, () -> x.waitOf(3));
        x.pass(1);
        checks.due("a new number after a failure", 1, () -> x.waitOf(3));
        checks.due("all are used up", 0, x::numbers);
    }

    private static void promise10WaitIsTheRestByWindowAnd1() {
        for (int i = 0; i <= 1000; i++) {
            int number = i;
            int rest = number % 4;
            int restOfClass1 = number % 8;
            checks.due("number " + number, rest == 0 ? -1 : rest - 1, () -> firstWait(0, number));
            checks.due("number " + number, restOfClass1 == 0 ? -1 : restOfClass1 - 1, () -> firstWait(1, number));
        }
    }

    private static int firstWait(int itsClass, int number) {
        BackofficeAir x = pair(5);
        x.setClass(0, itsClass);
        x.tell(number);
        x.frame(0, 1, 1);
        x.pass(1);
        return x.waitOf(0);
    }

    private static void promise10WaitFreezes() {
        BackofficeAir x = pair(5);
        x.setStrength(0, 2, 1);
        tellAll(x, 0, 2);
        x.frame(0, 1, 1);
        x.frame(2, 0, 1);
        x.pass(1);
        checks.due("nobody sent in slot 0: the wait goes on", 1, () -> x.waitOf(2));
        x.pass(1);
        checks.due("heard in the slot before: it freezes", 1, () -> x.waitOf(2));
        x.pass(1);
        checks.due("the last slot of a sending counts", 1, () -> x.waitOf(2));
        x.pass(1);
        checks.due("then it goes on", 0, () -> x.waitOf(2));
        x.frame(1, 0, 2);
        x.frame(4, 5, 1);
        x.tell(0);
        x.tell(1);
        x.pass(1);
        checks.due("0 begins, for it heard nobody", true, () -> x.sends(2));
        checks.due("whom it does not hear does not stop it", 0, () -> x.waitOf(4));
        x.pass(1);
        checks.due("begins at wait 0", true, () -> x.sends(4));
        BackofficeAir y = pair(5);
        y.frame(0, 1, 2);
        y.pass(1);
        y.frame(1, 0, 1);
        y.tell(2);
        y.pass(1);
        checks.due("a number is used up though it hears", 0, y::numbers);
        checks.due("frozen at once", 2, () -> y.waitOf(1));
        y.setStrength(0, 1, 0);
        y.pass(1);
        checks.due("heard no more", 1, () -> y.waitOf(1));
    }

    private static void promise11Window() {
        BackofficeAir x = pair(5);
        x.frame(0, 2, 1);
        int[] windows = {7, 15, 31, 31, 3};
        for (int window : windows) {
            x.pass(2);
            checks.due("class 0 after a failure", window, () -> x.window(0));
        }
        x.setClass(0, 1);
        x.frame(0, 2, 1);
        int[] windowsOfClass1 = {15, 31, 31, 31, 7};
        for (int window : windowsOfClass1) {
            x.pass(2);
            checks.due("class 1 after a failure", window, () -> x.window(0));
        }
        x.frame(0, 2, 1);
        x.pass(4);
        x.setStrength(0, 2, 5);
        checks.due("grown", 31, () -> x.window(0));
        x.pass(2);
        checks.due("least after a delivery", 7, () -> x.window(0));
        checks.due("delivered", 1, () -> x.delivered(0));
        BackofficeAir y = pair(5);
        y.frame(0, 2, 1);
        y.pass(2);
        tellAll(y, 7);
        y.pass(1);
        checks.due("the rest is by 7 and 1", 6, () -> y.waitOf(0));
    }

    private static void promise12Failures() {
        BackofficeAir x = pair(5);
        x.frame(0, 2, 1);
        for (int i = 1; i <= 4; i++) {
            x.pass(2);
            int want = i;
            checks.due("failures", want, () -> x.failures(0));
        }
        x.pass(2);
        checks.due("failures after a drop", 0, () -> x.failures(0));
        x.frame(0, 2, 1);
        x.pass(2);
        checks.due("one failure", 1, () -> x.failures(0));
        x.setStrength(0, 2, 1);
        x.pass(2);
        checks.due("failures after a delivery", 0, () -> x.failures(0));
        x.setReserve(1);
        x.setStrength(0, 2, 0);
        x.frame(0, 2, 1);
        x.pass(1);
        checks.due("a broken request is a failure", 1, () -> x.failures(0));
        checks.due("and ends the sending", false, () -> x.sends(0));
        x.setStrength(0, 2, 1);
        x.pass(3);
        checks.due("the next request is a new one", 0, () -> x.failures(0));
        checks.due("and its part arrives", 2, () -> x.delivered(0));
    }

    private static void promise12FailuresStayWithTheStation() {
        BackofficeAir x = new BackofficeAir();
        x.setStrength(0, 1, 5);
        x.setStrength(1, 2, 5);
        x.frame(0, 1, 2);
        x.pass(2);
        x.frame(2, 1, 1);
        x.pass(2);
        checks.due("one of two parts arrived: not failed", 0, () -> x.failures(0));
        checks.due("window is least", 3, () -> x.window(0));
        checks.due("the frame stays", 1, () -> x.frames(0));
        checks.due("the other failed", 1, () -> x.failures(2));
    }

    private static void promise13SilencedTo() {
        BackofficeAir x = new BackofficeAir();
        x.setStrength(0, 1, 5);
        x.setStrength(1, 2, 1);
        x.setStrength(0, 3, 5);
        x.setReserve(2);
        x.pass(10);
        x.frame(0, 1, 2);
        x.pass(1);
        checks.due("who hears the goal", 15, () -> x.silencedTo(2));
        checks.due("the goal is not", 0, () -> x.silencedTo(1));
        checks.due("the sender is not", 0, () -> x.silencedTo(0));
        checks.due("who hears the sender alone is not", 0, () -> x.silencedTo(3));
        checks.due("the sending lasts", 0, () -> x.pass(3));
        checks.due("up to there", 1, () -> x.pass(1));
        checks.due("it stays told", 15, () -> x.silencedTo(2));
        x.frame(0, 1, 1);
        x.pass(2);
        checks.due("without a request nobody is silenced", 15, () -> x.silencedTo(2));
        x.frame(4, 1, 2);
        x.pass(1);
        checks.due("nor by a broken request", 15, () -> x.silencedTo(2));
        checks.due("that failed", 1, () -> x.failures(4));
    }

    private static void promise13AllStationsAreSilenced() {
        for (int i = 0; i < 36; i++) {
            int sender = i / 6;
            int goal = i % 6;
            if (sender == goal) {
                continue;
            }
            BackofficeAir x = new BackofficeAir();
            x.setReserve(1);
            for (int one = 0; one < 6; one++) {
                if (one != goal) {
                    x.setStrength(goal, one, 1);
                }
            }
            x.frame(sender, goal, 1);
            x.pass(1);
            for (int one = 0; one < 6; one++) {
                int s = one;
                checks.due("silenced", s == sender || s == goal ? 0 : 3, () -> x.silencedTo(s));
            }
        }
    }

    private static void promise13SilencedLongerStaysSo() {
        BackofficeAir x = new BackofficeAir();
        x.setStrength(0, 1, 5);
        x.setStrength(1, 2, 5);
        x.setStrength(3, 4, 5);
        x.setStrength(2, 4, 5);
        x.setReserve(1);
        x.frame(0, 1, 4);
        x.tell(0);
        x.tell(1);
        x.frame(3, 4, 1);
        x.pass(1);
        checks.due("by the long sending", 9, () -> x.silencedTo(2));
        x.pass(1);
        checks.due("the short one begins later", true, () -> x.sends(3));
        checks.due("and does not shorten it", 9, () -> x.silencedTo(2));
    }

    private static void promise13SilencedStationsWait() {
        BackofficeAir x = new BackofficeAir();
        x.setStrength(0, 1, 5);
        x.setStrength(1, 2, 5);
        x.setReserve(2);
        tellAll(x, 0, 1);
        x.frame(0, 1, 2);
        x.frame(2, 1, 1);
        x.pass(1);
        checks.due("silenced from the next slot on", 0, () -> x.waitOf(2));
        x.pass(4);
        checks.due("silenced to the last slot", 0, () -> x.waitOf(2));
        checks.due("all arrived", 2, () -> x.delivered(0));
        x.pass(1);
        checks.due("then it sends", true, () -> x.sends(2));
        BackofficeAir y = new BackofficeAir();
        y.setStrength(0, 1, 9);
        y.setStrength(1, 2, 3);
        y.setReserve(2);
        y.frame(0, 1, 2);
        y.frame(2, 1, 1);
        y.pass(1);
        checks.due("silenced while it sends", 5, () -> y.silencedTo(2));
        checks.due("who sends goes on", 1, () -> y.pass(1));
        y.pass(1);
        checks.due("the number of one silenced is used up", 0, () -> y.waitOf(2));
    }

    private static void promise14Frames() {
        BackofficeAir x = pair(5);
        x.frame(0, 1, 1);
        x.frame(0, 2, 1);
        checks.due("two frames", 2, () -> x.frames(0));
        x.pass(1);
        checks.due("still there while it is sent", 2, () -> x.frames(0));
        x.pass(1);
        checks.due("the first is done", 1, () -> x.frames(0));
        x.pass(8);
        checks.due("not dropped before the fifth failure", 1, () -> x.frames(0));
        x.pass(2);
        checks.due("the second is dropped", 0, () -> x.frames(0));
        x.frame(0, 1, 1);
        x.pass(2);
        checks.due("a frame after them is sent to its own goal", 2, () -> x.delivered(0));
    }

    private static void promise15PartsLeft() {
        for (int i = 1; i <= 4; i++) {
            int parts = i;
            BackofficeAir x = new BackofficeAir();
            x.frame(5, 0, parts);
            checks.due(parts + " parts", (1 << parts) - 1, () -> x.partsLeft(5));
        }
        BackofficeAir y = pair(5);
        y.frame(0, 1, 4);
        y.frame(0, 1, 2);
        checks.due("of the first frame alone", 15, () -> y.partsLeft(0));
        y.pass(7);
        checks.due("none is taken away while it sends", 15, () -> y.partsLeft(0));
        y.pass(1);
        checks.due("the next frame is the first", 3, () -> y.partsLeft(0));
        y.pass(4);
        checks.due("0 without frames", 0, () -> y.partsLeft(0));
        y.frame(0, 2, 3);
        y.pass(29);
        checks.due("all are left before the fifth failure", 7, () -> y.partsLeft(0));
        y.pass(1);
        checks.due("0 after a drop", 0, () -> y.partsLeft(0));
    }

    private static void promise15PartsThatWereBrokenAreLeft() {
        BackofficeAir x = pair(5);
        x.setStrength(1, 2, 5);
        x.frame(0, 1, 4);
        x.pass(2);
        x.frame(2, 1, 1);
        x.pass(2);
        x.tell(7);
        x.pass(4);
        checks.due("the second part met another sending", 2, () -> x.partsLeft(0));
        checks.due("three arrived", 3, () -> x.delivered(0));
        x.setStrength(1, 2, 0);
        checks.due("the rest takes 2 slots", 1, () -> x.pass(2));
        checks.due("nothing is left", 0, () -> x.partsLeft(0));
        checks.due("all arrived", 4, () -> x.delivered(0));
        checks.due("in 10 slots", 10, () -> x.airtime(0));
    }

    private static void promise15LowestPartFirst() {
        BackofficeAir x = pair(5);
        x.frame(0, 1, 4);
        breakSlots(x, 8, 1, 6);
        checks.due("the parts 0 and 2 were broken", 5, () -> x.partsLeft(0));
        breakSlots(x, 4, 4);
        checks.due("the part 2 was broken again", 4, () -> x.partsLeft(0));
        x.frame(0, 1, 4);
        x.pass(2);
        checks.due("then the next frame", 15, () -> x.partsLeft(0));
        breakSlots(x, 8, 2, 3, 7);
        checks.due("the part 2 alone arrived", 11, () -> x.partsLeft(0));
        breakSlots(x, 6, 3);
        checks.due("the part 1 is left", 2, () -> x.partsLeft(0));
    }

    /** Passes slots one by one; in those told the station 1 does not hear 0. */
    private static void breakSlots(BackofficeAir x, int slots, int... broken) {
        for (int slot = 1; slot <= slots; slot++) {
            x.setStrength(0, 1, 5);
            for (int one : broken) {
                if (one == slot) {
                    x.setStrength(0, 1, 0);
                }
            }
            x.pass(1);
        }
        x.setStrength(0, 1, 5);
    }

    private static void promise16Delivered() {
        BackofficeAir x = pair(1);
        x.frame(0, 1, 3);
        x.pass(5);
        checks.due("not before the end", 0, () -> x.delivered(0));
        x.pass(1);
        checks.due("three parts", 3, () -> x.delivered(0));
        checks.due("of the sender, not of the goal", 0, () -> x.delivered(1));
        x.frame(0, 1, 4);
        x.pass(8);
        checks.due("in all", 7, () -> x.delivered(0));
    }

    /** Station 0 sends to 1 while 2 sends to 3 without hearing 0; 1 hears 2 at another strength. */
    private static int deliveredBeside(int own, int other) {
        BackofficeAir x = new BackofficeAir();
        x.setStrength(0, 1, own);
        x.setStrength(1, 2, other);
        x.frame(0, 1, 1);
        x.frame(2, 3, 1);
        x.pass(2);
        return x.delivered(0);
    }

    private static void promise16Capture() {
        for (int own = 0; own <= 9; own++) {
            for (int other = 0; other <= 9; other++) {
                int a = own;
                int b = other;
                boolean arrives = a > 0 && (b == 0 || a - b >= 3);
                checks.due("strength " + a + " beside " + b, arrives ? 1 : 0, () -> deliveredBeside(a, b));
            }
        }
    }

    private static void promise16OneBrokenSlotBreaksThePart() {
        for (int i = 0; i <= 4; i++) {
            int start = i;
            BackofficeAir x = pair(5);
            x.frame(0, 1, 2);
            breakSlots(x, 4, start);
            checks.due("broken in slot " + start, start == 0 ? 2 : 1, () -> x.delivered(0));
            checks.due("left by slot " + start, start == 0 ? 0 : start <= 2 ? 1 : 2, () -> x.partsLeft(0));
        }
        BackofficeAir y = pair(5);
        y.setReserve(2);
        y.frame(0, 1, 2);
        breakSlots(y, 5, 3);
        checks.due("after a request the first part has slots 2 and 3", 1, () -> y.partsLeft(0));
    }

    private static void promise16GoalThatSends() {
        BackofficeAir x = pair(9);
        x.frame(0, 1, 1);
        x.frame(1, 0, 1);
        checks.due("both begin at once", 2, () -> x.pass(2));
        checks.due("neither arrives", 0, () -> x.delivered(0) + x.delivered(1));
        checks.due("both failed", 2, () -> x.failures(0) + x.failures(1));
        BackofficeAir y = pair(9);
        y.frame(0, 1, 1);
        y.frame(1, 2, 1);
        y.pass(2);
        checks.due("the goal sends to another", 0, () -> y.delivered(0));
    }

    private static void promise17Dropped() {
        BackofficeAir x = pair(5);
        x.frame(0, 2, 1);
        x.frame(0, 2, 2);
        x.pass(9);
        checks.due("not yet", 0, () -> x.dropped(0));
        x.pass(1);
        checks.due("at the fifth failure", 1, () -> x.dropped(0));
        checks.due("the next is the first now", 3, () -> x.partsLeft(0));
        x.pass(20);
        checks.due("and the second", 2, () -> x.dropped(0));
        x.frame(0, 1, 1);
        x.pass(2);
        checks.due("one that is done is not dropped", 2, () -> x.dropped(0));
        checks.due("of another none", 0, () -> x.dropped(2));
    }

    private static void promise18And19Airtime() {
        BackofficeAir x = pair(5);
        x.setReserve(2);
        x.frame(0, 1, 2);
        for (int i = 1; i <= 7; i++) {
            x.pass(1);
            int want = Math.min(i, 5);
            checks.due("airtime", want, () -> x.airtime(0));
            checks.due("airtimeBySendings", want, () -> x.airtimeBySendings(0));
        }
        checks.due("the goal did not send", 0, () -> x.airtime(1) + x.airtimeBySendings(1));
        x.frame(0, 2, 2);
        x.pass(5);
        checks.due("five broken requests", 10, () -> x.airtime(0));
        checks.due("five broken requests, by sendings", 10, () -> x.airtimeBySendings(0));
        x.frame(0, 1, 1);
        x.tell(3);
        x.pass(4);
        checks.due("one slot after a wait", 11, () -> x.airtime(0));
        checks.due("one slot after a wait, by sendings", 11, () -> x.airtimeBySendings(0));
    }

    private static void promise20Numbers() {
        BackofficeAir x = pair(5);
        tellAll(x, 0, 1, 2);
        checks.due("three", 3, x::numbers);
        x.pass(5);
        checks.due("none is used up without frames", 3, x::numbers);
        x.frame(0, 1, 1);
        checks.due("none is used up by a frame", 3, x::numbers);
        x.pass(1);
        checks.due("one is used up by a slot", 2, x::numbers);
        x.pass(5);
        checks.due("none is used up after the frame", 2, x::numbers);
        x.frame(3, 4, 1);
        x.frame(2, 4, 1);
        x.pass(1);
        checks.due("by their numbers: 2", 0, () -> x.waitOf(2));
        checks.due("by their numbers: 3", 1, () -> x.waitOf(3));
        checks.due("none is left", 0, x::numbers);
        x.frame(5, 0, 1);
        x.pass(1);
        checks.due("then it is 0", true, () -> x.sends(5));
        checks.due("not below none", 0, x::numbers);
    }

    private static void stationsThatAreNone() {
        BackofficeAir x = new BackofficeAir();
        for (int station : NO_STATIONS) {
            checks.due("setStrength", BOUNDS, () -> x.setStrength(station, 0, 1));
            checks.due("setStrength of other", BOUNDS, () -> x.setStrength(0, station, 1));
            checks.due("setClass", BOUNDS, () -> x.setClass(station, 0));
            checks.due("frame", BOUNDS, () -> x.frame(station, 0, 1));
            checks.due("frame of goal", BOUNDS, () -> x.frame(0, station, 1));
            checks.due("sends", BOUNDS, () -> x.sends(station));
            checks.due("waitOf", BOUNDS, () -> x.waitOf(station));
            checks.due("window", BOUNDS, () -> x.window(station));
            checks.due("failures", BOUNDS, () -> x.failures(station));
            checks.due("silencedTo", BOUNDS, () -> x.silencedTo(station));
            checks.due("frames", BOUNDS, () -> x.frames(station));
            checks.due("partsLeft", BOUNDS, () -> x.partsLeft(station));
            checks.due("delivered", BOUNDS, () -> x.delivered(station));
            checks.due("dropped", BOUNDS, () -> x.dropped(station));
            checks.due("airtime", BOUNDS, () -> x.airtime(station));
            checks.due("airtimeBySendings", BOUNDS, () -> x.airtimeBySendings(station));
        }
    }

    private static void callsThatThrowChangeNothing() {
        BackofficeAir x = pair(5);
        x.setClass(0, 1);
        Checks.answerOf(() -> x.setClass(0, 2));
        Checks.answerOf(() -> x.setReserve(0));
        Checks.answerOf(() -> x.tell(1001));
        Checks.answerOf(() -> x.frame(0, 1, 5));
        Checks.answerOf(() -> x.frame(0, 0, 1));
        Checks.answerOf(() -> x.pass(0));
        checks.due("the class", 1, () -> x.setClass(0, 1));
        checks.due("the reserve bound", 5, () -> x.setReserve(5));
        checks.due("the numbers", 0, x::numbers);
        checks.due("the frames", 0, () -> x.frames(0));
        checks.due("now", 0, x::now);
    }
}
