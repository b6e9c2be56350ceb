import java.util.ArrayList;
import java.util.List;

/** The sentences of "Undo", and of promise 17. */
final class UndoBounds extends Boundaries {
    private static final Story.Named UNDO = new Story.Named("undo()", OliveMill::undo);
    private static final Story.Named CLEAN = new Story.Named("clean()", OliveMill::clean);

    static void all() {
        eachUndoableCall();
        callsThatChangeNothing();
        callsThatAreNotUndoable();
        whatIsCountedSoFar();
        bufferStays();
        savedStatesStay();
        atMostSix();
        promise17();
        promise17Throws();
    }

    private static void eachUndoableCall() {
        says(TERMS, "Each method that is marked \"undoable\" and does not throw an exception saves the state from before it");
        int undone = 0;
        for (int station : Story.stations()) {
            // The oldest state is dropped by the first call, so that no later one drops another.
            List<Story.Named> calls = new ArrayList<>(List.of(CLEAN, UNDO));
            long due = Story.trace(station, calls);
            for (Story.Named call : Story.undoableCalls()) {
                OliveMill mill = Story.millAt(station);
                int saved = mill.count(12);
                boolean answers = Story.refusal(mill, call) == null;
                due("saved states after " + call.name + " at station " + station, mill.count(12),
                        answers ? Math.min(6, saved + 1) : saved);
                if (answers && !call.name.equals("addSlips()")) {
                    calls.add(call);
                    calls.add(UNDO);
                    undone++;
                }
            }
            due("trace of what was undone at station " + station, Story.trace(station, calls), due);
        }
        due("there were many of them", undone > 1000 ? 1 : 0, 1);
    }

    private static void callsThatChangeNothing() {
        says(TERMS, "(also if it changes nothing)");
        OliveMill mill = new OliveMill();
        mill.clean();
        due("clean() without a residue", mill.count(12), 1);
        mill.setYield(4, 160);
        due("setYield() to what it is", mill.count(12), 2);
        mill.set(5, 0);
        due("set() to what it is", mill.count(12), 3);
        mill.pass(1);
        due("pass() without oil", mill.count(12), 4);
        type(mill, "0a1/0");
        mill.addSlips();
        due("addSlips() without a lot", mill.count(12), 5);
        for (int left = 4; left >= 0; left--) {
            due("undo()", mill.undo(), left);
        }
        due("as a new one", mill.digest(), new OliveMill().digest());
    }

    private static void callsThatAreNotUndoable() {
        says(TERMS, "Each method that is marked \"undoable\"");
        OliveMill mill = millWith(1, 100);
        mill.append('0');
        mill.firstError();
        mill.clearBuffer();
        due("append(), firstError() and clearBuffer() save nothing", mill.count(12), 2);
        mill.undo();
        due("undo() saves nothing", mill.count(12), 1);
        mill.undo();
        notNow(mill, "an undo of undo", mill::undo);
        OliveMill looked = Story.millAt(30);
        int saved = looked.count(12);
        looked.undo();
        for (Story.Named look : Story.looks().subList(0, 100)) {
            Story.refusal(looked, look);
        }
        due("what tells of something saves nothing", looked.count(12), saved - 1);
    }

    /** A mill in which each number that is counted so far is more than 0. */
    private static OliveMill millWithCounts() {
        OliveMill mill = plainMillWith(1, 5000);
        mill.set(0, 50);
        mill.set(3, 50);
        mill.addLot(0, 0, 1000, 0, 500);
        mill.addLot(0, 0, 1000, 0, 500);
        mill.addLot(0, 1, 1000, 0, 1000);
        mill.addLot(0, 0, 100, 0, 1000);
        mill.press(0, false);
        mill.press(0, false);
        mill.press(0, false);
        mill.appeal(0);
        mill.draw(0, 0, 100);
        mill.pass(1);
        return mill;
    }

    private static void whatIsCountedSoFar() {
        says(TERMS, "all, also what is counted so far");
        OliveMill mill = millWithCounts();
        mill.undo();
        mill.pass(1);
        dueGrower("before", mill, 0, 1880, 4, 1, 100, 1, 1);
        int cleaned = mill.variety(0, 6);
        int settled = mill.variety(0, 5);
        int drawn = mill.variety(0, 4);
        int pressed = mill.variety(0, 1);
        mill.press(0, false);
        due("cleanings", mill.count(6), 2);
        due("cleaned away", mill.variety(1, 6), 50);
        mill.appeal(1);
        due("appeals", mill.count(11), 2);
        due("appeals that were lost", mill.grower(0, 5), 2);
        mill.draw(0, 0, 100);
        due("drawn", mill.grower(0, 3), 200);
        mill.pass(100);
        due("days", mill.count(7), 101);
        for (int call = 0; call < 4; call++) {
            mill.undo();
        }
        due("cleanings", mill.count(6), 1);
        due("appeals", mill.count(11), 1);
        due("days", mill.count(7), 1);
        dueGrower("as before", mill, 0, 1880, 4, 1, 100, 1, 1);
        due("cleaned away", mill.variety(0, 6), cleaned);
        due("cleaned away", mill.variety(1, 6), 0);
        due("settled", mill.variety(0, 5), settled);
        due("drawn", mill.variety(0, 4), drawn);
        due("pressed", mill.variety(0, 1), pressed);
    }

    private static void bufferStays() {
        says(TERMS, "but the buffer");
        OliveMill mill = millWith(1);
        type(mill, "0a");
        mill.addGrower();
        type(mill, "1");
        mill.undo();
        due("what was typed before and after", mill.firstError(), 3);
        due("its length", mill.clearBuffer(), 3);
        mill.undo();
        due("a buffer that was cleared stays so", mill.clearBuffer(), 0);
        OliveMill slips = millWith(1);
        type(slips, "0a1/0");
        slips.addSlips();
        type(slips, "7");
        slips.undo();
        due("what was typed after addSlips() stays", slips.clearBuffer(), 1);
        due("its lot does not", slips.count(1), 0);
    }

    private static void savedStatesStay() {
        says(TERMS, "and the saved states.");
        OliveMill mill = new OliveMill();
        mill.addGrower();
        mill.addGrower();
        due("undo", mill.undo(), 1);
        mill.addGrower();
        due("saved states", mill.count(12), 2);
        due("undo", mill.undo(), 1);
        due("growers", mill.count(0), 1);
        due("undo", mill.undo(), 0);
        due("growers", mill.count(0), 0);
    }

    /** The days tell which state it is. */
    private static void atMostSix() {
        says(TERMS, "At most 6 states are saved; the oldest one is dropped first.");
        for (int calls = 0; calls <= 20; calls++) {
            OliveMill mill = new OliveMill();
            for (int day = 1; day <= calls; day++) {
                mill.pass(1);
                due("saved states", mill.count(12), Math.min(day, 6));
            }
            int saved = Math.min(calls, 6);
            for (int left = saved - 1; left >= 0; left--) {
                due("undo after " + calls + " calls", mill.undo(), left);
                due("days", mill.count(7), calls - saved + left);
            }
            notNow(mill, "undo without saved states", mill::undo);
            mill.pass(7);
            due("one more", mill.undo(), 0);
            due("days", mill.count(7), calls - saved);
        }
        for (int undone = 1; undone <= 6; undone++) {
            OliveMill mill = new OliveMill();
            for (int round = 0; round < 5; round++) {
                for (int call = 0; call < 7; call++) {
                    mill.pass(1);
                }
                for (int call = 0; call < undone; call++) {
                    mill.undo();
                }
                due("saved states", mill.count(12), 6 - undone);
                due("days", mill.count(7), (round + 1) * (7 - undone));
            }
        }
    }

    private static void promise17() {
        says(17, "Restores the latest saved state, and drops it.");
        OliveMill mill = new OliveMill();
        long[] digests = new long[6];
        for (int call = 0; call < 6; call++) {
            digests[call] = mill.digest();
            mill.addTank(100 + call);
        }
        for (int call = 5; call >= 0; call--) {
            mill.undo();
            due("the state from before", mill.digest(), digests[call]);
        }

        says(17, "Returns how many saved states are left.");
        OliveMill full = new OliveMill();
        for (int day = 0; day < 7; day++) {
            full.pass(1);
        }
        for (int left = 5; left >= 0; left--) {
            due("undo", full.undo(), left);
            due("count(12)", full.count(12), left);
        }
    }

    private static void promise17Throws() {
        says(17, "Throws `IllegalStateException` if there is none");
        OliveMill mill = new OliveMill();
        notNow(mill, "undo of a new mill", mill::undo);
        mill.addGrower();
        due("undo", mill.undo(), 0);
        notNow(mill, "undo once more", mill::undo);
        notNow(mill, "a call that threw saved nothing", mill::undo);
        outOfRange(mill, "addTank(99)", () -> mill.addTank(99));
        notNow(mill, "a call that threw saved nothing", mill::undo);
    }
}
