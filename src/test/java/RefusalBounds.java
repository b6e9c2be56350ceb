import java.util.ArrayList;
import java.util.List;
import java.util.Set;
import java.util.TreeSet;

/** The sentences of "Exceptions", and that what would be changes nothing. */
final class RefusalBounds extends Boundaries {
    static void all() {
        refusedCallsChangeNothing();
        firstOfTwo();
        firstOfTwoOfOil();
        firstOfTwoOfLooks();
        looksChangeNothing();
    }

    private static void refusedCallsChangeNothing() {
        says(TERMS, "A call that throws an exception changes nothing.");
        Set<String> refused = new TreeSet<>();
        for (int station : Story.stations()) {
            List<Story.Named> candidates = new ArrayList<>(Story.undoableCalls());
            candidates.addAll(Story.textCalls());
            List<Story.Named> calls = new ArrayList<>();
            for (Story.Named call : candidates) {
                Class<?> kind = Story.refusal(Story.millAt(station), call);
                if (kind != null) {
                    refused.add(call.name.substring(0, call.name.indexOf('(')) + " " + kind.getSimpleName());
                    calls.add(call);
                }
            }
            due("trace of what was refused at station " + station, Story.trace(station, calls),
                    Story.trace(station, List.of()));
        }
        String[] due = {"addGrower IllegalStateException", "addLot IllegalArgumentException", "addLot IllegalStateException",
            "addLot IndexOutOfBoundsException", "addSlips IllegalArgumentException", "addTank IllegalArgumentException",
            "addTank IllegalStateException", "append IllegalArgumentException", "append IllegalStateException",
            "appeal IllegalStateException", "appeal IndexOutOfBoundsException", "draw IllegalArgumentException",
            "draw IllegalStateException", "draw IndexOutOfBoundsException", "move IllegalArgumentException",
            "move IllegalStateException", "move IndexOutOfBoundsException", "pass IllegalArgumentException",
            "press IllegalStateException", "press IndexOutOfBoundsException", "set IllegalArgumentException",
            "set IndexOutOfBoundsException", "setYield IllegalArgumentException", "setYield IndexOutOfBoundsException",
            "undo IllegalStateException"};
        dueText("what was refused", refused.toString(), new TreeSet<>(List.of(due)).toString());
    }

    private static OliveMill fullMill() {
        OliveMill mill = plainMillWith(8, 100, 100, 100, 100, 100, 100);
        for (int lot = 0; lot < 40; lot++) {
            mill.addLot(0, 0, 1, 0, 1000);
        }
        type(mill, "************************************************************");
        return mill;
    }

    private static void firstOfTwo() {
        says(TERMS, "If several exceptions apply, the one that is named first in the throws clause is thrown.");
        OliveMill full = fullMill();
        noSuch(full, "addLot: no grower, wrong kilos", () -> full.addLot(8, 0, 0, 0, 1000));
        noSuch(full, "addLot: no grower, 40 lots", () -> full.addLot(8, 0, 1, 0, 1000));
        noSuch(full, "addLot: no grower, wrong truth, 40 lots", () -> full.addLot(-1, 0, 1, 0, 0));
        outOfRange(full, "addLot: wrong variety, 40 lots", () -> full.addLot(0, 5, 1, 0, 1000));
        outOfRange(full, "addTank: wrong size, 6 tanks", () -> full.addTank(20001));
        outOfRange(full, "append: wrong code, 60 characters", () -> full.append(127));
        noSuch(full, "setYield: no variety, wrong value", () -> full.setYield(5, 0));
        noSuch(full, "set: no setting, wrong value", () -> full.set(7, -1));
        OliveMill none = new OliveMill();
        noSuch(none, "press: no tank, no lot waits", () -> none.press(0, false));
        noSuch(none, "addLot: no grower, wrong acidity", () -> none.addLot(0, 0, 1, 51, 1000));
        OliveMill lots = plainMillWith(1);
        lots.addLot(0, 0, 1, 0, 1000);
        noSuch(lots, "press: no tank", () -> lots.press(0, true));
        noSuch(lots, "appeal: no lot, and the other waits", () -> lots.appeal(1));
    }

    private static void firstOfTwoOfOil() {
        says(TERMS, "the one that is named first in the throws clause is thrown.");
        OliveMill mill = plainMillWith(1, 100, 100);
        noSuch(mill, "draw: no grower, no tank, wrong oil", () -> mill.draw(1, 2, 0));
        noSuch(mill, "draw: no grower, wrong oil", () -> mill.draw(1, 0, 0));
        noSuch(mill, "draw: no grower, an empty tank", () -> mill.draw(1, 0, 1));
        noSuch(mill, "draw: no tank, wrong oil", () -> mill.draw(0, 2, 20001));
        noSuch(mill, "draw: no tank, an empty account", () -> mill.draw(0, -1, 1));
        outOfRange(mill, "draw: wrong oil, an empty account", () -> mill.draw(0, 0, 0));
        outOfRange(mill, "draw: wrong oil, an empty tank", () -> mill.draw(0, 0, 20001));
        noSuch(mill, "move: no such tank, twice the same", () -> mill.move(2, 2, 1, true));
        noSuch(mill, "move: no first tank, wrong oil", () -> mill.move(2, 0, 0, true));
        noSuch(mill, "move: no second tank, an empty one", () -> mill.move(0, 2, 1, true));
        outOfRange(mill, "move: twice the same, an empty tank", () -> mill.move(0, 0, 1, true));
        outOfRange(mill, "move: twice the same, wrong oil", () -> mill.move(0, 0, 0, true));
        outOfRange(mill, "move: wrong oil, an empty tank", () -> mill.move(0, 1, 20001, true));
    }

    private static void firstOfTwoOfLooks() {
        says(TERMS, "named first in the throws clause");
        OliveMill mill = plainMillWith(1, 100);
        mill.addLot(0, 0, 1, 0, 1000);
        noSuch(mill, "grower: no grower, wrong what", () -> mill.grower(1, 6));
        noSuch(mill, "lot: no lot, wrong what", () -> mill.lot(1, 11));
        noSuch(mill, "tank: no tank, wrong what", () -> mill.tank(1, 3));
        noSuch(mill, "variety: no variety, wrong what", () -> mill.variety(5, 8));
        noSuch(mill, "taken: no tank, wrong oil", () -> mill.taken(1, 0, 0));
        noSuch(mill, "taken: no tank, wrong variety", () -> mill.taken(1, 1, 5));
        noSuch(mill, "taken: no tank, both wrong", () -> mill.taken(-1, 20001, -1));
        noSuch(mill, "oilIn: no tank, wrong days", () -> mill.oilIn(1, 201));
    }

    private static void looksChangeNothing() {
        says(TERMS, "what would be; nothing is changed.");
        List<Story.Named> looks = Story.looks();
        for (int station : Story.stations()) {
            long due = Story.trace(station, List.of());
            for (int from = 0; from < looks.size(); from += 120) {
                List<Story.Named> some = looks.subList(from, Math.min(from + 120, looks.size()));
                due("trace of looks at station " + station, Story.trace(station, some), due);
            }
        }
    }
}
