import java.util.ArrayList;
import java.util.List;

/** Mills on their way from new to full, and calls to be made on each of them; what a call leaves behind is told by a trace. */
final class Story {
    interface Step {
        long on(OliveMill mill);
    }

    static final class Named {
        final String name;
        final Step step;

        Named(String name, Step step) {
            this.name = name;
            this.step = step;
        }
    }

    private static final int[] AROUND = {-1, 0, 1, 7, 8, Integer.MAX_VALUE, Integer.MIN_VALUE};

    /** The steps of the longest way; each mill on it is made by a first part of them. */
    private static final List<Step> STEPS = steps();

    private static List<Step> steps() {
        List<Step> steps = new ArrayList<>(List.of(OliveMill::addGrower, OliveMill::addGrower, m -> m.addTank(300),
                m -> m.addTank(100), m -> m.addLot(0, 0, 200, 8, 500), m -> m.addLot(1, 1, 100, 21, 900)));
        steps.addAll(List.of(m -> m.addLot(0, 0, 120, 9, 1500), m -> m.set(0, 50), m -> m.press(0, false), m -> m.append('0'),
                m -> m.set(5, 2), m -> m.press(0, true), m -> m.append('a'), m -> m.appeal(0), m -> m.draw(0, 0, 10)));
        steps.addAll(List.of(m -> m.move(0, 1, 20, true), m -> m.append('7'), m -> m.set(3, 50), m -> m.pass(5),
                OliveMill::clean, m -> m.setYield(2, 333), m -> m.append('/'), m -> m.append('9')));
        steps.addAll(List.of(m -> m.set(5, 1), m -> m.undo(), m -> m.undo(), m -> m.addLot(1, 2, 60, 0, 777),
                m -> m.addLot(1, 1, 60, 0, 700), m -> m.append(';'), m -> m.move(1, 0, 20, true), m -> m.addTank(20000)));
        steps.addAll(List.of(m -> m.append('1'), m -> m.press(2, true), m -> m.press(2, true), m -> m.append('b'),
                m -> m.append('5'), m -> m.append('/'), m -> m.append('1'), OliveMill::addSlips, m -> m.press(2, true)));
        for (int more = 0; more < 6; more++) {
            steps.add(OliveMill::addGrower);
        }
        for (int more = 0; more < 3; more++) {
            steps.add(m -> m.addTank(100));
        }
        for (int more = 7; more < 40; more++) {
            int kilos = more;
            steps.add(m -> m.addLot(7, kilos % 5, kilos, kilos, 500 + kilos));
        }
        for (int more = 0; more < 60; more++) {
            steps.add(m -> m.append('*'));
        }
        return steps;
    }

    /** The numbers of steps at which the calls are made: all until the mill gets full, then the ends of each row. */
    static List<Integer> stations() {
        List<Integer> stations = new ArrayList<>();
        int last = STEPS.size();
        for (int station = 0; station <= 49; station++) {
            stations.add(station);
        }
        stations.addAll(List.of(last - 61, last - 60, last - 1, last));
        return stations;
    }

    static OliveMill millAt(int station) {
        OliveMill mill = new OliveMill();
        for (int at = 0; at < station; at++) {
            STEPS.get(at).on(mill);
        }
        return mill;
    }

    private static void add(List<Named> calls, String name, Step step) {
        calls.add(new Named(name, step));
    }

    /** Calls that are undoable, in range and out of it. */
    static List<Named> undoableCalls() {
        List<Named> calls = new ArrayList<>();
        add(calls, "addGrower()", OliveMill::addGrower);
        add(calls, "clean()", OliveMill::clean);
        add(calls, "addSlips()", OliveMill::addSlips);
        for (int number : AROUND) {
            add(calls, "addLot(" + number + ", 0, 1, 0, 500)", m -> m.addLot(number, 0, 1, 0, 500));
            add(calls, "addLot(0, " + number + ", 1, 0, 500)", m -> m.addLot(0, number, 1, 0, 500));
            add(calls, "addLot(0, 0, " + number + ", 0, 500)", m -> m.addLot(0, 0, number, 0, 500));
            add(calls, "addLot(0, 0, 1, " + number + ", 500)", m -> m.addLot(0, 0, 1, number, 500));
            add(calls, "addLot(0, 0, 1, 0, " + number + ")", m -> m.addLot(0, 0, 1, 0, number));
            add(calls, "addTank(" + number + ")", m -> m.addTank(number));
            add(calls, "setYield(" + number + ", 99)", m -> m.setYield(number, 99));
            add(calls, "setYield(1, " + number + ")", m -> m.setYield(1, number));
            add(calls, "set(" + number + ", 50)", m -> m.set(number, 50));
            add(calls, "set(5, " + number + ")", m -> m.set(5, number));
            add(calls, "press(" + number + ", true)", m -> m.press(number, true));
            add(calls, "press(" + number + ", false)", m -> m.press(number, false));
            add(calls, "appeal(" + number + ")", m -> m.appeal(number));
            add(calls, "draw(" + number + ", 0, 1)", m -> m.draw(number, 0, 1));
            add(calls, "draw(0, " + number + ", 1)", m -> m.draw(0, number, 1));
            add(calls, "draw(0, 0, " + number + ")", m -> m.draw(0, 0, number));
            add(calls, "move(" + number + ", 0, 1, true)", m -> m.move(number, 0, 1, true));
            add(calls, "move(0, " + number + ", 1, false)", m -> m.move(0, number, 1, false));
            add(calls, "move(0, 1, " + number + ", true)", m -> m.move(0, 1, number, true));
            add(calls, "pass(" + number + ")", m -> m.pass(number));
        }
        add(calls, "addTank(20000)", m -> m.addTank(20000));
        add(calls, "draw(0, 0, 20000)", m -> m.draw(0, 0, 20000));
        add(calls, "draw(1, 0, 50)", m -> m.draw(1, 0, 50));
        add(calls, "move(0, 1, 90, true)", m -> m.move(0, 1, 90, true));
        add(calls, "pass(100)", m -> m.pass(100));
        return calls;
    }

    /** Calls of the texts that may throw. */
    static List<Named> textCalls() {
        List<Named> calls = new ArrayList<>();
        for (int code : new int[] {32, 33, 126, 127, -1, Integer.MAX_VALUE, Integer.MIN_VALUE}) {
            add(calls, "append(" + code + ")", m -> m.append(code));
        }
        add(calls, "undo()", OliveMill::undo);
        return calls;
    }

    /** Calls that tell of something, in range and out of it. */
    static List<Named> looks() {
        List<Named> calls = new ArrayList<>();
        add(calls, "firstError()", OliveMill::firstError);
        add(calls, "bestTank()", OliveMill::bestTank);
        add(calls, "goodShare()", m -> Double.doubleToLongBits(m.goodShare()));
        add(calls, "digest()", OliveMill::digest);
        for (int number : AROUND) {
            for (int what = -1; what <= 15; what++) {
                int some = what;
                add(calls, "grower(" + number + ", " + what + ")", m -> m.grower(number, some));
                add(calls, "lot(" + number + ", " + what + ")", m -> m.lot(number, some));
                add(calls, "tank(" + number + ", " + what + ")", m -> m.tank(number, some));
                add(calls, "variety(" + number + ", " + what + ")", m -> m.variety(number, some));
            }
            add(calls, "count(" + number + ")", m -> m.count(number));
            add(calls, "setting(" + number + ")", m -> m.setting(number));
            add(calls, "whyNot(" + number + ", true)", m -> m.whyNot(number, true));
            add(calls, "whyNot(" + number + ", false)", m -> m.whyNot(number, false));
            add(calls, "next(" + number + ")", m -> m.next(number));
            add(calls, "taken(" + number + ", 1, 0)", m -> m.taken(number, 1, 0));
            add(calls, "taken(0, " + number + ", 0)", m -> m.taken(0, number, 0));
            add(calls, "taken(0, 1, " + number + ")", m -> m.taken(0, 1, number));
            add(calls, "oilIn(" + number + ", 3)", m -> m.oilIn(number, 3));
            add(calls, "oilIn(0, " + number + ")", m -> m.oilIn(0, number));
            add(calls, "lossBy(" + number + ")", m -> m.lossBy(number));
        }
        add(calls, "next(2)", m -> m.next(2));
        add(calls, "next(3)", m -> m.next(3));
        add(calls, "next(4)", m -> m.next(4));
        add(calls, "lossBy(2)", m -> m.lossBy(2));
        return calls;
    }

    /** What shows of the mill at a station after some calls, of each state that it has saved, and of how it goes on. */
    static long trace(int station, List<Named> calls) {
        OliveMill looked = millAt(station);
        OliveMill used = millAt(station);
        for (Named call : calls) {
            answer(looked, call.step);
            answer(used, call.step);
        }
        return 31 * traceOfSaved(looked) + traceOfUse(used);
    }

    private static long traceOfSaved(OliveMill mill) {
        long trace = mill.digest();
        for (int left = 0; left < 7; left++) {
            trace = 31 * trace + answer(mill, OliveMill::undo);
            trace = 31 * trace + mill.digest();
        }
        return trace;
    }

    /** The contents of the lots that have been pressed show in appeals, all of the others when they are pressed. */
    private static long traceOfUse(OliveMill mill) {
        mill.set(1, 1000);
        mill.set(2, 1000);
        mill.set(4, 0);
        mill.set(6, 0);
        long trace = 0;
        for (int lot = 0; lot < 40; lot++) {
            int number = lot;
            trace = 31 * trace + answer(mill, m -> m.appeal(number));
        }
        int tank = mill.count(3) - 1;
        for (int lot = 0; lot < 40; lot++) {
            trace = 31 * trace + answer(mill, m -> m.press(tank, true));
        }
        return 31 * trace + mill.digest();
    }

    /** What the call throws; null if it answers. */
    static Class<?> refusal(OliveMill mill, Named call) {
        try {
            call.step.on(mill);
            return null;
        } catch (RuntimeException e) {
            return e.getClass();
        }
    }

    private static long answer(OliveMill mill, Step step) {
        try {
            return step.on(mill);
        } catch (RuntimeException e) {
            return e.getClass().getSimpleName().hashCode();
        }
    }
}
