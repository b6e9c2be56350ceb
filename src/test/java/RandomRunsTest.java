import java.util.Random;

/** Runs of random calls, with the same seeds each time, of OliveMill and PlainMill side by side. */
final class RandomRunsTest extends Checks {
    private static final int RUNS = 1200;
    /** So that a run stays within the 512 calls of an object: a text has up to 30, the balance at the end has 30. */
    private static final int CALLS = 440;
    private static final String[] TEXTS = {"0a12/5", "1b200/9*700", "2c999/21*500;0a1/0", "7e2000/50*1500", "1a30/20;1a30/8",
        "0d100/0*550;1d100/9*600;2d100/30*700", "0a1/51", "0a2001/1", "3b70/7*499", "0c5", ";", "0a1/5;", "4e44/4*1000"};

    private final Random random;
    private final OliveMill mill = new OliveMill();
    private final PlainMill plain = new PlainMill();
    private final boolean careful;
    private String history = "";
    private int calls = 0;
    private boolean differs = false;

    private RandomRunsTest(int seed) {
        random = new Random(seed);
        careful = seed % 4 != 0;
    }

    public static void main(String[] args) {
        int different = 0;
        for (int seed = 0; seed < RUNS && different < 3; seed++) {
            RandomRunsTest run = new RandomRunsTest(seed);
            run.go(seed);
            different += run.differs ? 1 : 0;
        }
        end();
    }

    private void go(int seed) {
        if (seed % 5 == 3) {
            crowd();
        }
        for (int step = 0; calls < CALLS && !differs; step++) {
            step(step);
            check("lookAtOne", lookAtMill(step), lookAtPlain(step));
            check("digest()", mill::digest, this::digestOfPlain);
        }
        checkBalance();
        if (differs) {
            System.out.println("run " + seed + ":" + history);
        }
    }

    /** So that some runs come to the most growers, lots and tanks. */
    private void crowd() {
        for (int number = 0; number < 7; number++) {
            check("addGrower()", mill::addGrower, plain::addGrower);
        }
        for (int number = 0; number < 4; number++) {
            check("addTank(900)", () -> mill.addTank(900), () -> plain.addTank(900));
        }
        for (int number = 0; number < 30; number++) {
            addLot();
        }
    }

    private void check(String call, Call ofMill, Call ofPlain) {
        calls++;
        String got = answerOf(ofMill);
        String want = answerOf(ofPlain);
        history = history + "\n  " + call + " -> " + got;
        dueText(call, got, want);
        differs |= !got.equals(want);
    }

    private int some(int least, int most) {
        if (!careful && random.nextInt(12) == 0) {
            return random.nextBoolean() ? least - 1 : most + 1;
        }
        if (random.nextInt(8) == 0) {
            return random.nextBoolean() ? least : most;
        }
        return least + random.nextInt(Math.max(1, most - least + 1));
    }

    private int someTank() {
        return some(0, Math.max(0, plain.count(3) - 1));
    }

    private int someGrower() {
        return some(0, Math.max(0, plain.count(0) - 1));
    }

    private int someKilos() {
        int kind = random.nextInt(10);
        return kind < 3 ? some(1, 12) : kind < 8 ? some(20, 300) : some(1, 2000);
    }

    private int someOil(int tank) {
        int there = tank >= 0 && tank < plain.count(3) ? plain.tank(tank, 1) : 1;
        int kind = random.nextInt(10);
        return kind < 7 ? some(1, Math.max(1, there)) : kind < 9 ? some(1, 30) : some(1, 20000);
    }

    private void step(int number) {
        int kind = number < 12 ? random.nextInt(30) : random.nextInt(100);
        boolean mixes = random.nextInt(3) > 0;
        if (kind < 4) {
            check("addGrower()", mill::addGrower, plain::addGrower);
        } else if (kind < 8) {
            int size = random.nextBoolean() ? some(100, 600) : some(100, 20000);
            check("addTank(" + size + ")", () -> mill.addTank(size), () -> plain.addTank(size));
        } else if (kind < 28) {
            addLot();
        } else if (kind < 34) {
            addText();
        } else if (kind < 40) {
            changeSetting();
        } else if (kind < 60) {
            int best = plain.bestTank();
            int tank = best >= 0 && random.nextBoolean() ? best : someTank();
            check("press(" + tank + ", " + mixes + ")", () -> mill.press(tank, mixes), () -> plain.press(tank, mixes));
        } else if (kind < 63) {
            check("clean()", mill::clean, plain::clean);
        } else if (kind < 72) {
            int lot = someLotToAppealFor();
            check("appeal(" + lot + ")", () -> mill.appeal(lot), () -> plain.appeal(lot));
        } else if (kind < 80) {
            int grower = someGrower();
            int tank = someTank();
            int oil = someOil(tank);
            check("draw(" + grower + ", " + tank + ", " + oil + ")", () -> mill.draw(grower, tank, oil),
                    () -> plain.draw(grower, tank, oil));
        } else if (kind < 88) {
            int from = someTank();
            int to = someTank();
            int oil = someOil(from);
            check("move(" + from + ", " + to + ", " + oil + ", " + mixes + ")", () -> mill.move(from, to, oil, mixes),
                    () -> plain.move(from, to, oil, mixes));
        } else if (kind < 92) {
            int days = random.nextBoolean() ? some(1, 5) : some(1, 100);
            check("pass(" + days + ")", () -> mill.pass(days), () -> plain.pass(days));
        } else {
            check("undo()", mill::undo, plain::undo);
        }
    }

    private void addLot() {
        int grower = someGrower();
        int variety = random.nextBoolean() ? some(0, 1) : some(0, 4);
        int kilos = someKilos();
        int acidity = random.nextBoolean() ? some(7, 22) : some(0, 50);
        int truth = some(500, 1500);
        check("addLot(" + grower + ", " + variety + ", " + kilos + ", " + acidity + ", " + truth + ")",
                () -> mill.addLot(grower, variety, kilos, acidity, truth),
                () -> plain.addLot(grower, variety, kilos, acidity, truth));
    }

    private void addText() {
        if (random.nextInt(3) == 0) {
            check("clearBuffer()", mill::clearBuffer, plain::clearBuffer);
        }
        String text = TEXTS[random.nextInt(TEXTS.length)];
        for (int at = 0; at < text.length(); at++) {
            int code = random.nextInt(40) == 0 ? some(33, 126) : text.charAt(at);
            check("append(" + code + ")", () -> mill.append(code), () -> plain.append(code));
        }
        check("firstError()", mill::firstError, plain::firstError);
        check("addSlips()", mill::addSlips, plain::addSlips);
    }

    private void changeSetting() {
        int[] least = {0, 500, 0, 0, 0, 0, 0};
        int[] most = {50, 1000, 1000, 50, 500, 2, 500};
        if (random.nextInt(4) == 0) {
            int variety = some(0, 4);
            int value = some(50, 400);
            check("setYield(" + variety + ", " + value + ")", () -> mill.setYield(variety, value),
                    () -> plain.setYield(variety, value));
            return;
        }
        int setting = some(0, 6);
        int known = Math.max(0, Math.min(6, setting));
        int value = some(least[known], most[known]);
        check("set(" + setting + ", " + value + ")", () -> mill.set(setting, value), () -> plain.set(setting, value));
    }

    private int someLotToAppealFor() {
        for (int lot = 0; lot < plain.count(1); lot++) {
            if (plain.lot(lot, 10) == 0 && random.nextInt(3) > 0) {
                return lot;
            }
        }
        return some(0, Math.max(0, plain.count(1) - 1));
    }

    private int[] lookedAt = new int[4];

    private Call lookAtMill(int look) {
        int tank = someTank();
        lookedAt = new int[] {tank, someOil(tank), some(0, 4), some(0, 200)};
        int[] at = lookedAt;
        switch (look % 3) {
            case 0: return () -> mill.taken(at[0], at[1], at[2]);
            case 1: return () -> mill.oilIn(at[0], at[3]);
            default: return () -> mill.tank(at[0], at[3] % 17);
        }
    }

    private Call lookAtPlain(int look) {
        int[] at = lookedAt;
        switch (look % 3) {
            case 0: return () -> plain.taken(at[0], at[1], at[2]);
            case 1: return () -> plain.oilIn(at[0], at[3]);
            default: return () -> plain.tank(at[0], at[3] % 17);
        }
    }

    private void checkBalance() {
        for (int variety = 0; variety < 5; variety++) {
            int kept = 0;
            for (int what = 2; what <= 6; what++) {
                kept += mill.variety(variety, what);
            }
            due("oil of variety " + variety + " that is somewhere", kept, mill.variety(variety, 1));
        }
    }

    private long hash;

    private void mix(long value) {
        hash = 31 * hash + value;
    }

    private long digestOfPlain() {
        hash = 2393;
        for (int what = 0; what <= 12; what++) {
            mix(plain.count(what));
        }
        for (int setting = 0; setting <= 6; setting++) {
            mix(plain.setting(setting));
        }
        for (int grower = 0; grower < plain.count(0); grower++) {
            for (int what = 0; what <= 5; what++) {
                mix(plain.grower(grower, what));
            }
        }
        for (int lot = 0; lot < plain.count(1); lot++) {
            for (int what = 0; what <= 10; what++) {
                mix(plain.lot(lot, what));
            }
        }
        for (int tank = 0; tank < plain.count(3); tank++) {
            mixTank(tank);
        }
        for (int variety = 0; variety < 5; variety++) {
            for (int what = 0; what <= 7; what++) {
                mix(plain.variety(variety, what));
            }
        }
        for (int what = 0; what <= 4; what++) {
            mix(plain.next(what));
        }
        for (int way = 0; way <= 2; way++) {
            mix(plain.lossBy(way));
        }
        mix(plain.bestTank());
        mix(Double.doubleToLongBits(plain.goodShare()));
        mix(plain.buffer.length());
        plain.buffer.chars().forEach(this::mix);
        return hash;
    }

    private void mixTank(int tank) {
        for (int what = 0; what <= 14; what++) {
            if (what <= 2 || what >= 10) {
                mix(plain.tank(tank, what));
            }
        }
        mix(plain.whyNot(tank, false));
        mix(plain.whyNot(tank, true));
        mix(plain.oilIn(tank, 30));
        for (int variety = 0; variety < 5; variety++) {
            mix(plain.taken(tank, 1, variety));
        }
    }
}
