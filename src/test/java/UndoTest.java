/** Promise 17, and what "undoable" means for each method. */
final class UndoTest extends Checks {
    public static void main(String[] args) {
        eachUndoableMethod();
        callsThatChangeNothing();
        atMostSix();
        bufferStays();
        lookingSavesNothing();
        end();
    }

    private static OliveMill pressedMill() {
        OliveMill mill = millWith(2, 2000, 2000);
        mill.addLot(0, 0, 200, 8, 500);
        mill.addLot(1, 1, 200, 30, 1000);
        mill.addLot(1, 2, 200, 30, 1000);
        mill.set(3, 50);
        mill.press(0, true);
        mill.press(1, true);
        return mill;
    }

    private static void eachUndoableMethod() {
        OliveMill mill = pressedMill();
        undoes(mill, "addGrower", mill::addGrower);
        undoes(mill, "addLot", () -> mill.addLot(0, 1, 2, 3, 1004));
        undoes(mill, "addTank", () -> mill.addTank(500));
        undoes(mill, "setYield", () -> mill.setYield(2, 77));
        undoes(mill, "set", () -> mill.set(6, 77));
        undoes(mill, "press", () -> mill.press(0, true));
        undoes(mill, "clean", mill::clean);
        undoes(mill, "appeal", () -> mill.appeal(0));
        undoes(mill, "draw", () -> mill.draw(0, 1, 100));
        undoes(mill, "move", () -> mill.move(0, 1, 50, true));
        undoes(mill, "pass", () -> mill.pass(100));
        type(mill, "0a1/5;1b2/6*700");
        mill.clean();
        mill.undo();
        int saved = mill.count(12);
        due("addSlips", mill.addSlips(), 2);
        due("lots", mill.count(1), 5);
        due("undo of addSlips", mill.undo(), saved);
        due("lots after undo", mill.count(1), 3);
    }

    private static void callsThatChangeNothing() {
        OliveMill mill = new OliveMill();
        mill.clean();
        due("clean saves", mill.count(12), 1);
        mill.setYield(0, 150);
        due("setYield saves", mill.count(12), 2);
        mill.set(0, 10);
        due("set saves", mill.count(12), 3);
        mill.pass(1);
        due("pass saves", mill.count(12), 4);
        for (int left = 3; left >= 0; left--) {
            due("undo", mill.undo(), left);
        }
        due("digest as of a new one", mill.digest(), new OliveMill().digest());
    }

    private static void atMostSix() {
        OliveMill mill = new OliveMill();
        notNow(mill, "undo without saved states", mill::undo);
        for (int day = 1; day <= 9; day++) {
            mill.pass(1);
            due("saved states", mill.count(12), Math.min(day, 6));
        }
        for (int left = 5; left >= 0; left--) {
            due("undo", mill.undo(), left);
            due("days", mill.count(7), 3 + left);
        }
        notNow(mill, "undo of a dropped state", mill::undo);
        for (int round = 0; round < 20; round++) {
            mill.pass(1);
            mill.pass(1);
            mill.undo();
        }
        due("days", mill.count(7), 23);
        mill.undo();
        mill.undo();
        due("days", mill.count(7), 21);
        due("saved states", mill.count(12), 3);
    }

    private static void bufferStays() {
        OliveMill mill = millWith(1);
        mill.append('0');
        mill.addGrower();
        mill.append('a');
        mill.undo();
        due("length of the buffer", mill.clearBuffer(), 2);
        mill.undo();
        due("growers", mill.count(0), 0);
        notNow(mill, "append and clearBuffer saved nothing", mill::undo);
    }

    private static void lookingSavesNothing() {
        OliveMill mill = pressedMill();
        int saved = mill.count(12);
        long before = mill.digest();
        mill.whyNot(0, true);
        for (int what = 0; what <= 4; what++) {
            mill.next(what);
        }
        mill.taken(0, 1, 0);
        mill.oilIn(0, 200);
        mill.lossBy(0);
        mill.lossBy(1);
        mill.lossBy(2);
        mill.bestTank();
        mill.goodShare();
        mill.firstError();
        due("saved states", mill.count(12), saved);
        due("digest", mill.digest(), before);
    }
}
