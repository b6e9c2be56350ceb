/** Promises 3, 18 and 19. */
final class LotsTest extends Checks {
    public static void main(String[] args) {
        promise3();
        promise3Refusals();
        promise18();
        promise19();
        promise19Grades();
        end();
    }

    private static void promise3() {
        OliveMill mill = millWith(2);
        due("addLot with the least", mill.addLot(0, 0, 1, 0, 500), 0);
        due("addLot with the most", mill.addLot(1, 4, 2000, 50, 1500), 1);
        due("lots", mill.count(1), 2);
        due("lots that wait", mill.count(2), 2);
        due("its truth makes a difference", mill.next(1), 0);
        for (int lot = 2; lot < 40; lot++) {
            due("addLot", mill.addLot(0, lot % 5, 100, 5, 1000), lot);
        }
        notNow(mill, "the 41st addLot()", () -> mill.addLot(0, 0, 1, 0, 500));
        outOfRange(mill, "the 41st addLot(), of no kilos", () -> mill.addLot(0, 0, 0, 0, 500));
        noSuch(mill, "the 41st addLot(), of no grower", () -> mill.addLot(2, 0, 1, 0, 500));
    }

    private static void promise3Refusals() {
        OliveMill mill = millWith(1);
        noSuch(mill, "addLot of grower -1", () -> mill.addLot(-1, 0, 1, 0, 500));
        noSuch(mill, "addLot of grower 1", () -> mill.addLot(1, 0, 1, 0, 500));
        noSuch(mill, "addLot of grower 1, all else wrong too", () -> mill.addLot(1, 5, 0, 51, 499));
        outOfRange(mill, "variety -1", () -> mill.addLot(0, -1, 1, 0, 500));
        outOfRange(mill, "variety 5", () -> mill.addLot(0, 5, 1, 0, 500));
        outOfRange(mill, "kilos 0", () -> mill.addLot(0, 0, 0, 0, 500));
        outOfRange(mill, "kilos 2001", () -> mill.addLot(0, 0, 2001, 0, 500));
        outOfRange(mill, "acidity -1", () -> mill.addLot(0, 0, 1, -1, 500));
        outOfRange(mill, "acidity 51", () -> mill.addLot(0, 0, 1, 51, 500));
        outOfRange(mill, "truth 499", () -> mill.addLot(0, 0, 1, 0, 499));
        outOfRange(mill, "truth 1501", () -> mill.addLot(0, 0, 1, 0, 1501));
    }

    private static void promise18() {
        OliveMill mill = millWith(2, 2000);
        mill.addLot(1, 0, 200, 5, 500);
        mill.addLot(1, 0, 100, 5, 1000);
        mill.addLot(0, 0, 100, 5, 1000);
        dueGrower("before pressing", mill, 1, 0, 2, 2, 0, 0, 0);
        mill.press(0, false);
        dueGrower("after pressing", mill, 1, 127, 2, 1, 0, 0, 0);
        mill.draw(1, 0, 27);
        dueGrower("after drawing", mill, 1, 100, 2, 1, 27, 0, 0);
        mill.draw(1, 0, 3);
        dueGrower("after drawing again", mill, 1, 97, 2, 1, 30, 0, 0);
        mill.appeal(0);
        dueGrower("after a lost appeal", mill, 1, 90, 2, 1, 30, 1, 1);
        dueGrower("the other one", mill, 0, 0, 1, 1, 0, 0, 0);
        OliveMill full = millWith(8, 20000);
        for (int grower = 0; grower < 8; grower++) {
            full.addLot(grower, 4, 100 * (grower + 1), 5, 500);
        }
        for (int grower = 0; grower < 8; grower++) {
            full.press(0, false);
            full.appeal(grower);
        }
        for (int grower = 0; grower < 8; grower++) {
            // Of each hundred kilos: due 160, content 80, first oil 68; of the 12 that are left, 600 of 1000.
            int second = 12 * (grower + 1) * 600 / 1000;
            int lost = grower < 2 ? 1 : 0;
            dueGrower("of eight growers", full, grower, 68 * (grower + 1) + second - 20 * lost, 1, 0, 0, 1, lost);
        }
        full.set(4, 500);
        full.addLot(7, 4, 100, 5, 500);
        full.press(0, false);
        full.appeal(8);
        dueGrower("the last grower", full, 7, 601 + 75 - 500, 2, 0, 0, 2, 1);
        due("the grower of the first lot", full.lot(0, 0), 0);
        noSuch(mill, "grower(-1, 0)", () -> mill.grower(-1, 0));
        noSuch(mill, "grower(2, 0)", () -> mill.grower(2, 0));
        noSuch(mill, "grower(2, 6)", () -> mill.grower(2, 6));
        outOfRange(mill, "grower(0, -1)", () -> mill.grower(0, -1));
        outOfRange(mill, "grower(0, 6)", () -> mill.grower(0, 6));
    }

    private static void promise19() {
        OliveMill mill = millWith(3, 100, 3000);
        mill.addLot(2, 3, 333, 17, 777);
        dueLot("while it waits", mill, 0, 2, 3, 333, 17, 1, 0, -1, -1, -1, -1, 1);
        mill.press(1, false);
        // 333 * 220 / 100 = 732, 732 * 777 / 1000 = 568, 568 * 850 / 1000 = 482
        dueLot("when it has been pressed", mill, 0, 2, 3, 333, 17, 1, 1, 732, 482, -1, 1, 0);
        mill.setYield(3, 50);
        mill.appeal(0);
        dueLot("after the appeal", mill, 0, 2, 3, 333, 17, 1, 2, 732, 482, 51, 1, 1);
        noSuch(mill, "lot(-1, 0)", () -> mill.lot(-1, 0));
        noSuch(mill, "lot(1, 0)", () -> mill.lot(1, 0));
        noSuch(mill, "lot(1, 11)", () -> mill.lot(1, 11));
        outOfRange(mill, "lot(0, -1)", () -> mill.lot(0, -1));
        outOfRange(mill, "lot(0, 11)", () -> mill.lot(0, 11));
    }

    private static void promise19Grades() {
        OliveMill mill = millWith(1);
        int[] acidities = {0, 8, 9, 20, 21, 50};
        int[] grades = {0, 0, 1, 1, 2, 2};
        for (int lot = 0; lot < grades.length; lot++) {
            mill.addLot(0, 0, 1, acidities[lot], 500);
            due("grade of the acidity " + acidities[lot], mill.lot(lot, 4), grades[lot]);
        }
    }
}
