/** Promises 7, 8, 24, 25, 28 and 29. */
final class PressingTest extends Checks {
    public static void main(String[] args) {
        promise7FirstLot();
        promise7SameVariety();
        promise7OtherVariety();
        promise7WayLikeFirst();
        promise7NothingPoured();
        promise7SettingsAsTheyAre();
        promise7OneDecilitre();
        promise7GreatNumbers();
        promise7Refusals();
        promise8();
        promise24();
        promise25();
        promise28();
        promise29();
        end();
    }

    private static void promise7FirstLot() {
        OliveMill mill = millWith(1, 500);
        mill.addLot(0, 1, 33, 8, 777);
        due("press", mill.press(0, false), 0);
        // 33 * 180 / 100 = 59, 59 * 777 / 1000 = 45, 45 * 850 / 1000 = 38
        due("due", mill.lot(0, 6), 59);
        due("first oil", mill.lot(0, 7), 38);
        due("account", mill.grower(0, 0), 38);
        due("oil pressed", mill.variety(1, 1), 38);
        dueTank("first lot", mill, 0, 0, 0, 28, 0, 0, 0);
        dueResidue("first lot", mill, 1, 10);
        due("cleanings", mill.count(6), 0);
    }

    private static void promise7SameVariety() {
        OliveMill mill = millWith(2, 500);
        mill.addLot(0, 0, 100, 8, 1000);
        mill.addLot(1, 0, 100, 8, 1000);
        mill.addLot(0, 0, 100, 8, 1000);
        mill.press(0, false);
        dueTank("one lot", mill, 0, 0, 117, 0, 0, 0, 0);
        mill.set(0, 30);
        mill.press(0, false);
        dueTank("two lots, the residue greater", mill, 0, 0, 224, 0, 0, 0, 0);
        dueResidue("two lots", mill, 0, 30);
        mill.set(0, 0);
        mill.press(0, false);
        dueTank("three lots, no residue", mill, 0, 0, 381, 0, 0, 0, 0);
        dueResidue("three lots", mill, -1, 0);
        due("account of 0", mill.grower(0, 0), 254);
        due("account of 1", mill.grower(1, 0), 127);
    }

    private static void promise7OtherVariety() {
        for (int way = 0; way <= 2; way++) {
            OliveMill mill = millWith(1, 500, 500);
            mill.set(5, way);
            mill.addLot(0, 0, 100, 8, 1000);
            mill.addLot(0, 1, 100, 21, 1000);
            mill.press(0, false);
            mill.press(1, false);
            boolean poured = way == 2;
            dueTank("way " + way, mill, 1, 2, poured ? 10 : 0, 143, 0, 0, 0);
            dueResidue("way " + way, mill, 1, 10);
            due("cleanings", mill.count(6), poured ? 0 : 1);
            due("lost by cleaning", mill.variety(0, 6), poured ? 0 : 10);
            due("lost of the other", mill.variety(1, 6), 0);
            due("account", mill.grower(0, 0), 127 + 153);
        }
    }

    private static void promise7WayLikeFirst() {
        OliveMill mill = millWith(1, 5000);
        mill.set(5, 1);
        int[] varieties = {0, 1, 2, 0, 1, 0};
        for (int variety : varieties) {
            mill.addLot(0, variety, 100, 8, 1000);
        }
        due("without a residue the first", mill.press(0, false), 0);
        due("of the residue's variety", mill.press(0, false), 3);
        due("of the residue's variety again", mill.press(0, false), 5);
        due("none of it, so the first", mill.press(0, false), 1);
        due("cleanings", mill.count(6), 1);
        mill.clean();
        due("without a residue the first that waits", mill.press(0, false), 2);
        mill.set(5, 0);
        due("the last one", mill.press(0, false), 4);
    }

    private static void promise7NothingPoured() {
        OliveMill mill = millWith(1, 100, 100);
        mill.set(0, 50);
        mill.addLot(0, 0, 100, 8, 500);
        mill.addLot(0, 0, 10, 50, 500);
        mill.press(0, false);
        dueTank("63 first oil, 50 kept", mill, 0, 0, 13, 0, 0, 0, 0);
        mill.clean();
        due("without mixing into a better tank", mill.press(0, false), 1);
        dueTank("nothing poured", mill, 0, 0, 13, 0, 0, 0, 0);
        due("the tank of the lot", mill.lot(1, 9), 0);
        dueResidue("all stays", mill, 0, 5);
        mill.addLot(0, 0, 10, 50, 500);
        mill.press(1, false);
        dueTank("an empty tank stays without grade", mill, 1, -1, 0, 0, 0, 0, 0);
        due("the tank of the lot", mill.lot(2, 9), 1);
        dueResidue("all stays", mill, 0, 10);
        mill.addLot(0, 1, 1, 8, 500);
        mill.setYield(1, 50);
        mill.press(1, false);
        dueResidue("a lot without oil cleans all the same", mill, -1, 0);
        due("cleanings", mill.count(6), 2);
    }

    private static void promise7SettingsAsTheyAre() {
        OliveMill mill = millWith(1, 2000);
        mill.addLot(0, 0, 100, 8, 1500);
        mill.setYield(0, 200);
        mill.set(1, 500);
        mill.press(0, false);
        mill.setYield(0, 50);
        mill.set(1, 1000);
        due("due by the yield then", mill.lot(0, 6), 200);
        due("first oil by the setting then", mill.lot(0, 7), 150);
    }

    /** A residue, a lot and a tank of 1 are as good as greater ones. */
    private static void promise7OneDecilitre() {
        OliveMill mill = plainMillWith(1, 100, 100);
        mill.set(0, 1);
        mill.addLot(0, 3, 1, 0, 1000);
        mill.addLot(0, 2, 1, 0, 1000);
        mill.addLot(0, 3, 1, 0, 1000);
        mill.press(0, false);
        dueResidue("a residue of 1", mill, 3, 1);
        mill.set(5, 1);
        due("way 1 with a residue of 1", mill.next(0), 2);
        mill.set(5, 2);
        mill.press(0, false);
        dueTank("way 2 with a residue of 1", mill, 0, 0, 0, 0, 0, 1, 0);
        dueResidue("another residue of 1", mill, 2, 1);
        mill.set(5, 0);
        mill.press(0, false);
        due("cleaning of a residue of 1", mill.variety(2, 6), 1);
        due("cleanings", mill.count(6), 1);
        mill.set(0, 0);
        mill.addLot(0, 3, 1, 50, 500);
        mill.addLot(0, 3, 1, 50, 1000);
        due("the residue of 1 is poured", mill.next(2), 1);
        due("a tank of 1, of another grade", mill.whyNot(0, false), 3);
        notNow(mill, "press of 1 into another grade", () -> mill.press(0, false));
        mill.press(1, false);
        dueTank("a tank of 1", mill, 1, 2, 0, 0, 0, 1, 0);
    }

    private static void promise7GreatNumbers() {
        OliveMill mill = millWith(1, 20000);
        mill.setYield(4, 400);
        mill.set(0, 0);
        mill.set(1, 1000);
        mill.addLot(0, 4, 2000, 0, 1500);
        mill.press(0, false);
        due("the greatest due", mill.lot(0, 6), 8000);
        due("the greatest first oil", mill.lot(0, 7), 12000);
        mill.set(1, 999);
        mill.addLot(0, 4, 1999, 0, 501);
        mill.press(0, false);
        // 7996, 7996 * 501 / 1000 = 4005, 4005 * 999 / 1000 = 4000
        due("first oil rounded down", mill.lot(1, 7), 4000);
    }

    private static void promise7Refusals() {
        OliveMill mill = millWith(1, 117, 116, 200);
        noSuch(mill, "press(-1)", () -> mill.press(-1, true));
        noSuch(mill, "press(3)", () -> mill.press(3, true));
        notNow(mill, "press without lots", () -> mill.press(0, true));
        mill.addLot(0, 0, 100, 8, 1000);
        notNow(mill, "press without room", () -> mill.press(1, true));
        due("press with just the room", mill.press(0, false), 0);
        mill.addLot(0, 0, 20, 9, 1000);
        mill.addLot(0, 0, 20, 8, 1000);
        mill.press(2, false);
        notNow(mill, "press into a worse tank", () -> mill.press(2, false));
        due("press into a worse tank, with mixing", mill.press(2, true), 2);
        dueTank("it stays as bad", mill, 2, 1, 50, 0, 0, 0, 0);
        mill.addLot(0, 0, 20, 21, 1000);
        notNow(mill, "press into a better tank", () -> mill.press(2, false));
        mill.press(2, true);
        dueTank("it gets worse", mill, 2, 2, 75, 0, 0, 0, 0);
    }

    private static void promise8() {
        OliveMill mill = millWith(1, 500);
        due("clean without a residue", mill.clean(), 0);
        due("that is no cleaning", mill.count(6), 0);
        mill.addLot(0, 2, 100, 8, 1000);
        mill.press(0, false);
        due("clean", mill.clean(), 10);
        dueResidue("after it", mill, -1, 0);
        due("cleanings", mill.count(6), 1);
        due("lost by cleaning", mill.variety(2, 6), 10);
        due("residue of the variety", mill.variety(2, 3), 0);
        due("oil in the tank", mill.tank(0, 1), 160);
        due("clean again", mill.clean(), 0);
        due("cleanings", mill.count(6), 1);
    }

    private static void promise24() {
        OliveMill mill = millWith(1, 117, 116, 1000);
        noSuch(mill, "whyNot(-1)", () -> mill.whyNot(-1, true));
        noSuch(mill, "whyNot(3)", () -> mill.whyNot(3, true));
        due("no lot waits", mill.whyNot(0, true), 1);
        mill.addLot(0, 0, 100, 8, 1000);
        due("just the room", mill.whyNot(0, false), 0);
        due("one too little", mill.whyNot(1, true), 2);
        mill.press(2, false);
        mill.addLot(0, 0, 100, 9, 1000);
        due("another grade", mill.whyNot(2, false), 3);
        due("another grade, with mixing", mill.whyNot(2, true), 0);
        mill.addLot(0, 0, 1200, 8, 1000);
        mill.press(2, true);
        due("no room and another grade", mill.whyNot(2, false), 2);
        due("nothing is changed", mill.count(2), 1);
        OliveMill small = millWith(1, 100);
        small.set(0, 5);
        small.addLot(0, 0, 10, 8, 1000);
        small.addLot(0, 0, 1, 50, 500);
        small.press(0, false);
        small.set(0, 50);
        due("another grade, but nothing is poured", small.whyNot(0, false), 0);
        OliveMill carrier = millWith(1, 100, 144);
        carrier.set(5, 2);
        carrier.addLot(0, 0, 20, 8, 1000);
        carrier.addLot(0, 1, 101, 8, 1000);
        carrier.press(0, false);
        // 154 first oil, 10 kept, 10 of the residue
        due("the residue needs room too", carrier.whyNot(1, true), 2);
    }

    private static void promise25() {
        OliveMill mill = millWith(1, 5000);
        dueNext("no lot", mill, -1, -1, -1, -1, -1);
        outOfRange(mill, "next(-1)", () -> mill.next(-1));
        outOfRange(mill, "next(5)", () -> mill.next(5));
        mill.addLot(0, 0, 100, 8, 1000);
        mill.addLot(0, 1, 100, 8, 1000);
        mill.addLot(0, 0, 4, 8, 1000);
        dueNext("first", mill, 0, 127, 117, 0, 10);
        mill.press(0, false);
        dueNext("way 0", mill, 1, 153, 143, 10, 10);
        mill.set(5, 1);
        dueNext("way 1", mill, 2, 5, 5, 0, 10);
        mill.set(5, 2);
        dueNext("way 2", mill, 1, 153, 153, 0, 10);
        mill.press(0, false);
        // of the lot of 5 first oil all stays, the other residue is poured
        dueNext("way 2, little oil", mill, 2, 5, 10, 0, 5);
        mill.set(5, 0);
        dueNext("way 0, little oil", mill, 2, 5, 0, 10, 5);
        mill.press(0, false);
        dueNext("all pressed", mill, -1, -1, -1, -1, -1);
    }

    private static void promise28() {
        OliveMill mill = millWith(1, 100);
        outOfRange(mill, "lossBy(-1)", () -> mill.lossBy(-1));
        outOfRange(mill, "lossBy(3)", () -> mill.lossBy(3));
        due("without lots", mill.lossBy(0), 0);
        int[] varieties = {0, 1, 0, 1, 2};
        for (int variety : varieties) {
            mill.addLot(0, variety, 20, 8, 1000);
        }
        due("way 0 cleans four times", mill.lossBy(0), 40);
        due("way 1 cleans twice", mill.lossBy(1), 20);
        due("way 2 never cleans", mill.lossBy(2), 0);
        mill.press(0, true);
        due("way 0 with a residue", mill.lossBy(0), 40);
        due("way 1 with a residue", mill.lossBy(1), 20);
        mill.set(0, 50);
        mill.set(5, 2);
        // 10, then 30 (36 first oil), 25, 30, with the settings of now
        due("way 0 with a greater residue", mill.lossBy(0), 10 + 30 + 25 + 30);
        due("way 1 with a greater residue", mill.lossBy(1), 35 + 50);
        due("nothing is changed", mill.count(2), 4);
        due("no cleaning", mill.count(6), 0);
        OliveMill full = millWith(1);
        for (int lot = 0; lot < 40; lot++) {
            full.addLot(0, lot < 39 ? 0 : 1, 20, 8, 1000);
        }
        due("the fortieth lot counts too", full.lossBy(0), 10);
    }

    private static void promise29() {
        OliveMill mill = millWith(1, 300, 200, 150, 200);
        due("no lot", mill.bestTank(), -1);
        mill.addLot(0, 0, 100, 8, 1000);
        due("the smallest that has room", mill.bestTank(), 2);
        mill.press(2, false);
        mill.addLot(0, 0, 100, 8, 1000);
        due("of like ones the lowest", mill.bestTank(), 1);
        mill.press(0, false);
        mill.addLot(0, 0, 100, 9, 1000);
        due("the fuller one has another grade", mill.bestTank(), 1);
        mill.press(3, true);
        mill.addLot(0, 0, 100, 8, 1000);
        due("the fuller one of the same grade", mill.bestTank(), 0);
        mill.press(1, true);
        mill.addLot(0, 0, 1000, 8, 1000);
        due("no tank has room", mill.bestTank(), -1);
        OliveMill dry = millWith(1, 300, 200);
        dry.set(0, 0);
        dry.setYield(4, 50);
        dry.addLot(0, 0, 10, 8, 1000);
        dry.press(1, false);
        dry.addLot(0, 4, 1, 50, 500);
        due("it pours nothing, so the grade is no matter", dry.bestTank(), 1);
    }
}
