/** The sentences of "Pressing", and of the promises 7, 8, 24, 25 and 28. */
final class PressingBounds extends Boundaries {
    static void all() {
        residue();
        nextLot();
        nextLotByWay1();
        dueOfALot();
        contentOfALot();
        firstOilOfALot();
        asTheyAreThen();
        waysWithAResidue();
        residueOfTheSameVariety();
        whatStays();
        account();
        promise7();
        promise7Refusals();
        promise8();
        promise24();
        promise24OfTwoReasons();
        promise25();
        promise28();
        promise28ByWay();
    }

    /** Lots of the varieties; a lot of 100 kilos has 100 of oil. */
    private static OliveMill plainMillWithLots(int... varieties) {
        OliveMill mill = plainMillWith(1, 20000, 20000);
        for (int variety : varieties) {
            mill.addLot(0, variety, 100, 0, 1000);
        }
        return mill;
    }

    private static void residue() {
        says(TERMS, "Oil that is in the mill of the lot pressed last is the residue: of one variety, at first none"
                + " (a residue of 0 is none).");
        OliveMill mill = plainMillWithLots(0, 1, 1, 3, 2);
        dueResidue("at first", mill, -1, 0);
        mill.press(0, false);
        dueResidue("with the setting 0", mill, -1, 0);
        mill.press(0, false);
        due("no residue, no cleaning", mill.count(6), 0);
        due("nothing lost", mill.variety(0, 6), 0);
        mill.set(0, 1);
        mill.press(0, false);
        dueResidue("of 1", mill, 1, 1);
        mill.press(0, false);
        dueResidue("of the lot pressed last alone", mill, 3, 1);
        mill.setYield(2, 50);
        mill.press(0, false);
        dueResidue("of a lot with oil", mill, 2, 1);
        mill.setYield(4, 50);
        mill.addLot(0, 4, 1, 0, 1000);
        mill.press(0, false);
        dueResidue("of a lot without oil", mill, -1, 0);
    }

    private static void nextLot() {
        says(TERMS, "The next lot is the first one that waits");
        OliveMill none = plainMillWith(1, 100);
        due("no lot", none.next(0), -1);
        OliveMill mill = plainMillWithLots(2, 1, 2);
        mill.set(0, 5);
        due("the first", mill.next(0), 0);
        due("press", mill.press(0, false), 0);
        due("the first that waits, way 0", mill.next(0), 1);
        mill.set(5, 2);
        due("the first that waits, way 2", mill.next(0), 1);
        mill.press(0, false);
        due("the last", mill.press(0, false), 2);
        due("none waits", mill.next(0), -1);
        due("a new one", mill.addLot(0, 0, 100, 0, 1000), 3);
        due("is the next", mill.next(0), 3);
    }

    private static void nextLotByWay1() {
        says(TERMS, "but with the way 1 (setting 5), if there is a residue, it is the first one that waits of the variety"
                + " of the residue, if there is one.");
        OliveMill mill = plainMillWithLots(2, 1, 0, 2, 2, 4);
        mill.set(5, 1);
        due("no residue", mill.press(0, false), 0);
        due("still none, though the lot pressed last had a variety", mill.next(0), 1);
        mill.undo();
        mill.set(0, 1);
        mill.press(0, false);
        due("the first that waits of the variety", mill.press(0, false), 3);
        due("the other one of it", mill.press(0, false), 4);
        due("there is none of it", mill.press(0, false), 1);
        due("none of this variety either", mill.next(0), 2);
        mill.clean();
        mill.addLot(0, 1, 100, 0, 1000);
        due("a residue that was cleaned away", mill.next(0), 2);
        mill.undo();
        mill.undo();
        mill.addLot(0, 1, 100, 0, 1000);
        due("the last one, as it is of the variety", mill.press(0, false), 6);
        OliveMill zero = plainMillWithLots(1, 1, 0);
        zero.set(5, 1);
        zero.press(0, false);
        due("no residue is no residue of variety 0", zero.next(0), 1);
    }

    private static OliveMill millWithOneLot(int kilos, int yield, int truth) {
        OliveMill mill = millWith(1, 20000);
        mill.set(0, 0);
        mill.setYield(3, yield);
        mill.addLot(0, 3, kilos, 0, truth);
        return mill;
    }

    private static void dueOfALot() {
        says(TERMS, "When a lot is pressed, its due is its kilos times the yield of its variety, divided by 100");
        int[][] rows = {{1, 50, 0}, {1, 99, 0}, {1, 100, 1}, {1, 199, 1}, {1, 200, 2}, {3, 133, 3}, {101, 99, 99},
            {1999, 399, 7976}, {2000, 400, 8000}, {2000, 50, 1000}};
        for (int[] row : rows) {
            OliveMill mill = millWithOneLot(row[0], row[1], 1000);
            mill.press(0, false);
            due("the due of " + row[0] + " kilos with the yield " + row[1], mill.lot(0, 6), row[2]);
        }
    }

    private static void contentOfALot() {
        says(TERMS, "its content is its due times its truth, divided by 1000");
        int[][] rows = {{1, 999, 0}, {1, 1000, 1}, {1, 1500, 1}, {2, 500, 1}, {2, 1499, 2}, {2, 1500, 3}, {3, 999, 2},
            {1994, 501, 998}, {2000, 1499, 2998}, {2000, 1500, 3000}};
        for (int[] row : rows) {
            OliveMill mill = millWithOneLot(row[0], 100, row[1]);
            mill.set(1, 1000);
            due("all of the content is the first oil", mill.next(1), row[2]);
            mill.set(1, 500);
            mill.press(0, false);
            mill.set(1, 1000);
            mill.set(2, 1000);
            mill.set(6, 0);
            // With the setting 500 the first oil is less than the due; the second oil is then all that is left.
            if (mill.lot(0, 10) == 0) {
                mill.appeal(0);
                due("the content of a due of " + row[0] + " with the truth " + row[1], mill.lot(0, 7) + mill.lot(0, 8),
                        row[2]);
            }
            due("the half of it", mill.lot(0, 7), row[2] / 2);
        }
        OliveMill great = millWithOneLot(2000, 400, 1500);
        great.set(1, 1000);
        due("the greatest content", great.next(1), 12000);
    }

    private static void firstOilOfALot() {
        says(TERMS, "its first oil is its content times setting 1, divided by 1000");
        int[][] rows = {{1, 999, 0}, {1, 1000, 1}, {2, 500, 1}, {3, 500, 1}, {3, 999, 2}, {1000, 999, 999}, {1001, 850, 850},
            {1999, 997, 1993}, {2000, 1000, 2000}, {2000, 500, 1000}};
        for (int[] row : rows) {
            OliveMill mill = millWithOneLot(row[0], 100, 1000);
            mill.set(1, row[1]);
            due("next(1) of " + row[0] + " with the setting " + row[1], mill.next(1), row[2]);
            mill.press(0, false);
            due("the first oil of " + row[0] + " with the setting " + row[1], mill.lot(0, 7), row[2]);
        }
        OliveMill thrice = millWithOneLot(1, 199, 1500);
        thrice.set(1, 1000);
        // 1.99, then 1.5 of 1, then 1; not 2.985 at once
        due("rounded down each time", thrice.next(1), 1);
        OliveMill last = millWithOneLot(3, 100, 999);
        last.set(1, 999);
        // 2.997, then 1.998 of 2; not 2.994 at once
        due("rounded down each time", last.next(1), 1);
    }

    private static void asTheyAreThen() {
        says(TERMS, "(all by yields and settings as they are then; they are kept for it).");
        OliveMill mill = millWithOneLot(100, 100, 500);
        mill.setYield(3, 200);
        mill.set(1, 500);
        mill.press(0, false);
        dueLot("by the yield and the setting when it was pressed", mill, 0, 0, 3, 100, 0, 0, 1, 200, 50, -1, 0);
        mill.setYield(3, 400);
        mill.set(1, 1000);
        dueLot("kept", mill, 0, 0, 3, 100, 0, 0, 1, 200, 50, -1, 0);
        mill.set(2, 1000);
        due("the second oil by the content that is kept", mill.appeal(0), 50);
    }

    private static void waysWithAResidue() {
        says(TERMS, "If there is a residue of another variety: with the ways 0 and 1 the mill is cleaned: the residue is"
                + " lost; with the way 2 the residue is poured into the tank, ahead of the oil of this lot.");
        for (int way = 0; way <= 2; way++) {
            for (int kept = 0; kept <= 50; kept += 25) {
                OliveMill mill = plainMillWithLots(0, 1);
                mill.set(5, way);
                mill.set(0, kept);
                mill.press(0, false);
                mill.press(1, false);
                int poured = way == 2 ? kept : 0;
                dueTank("way " + way + ", residue " + kept, mill, 1, 0, poured, 100 - kept, 0, 0, 0);
                dueResidue("way " + way, mill, kept == 0 ? -1 : 1, kept);
                due("lost", mill.variety(0, 6), kept - poured);
                due("nothing lost of the other", mill.variety(1, 6), 0);
                due("cleanings", mill.count(6), way < 2 && kept > 0 ? 1 : 0);
            }
            OliveMill same = plainMillWithLots(0, 0);
            same.set(5, way);
            same.set(0, 50);
            same.press(0, false);
            same.press(1, false);
            due("a residue of the same variety is not cleaned away", same.count(6), 0);
            dueTank("nor lost, way " + way, same, 1, 0, 100, 0, 0, 0, 0);
        }
    }

    private static void residueOfTheSameVariety() {
        says(TERMS, "A residue of the same variety comes to the first oil of the lot.");
        OliveMill mill = plainMillWithLots(0, 0, 0);
        mill.set(0, 50);
        mill.press(0, false);
        dueTank("50 stay", mill, 0, 0, 50, 0, 0, 0, 0);
        mill.press(0, false);
        dueTank("50 and 100, less 50", mill, 0, 0, 150, 0, 0, 0, 0);
        mill.set(0, 0);
        mill.press(0, false);
        dueTank("50 and 100, and nothing stays", mill, 0, 0, 300, 0, 0, 0, 0);
        dueResidue("nothing stays", mill, -1, 0);
        due("each first oil is its own", mill.lot(2, 7), 100);
    }

    private static void whatStays() {
        says(TERMS, "Of both together setting 0, or all if that is less, stays in the mill as the residue; the rest is"
                + " poured into the tank.");
        int[][] rows = {{9, 9, 0}, {10, 10, 0}, {11, 10, 1}, {1, 1, 0}};
        for (int[] row : rows) {
            OliveMill mill = plainMillWith(1, 100);
            mill.set(0, 10);
            mill.addLot(0, 0, row[0], 0, 1000);
            dueNext("a lot of " + row[0], mill, 0, row[0], row[2], 0, row[1]);
            mill.press(0, false);
            dueResidue("of a lot of " + row[0], mill, 0, row[1]);
            due("poured of a lot of " + row[0], mill.tank(0, 1), row[2]);
        }
        OliveMill mill = plainMillWith(1, 100);
        mill.set(0, 10);
        fill(mill, 0, 0, 4, 0);
        fill(mill, 0, 0, 5, 0);
        dueResidue("4 and 5", mill, 0, 9);
        fill(mill, 0, 0, 1, 0);
        dueResidue("9 and 1", mill, 0, 10);
        due("nothing poured", mill.tank(0, 1), 0);
        fill(mill, 0, 0, 1, 0);
        dueResidue("10 and 1", mill, 0, 10);
        due("1 poured", mill.tank(0, 1), 1);
        mill.set(0, 50);
        fill(mill, 0, 0, 39, 0);
        dueResidue("10 and 39", mill, 0, 49);
        mill.set(0, 3);
        fill(mill, 0, 0, 1, 0);
        dueResidue("a smaller setting", mill, 0, 3);
        due("the residue is poured too", mill.tank(0, 1), 48);
        mill.setYield(0, 50);
        fill(mill, 0, 0, 1, 0);
        dueResidue("3 and no first oil", mill, 0, 3);
        due("nothing poured", mill.tank(0, 1), 48);
    }

    private static void account() {
        says(TERMS, "The account of the grower becomes greater by the first oil of the lot.");
        OliveMill mill = plainMillWith(2, 1000);
        mill.set(0, 50);
        mill.set(5, 2);
        mill.addLot(1, 0, 49, 0, 1000);
        mill.addLot(0, 1, 60, 0, 1000);
        mill.addLot(1, 1, 1, 0, 500);
        mill.addLot(1, 1, 2, 0, 500);
        mill.press(0, false);
        due("though nothing is poured", mill.grower(1, 0), 49);
        mill.press(0, false);
        due("not by the residue that is poured", mill.grower(0, 0), 60);
        due("not the other's", mill.grower(1, 0), 49);
        mill.press(0, false);
        due("by a first oil of 0", mill.grower(1, 0), 49);
        mill.press(0, false);
        due("by a first oil of 1", mill.grower(1, 0), 50);
        due("accounts together", mill.count(9), 110);
    }

    private static void promise7() {
        says(7, "Presses the next lot.");
        OliveMill mill = plainMillWithLots(0, 0);
        mill.press(1, false);
        due("lots that wait", mill.count(2), 1);
        due("the lot", mill.lot(0, 5), 1);
        due("the other one", mill.lot(1, 5), 0);

        says(7, "Undoable.");
        undoes(mill, "press", () -> mill.press(0, false));
        OliveMill idle = plainMillWith(1, 100);
        idle.setYield(0, 50);
        idle.addLot(0, 0, 1, 0, 500);
        undoes(idle, "a press that pours nothing", () -> idle.press(0, false));
        OliveMill cleaner = plainMillWithLots(0, 1);
        cleaner.set(0, 50);
        cleaner.press(0, false);
        undoes(cleaner, "a press that cleans", () -> cleaner.press(0, false));

        says(7, "- `tank`: the number of the tank");
        due("the lot of the first tank", mill.press(0, false), 1);
        due("its tank", mill.lot(1, 9), 0);
        due("the tank of the other lot", mill.lot(0, 9), 1);
        OliveMill six = plainMillWith(1, 100, 100, 100, 100, 100, 100);
        six.addLot(0, 0, 10, 0, 1000);
        six.press(5, false);
        due("oil in the sixth tank", six.tank(5, 1), 10);

        says(7, "- `mixes`: whether mixing is allowed");
        mill.addLot(0, 0, 10, 9, 1000);
        notNow(mill, "without mixing", () -> mill.press(0, false));
        due("with mixing", mill.press(0, true), 2);

        says(7, "Returns the number of the lot.");
        OliveMill order = plainMillWithLots(0, 1, 0);
        order.set(0, 10);
        order.set(5, 1);
        due("the first", order.press(0, true), 0);
        due("the third", order.press(0, true), 2);
        due("the second", order.press(0, true), 1);
    }

    private static void promise7Refusals() {
        says(7, "Throws `IndexOutOfBoundsException` if there is no such tank");
        OliveMill none = new OliveMill();
        noSuch(none, "without tanks, and no lot waits", () -> none.press(0, true));
        OliveMill mill = plainMillWithLots(0);
        noSuchOutside(mill, "press", 0, 1, value -> mill.press(value, true));

        says(7, "Throws `IllegalStateException` if there is a reason against it (see whyNot)");
        OliveMill small = plainMillWith(1, 100, 200);
        notNow(small, "no lot waits", () -> small.press(0, true));
        small.addLot(0, 0, 101, 0, 1000);
        notNow(small, "no room", () -> small.press(0, true));
        due("room", small.press(1, false), 0);
        small.addLot(0, 0, 50, 50, 1000);
        notNow(small, "another grade", () -> small.press(1, false));
        due("an empty tank", small.press(0, false), 1);
        notNow(small, "no lot waits any more", () -> small.press(0, true));
        small.addLot(0, 0, 50, 50, 1000);
        due("just the room, and the same grade", small.press(0, false), 2);
        small.addLot(0, 0, 1, 50, 1000);
        notNow(small, "a full tank", () -> small.press(0, true));
    }

    private static void promise8() {
        says(8, "Cleans the mill: the residue is lost.");
        OliveMill mill = plainMillWithLots(4, 4);
        mill.set(0, 1);
        mill.press(0, false);
        mill.clean();
        dueResidue("after it", mill, -1, 0);
        due("lost", mill.variety(4, 6), 1);
        due("cleanings", mill.count(6), 1);
        due("the tank stays as it is", mill.tank(0, 1), 99);
        mill.press(0, false);
        due("nothing is left for the next lot", mill.tank(0, 1), 198);
        mill.clean();
        due("lost so far", mill.variety(4, 6), 2);

        says(8, "Undoable.");
        mill.addLot(0, 3, 100, 0, 1000);
        mill.press(0, false);
        undoes(mill, "clean", mill::clean);
        mill.clean();
        undoes(mill, "clean without a residue", mill::clean);

        says(8, "Returns how much it was.");
        OliveMill other = plainMillWithLots(0, 1);
        due("none", other.clean(), 0);
        due("that is no cleaning", other.count(6), 0);
        other.set(0, 50);
        other.press(0, false);
        due("the greatest", other.clean(), 50);
        due("none any more", other.clean(), 0);
        due("cleanings", other.count(6), 1);
    }

    private static void promise24() {
        says(24, "Tells why the next lot cannot be pressed.");
        OliveMill mill = plainMillWith(1, 100, 101);
        due("no lot", mill.whyNot(0, true), 1);
        due("no lot, without mixing", mill.whyNot(1, false), 1);
        long before = mill.digest();
        mill.whyNot(0, false);
        due("nothing is changed", mill.digest(), before);

        says(24, "- `tank`: the number of the tank");
        mill.addLot(0, 0, 101, 0, 1000);
        due("the first", mill.whyNot(0, false), 2);
        due("the last", mill.whyNot(1, false), 0);

        says(24, "- `mixes`: whether mixing is allowed");
        mill.press(1, false);
        mill.draw(0, 1, 100);
        mill.addLot(0, 0, 100, 9, 1000);
        due("not allowed", mill.whyNot(1, false), 3);
        due("allowed", mill.whyNot(1, true), 0);

        says(24, "Returns 0 if it can");
        due("an empty tank, just the room", mill.whyNot(0, false), 0);
        due("with mixing, too", mill.whyNot(0, true), 0);
        due("so it can", mill.press(0, false), 1);

        says(24, "Throws `IndexOutOfBoundsException` if there is no such tank");
        noSuchOutside(mill, "whyNot", 0, 1, value -> mill.whyNot(value, true));
        OliveMill none = new OliveMill();
        noSuch(none, "without tanks", () -> none.whyNot(0, false));
    }

    private static void promise24OfTwoReasons() {
        says(24, "otherwise the first one of these that applies: 1 no lot waits; 2 there is no room for what would be"
                + " poured; 3 the tank has another grade, and mixing is not allowed (and something would be poured).");
        OliveMill mill = plainMillWith(1, 100, 100);
        fill(mill, 0, 0, 90, 0);
        due("no lot waits, and little room", mill.whyNot(0, false), 1);
        mill.addLot(0, 0, 11, 9, 1000);
        due("no room, and another grade", mill.whyNot(0, false), 2);
        due("no room, with mixing", mill.whyNot(0, true), 2);
        mill.set(0, 1);
        due("just the room, as 1 would stay, but another grade", mill.whyNot(0, false), 3);
        mill.set(0, 10);
        due("1 would be poured", mill.whyNot(0, false), 3);
        mill.set(0, 11);
        due("nothing would be poured", mill.whyNot(0, false), 0);
        mill.undo();
        mill.undo();
        mill.undo();
        mill.undo();
        mill.addLot(0, 0, 10, 8, 1000);
        due("just the room, and the same grade", mill.whyNot(0, false), 0);
        mill.press(0, false);
        mill.addLot(0, 0, 1, 0, 1000);
        due("a full tank", mill.whyNot(0, true), 2);
        mill.set(0, 1);
        due("nothing into a full tank", mill.whyNot(0, false), 0);
        OliveMill way2 = plainMillWith(1, 100, 100);
        way2.set(5, 2);
        way2.set(0, 50);
        fill(way2, 0, 1, 100, 0);
        way2.addLot(0, 0, 50, 9, 1000);
        due("the residue alone would be poured, with another grade", way2.whyNot(0, false), 3);
        due("and has just the room", way2.whyNot(0, true), 0);
        way2.undo();
        way2.addLot(0, 0, 51, 9, 1000);
        due("the residue and 1 have no room", way2.whyNot(0, true), 2);
    }

    private static void promise25() {
        says(25, "Tells of the next lot.");
        OliveMill mill = plainMillWithLots(2, 3, 3);
        mill.set(0, 10);
        dueNext("no residue", mill, 0, 100, 90, 0, 10);
        long before = mill.digest();
        mill.next(0);
        due("nothing is changed", mill.digest(), before);

        says(25, "0: its number; 1: its first oil; 2: what would be poured; 3: what would be lost by cleaning;"
                + " 4: the residue that would be in the mill then");
        mill.press(0, false);
        mill.set(0, 20);
        dueNext("way 0", mill, 1, 100, 80, 10, 20);
        mill.set(5, 1);
        dueNext("way 1", mill, 1, 100, 80, 10, 20);
        mill.set(5, 2);
        dueNext("way 2", mill, 1, 100, 90, 0, 20);
        mill.press(0, false);
        mill.set(0, 0);
        dueNext("the same variety", mill, 2, 100, 120, 0, 0);
        mill.setYield(3, 50);
        mill.addLot(0, 3, 1, 0, 500);
        mill.press(0, false);
        dueNext("a lot without oil", mill, 3, 0, 0, 0, 0);

        says(25, "Returns the number; NONE if no lot waits.");
        mill.press(0, false);
        dueNext("no lot waits", mill, -1, -1, -1, -1, -1);
        OliveMill none = new OliveMill();
        dueNext("a new mill", none, -1, -1, -1, -1, -1);

        says(25, "Throws `IllegalArgumentException` if what is not 0 to 4");
        outOfRangeOutside(mill, "next", 0, 4, mill::next);
        outOfRange(none, "next(5) without lots", () -> none.next(5));
        outOfRange(none, "next(-1) without lots", () -> none.next(-1));
    }

    private static void promise28() {
        says(28, "Tells what would be lost by cleaning if all lots that wait were pressed, one after the other");
        OliveMill none = new OliveMill();
        due("a new mill", none.lossBy(0), 0);
        OliveMill mill = plainMillWith(1);
        mill.set(0, 10);
        mill.addLot(0, 0, 100, 0, 1000);
        due("one lot leaves its residue in the mill", mill.lossBy(0), 0);
        mill.addLot(0, 1, 100, 0, 1000);
        due("two of different varieties", mill.lossBy(0), 10);
        for (int lot = 2; lot < 40; lot++) {
            mill.addLot(0, lot % 2, 100, 0, 1000);
        }
        due("40 lots", mill.lossBy(0), 390);
        long before = mill.digest();
        mill.lossBy(1);
        due("nothing is changed", mill.digest(), before);

        says(28, "(with tanks that have room, and mixing allowed; the residue, yields and settings, but the way, as they"
                + " are now).");
        OliveMill full = plainMillWith(1, 100);
        full.set(0, 20);
        fill(full, 0, 0, 120, 0);
        full.addLot(0, 1, 1000, 50, 1000);
        due("the residue of now", full.lossBy(0), 20);
        full.addLot(0, 2, 7, 50, 1000);
        full.addLot(0, 3, 1, 0, 1000);
        due("20, then 20, then 7", full.lossBy(0), 47);
        full.set(0, 30);
        due("the setting of now", full.lossBy(0), 57);
        full.setYield(2, 50);
        due("the yield of now", full.lossBy(0), 53);
        full.set(1, 500);
        // 20, then 30 of 500, then 1 of 3
        due("the first pressing of now", full.lossBy(0), 51);
        full.clean();
        due("no residue any more", full.lossBy(0), 31);
    }

    private static void promise28ByWay() {
        says(28, "- `way`: 0 to 2, the way");
        OliveMill mill = plainMillWithLots(0, 1, 0, 2, 1, 0);
        mill.set(0, 5);
        for (int way = 0; way <= 2; way++) {
            mill.set(5, way);
            due("way 0", mill.lossBy(0), 25);
            due("way 1: three of 0, two of 1, one of 2", mill.lossBy(1), 10);
            due("way 2", mill.lossBy(2), 0);
        }

        says(28, "Returns the oil that would be lost.");
        mill.set(5, 1);
        int lost = mill.lossBy(1);
        for (int lot = 0; lot < 6; lot++) {
            mill.press(0, true);
        }
        due("as it was then", mill.variety(0, 6) + mill.variety(1, 6) + mill.variety(2, 6), lost);
        due("no lot waits any more", mill.lossBy(0), 0);

        says(28, "Throws `IllegalArgumentException` if way is out of range");
        outOfRangeOutside(mill, "lossBy", 0, 2, mill::lossBy);
        OliveMill none = new OliveMill();
        outOfRangeOutside(none, "lossBy of a new mill", 0, 2, none::lossBy);
    }
}
