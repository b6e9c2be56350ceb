/** The sentences of "Growers and lots", and of the promises 1, 2, 3, 18 and 19. */
final class LotBounds extends Boundaries {
    static void all() {
        growers();
        varieties();
        lots();
        whatALotHas();
        stages();
        grades();
        none();
        promise1();
        promise2();
        promise3();
        promise3Refusals();
        promise18();
        promise18Refusals();
        promise19();
        promise19Refusals();
    }

    private static OliveMill millWithLots(int lots) {
        OliveMill mill = millWith(1, 20000);
        for (int lot = 0; lot < lots; lot++) {
            mill.addLot(0, 0, 1, 0, 1000);
        }
        return mill;
    }

    private static void growers() {
        says(TERMS, "There are at most 8 growers, numbered from 0, each with an account of oil, at first 0.");
        OliveMill mill = new OliveMill();
        for (int grower = 0; grower < 8; grower++) {
            int number = grower;
            noSuch(mill, "the account of a grower who is not there yet", () -> mill.grower(number, 0));
            due("the number of a grower", mill.addGrower(), grower);
            due("the account at first", mill.grower(grower, 0), 0);
        }
        notNow(mill, "a ninth grower", mill::addGrower);
        noSuch(mill, "the account of a ninth grower", () -> mill.grower(8, 0));
        due("growers", mill.count(0), 8);
        due("accounts", mill.count(9), 0);
    }

    private static void varieties() {
        says(TERMS, "There are 5 varieties, numbered from 0, each with a yield, at first 150, 180, 200, 220 and 160.");
        OliveMill mill = new OliveMill();
        int[] yields = {150, 180, 200, 220, 160};
        for (int variety = 0; variety < yields.length; variety++) {
            due("the yield of variety " + variety, mill.variety(variety, 0), yields[variety]);
        }
        noSuch(mill, "the yield of a sixth variety", () -> mill.variety(5, 0));
        noSuch(mill, "the yield of variety -1", () -> mill.variety(-1, 0));
    }

    private static void lots() {
        says(TERMS, "There are at most 40 lots, numbered from 0 in the order in which they came.");
        OliveMill mill = plainMillWith(1, 20000);
        for (int lot = 0; lot < 30; lot++) {
            due("the number of a lot", mill.addLot(0, 0, 100 + lot, 0, 1000), lot);
        }
        for (int lot = 0; lot < 10; lot++) {
            mill.press(0, false);
        }
        type(mill, "0b130/0;0b131/0;0b132/0;0b133/0");
        due("lots of slips", mill.addSlips(), 4);
        for (int lot = 34; lot < 40; lot++) {
            due("the number of a lot, when others have been pressed", mill.addLot(0, 0, 100 + lot, 0, 1000), lot);
        }
        for (int lot = 0; lot < 40; lot++) {
            due("the kilos of lot " + lot, mill.lot(lot, 2), 100 + lot);
        }
        notNow(mill, "a 41st lot, though only 30 wait", () -> mill.addLot(0, 0, 1, 0, 1000));
        due("lots", mill.count(1), 40);
        due("lots that wait", mill.count(2), 30);
    }

    private static void whatALotHas() {
        says(TERMS, "A lot has a grower, a variety, kilos, 1 to 2000, an acidity, 0 to 50, and a truth, 500 to 1500.");
        OliveMill mill = plainMillWith(8, 20000);
        mill.addLot(0, 0, 1, 0, 500);
        mill.addLot(7, 4, 2000, 50, 1500);
        mill.addLot(3, 2, 999, 25, 501);
        mill.addLot(4, 3, 1000, 1, 1499);
        dueLot("all at the least", mill, 0, 0, 0, 1, 0);
        dueLot("all at the most", mill, 1, 7, 4, 2000, 50);
        dueLot("one", mill, 2, 3, 2, 999, 25);
        dueLot("another one", mill, 3, 4, 3, 1000, 1);
        int[] firstOils = {0, 3000, 500, 1499};
        for (int lot = 0; lot < 4; lot++) {
            mill.press(0, true);
            due("the first oil shows the truth", mill.lot(lot, 7), firstOils[lot]);
        }
    }

    private static void stages() {
        says(TERMS, "It waits, has been pressed once, or twice.");
        OliveMill mill = millWith(1, 500);
        mill.addLot(0, 0, 200, 8, 500);
        due("a lot that waits", mill.lot(0, 5), 0);
        mill.press(0, false);
        due("pressed once", mill.lot(0, 5), 1);
        notNow(mill, "the same lot is not pressed again", () -> mill.press(0, true));
        mill.appeal(0);
        due("pressed twice", mill.lot(0, 5), 2);
        notNow(mill, "a third time", () -> mill.appeal(0));
        mill.undo();
        due("once again", mill.lot(0, 5), 1);
        mill.undo();
        due("it waits again", mill.lot(0, 5), 0);
    }

    private static void grades() {
        says(TERMS, "Its grade is 0 if its acidity is at most 8, 1 if it is at most 20, otherwise 2"
                + " (a greater grade is a worse one).");
        OliveMill mill = plainMillWith(1, 500);
        int[] acidities = {0, 8, 9, 20, 21, 50};
        int[] grades = {0, 0, 1, 1, 2, 2};
        for (int lot = 0; lot < acidities.length; lot++) {
            mill.addLot(0, 0, 10, acidities[lot], 1000);
            due("the grade with the acidity " + acidities[lot], mill.lot(lot, 4), grades[lot]);
            mill.press(0, true);
            due("the tank is as bad as its worst", mill.tank(0, 2), grades[lot]);
        }
        fill(mill, 0, 0, 10, 0);
        due("a smaller grade does not mend it", mill.tank(0, 2), 2);
    }

    private static void none() {
        says(TERMS, "`NONE = -1`: There is nothing to return.");
        due("NONE", OliveMill.NONE, -1);
        OliveMill mill = millWith(1, 100);
        due("the variety of no residue", mill.count(4), OliveMill.NONE);
        due("no next lot", mill.next(0), OliveMill.NONE);
        due("no best tank", mill.bestTank(), OliveMill.NONE);
        due("the grade of an empty tank", mill.tank(0, 2), OliveMill.NONE);
        due("what an empty tank gives", mill.taken(0, 1, 0), OliveMill.NONE);
        mill.addLot(0, 0, 1, 0, 1000);
        due("the due of a lot that waits", mill.lot(0, 6), OliveMill.NONE);
    }

    private static void promise1() {
        says(1, "Creates a mill without growers, lots and tanks, and with an empty buffer.");
        OliveMill mill = new OliveMill();
        dueCounts("a new mill", mill, 0, 0, 0, 0, -1, 0, 0, 0, 0, 0, 0, 0, 0);
        noSuch(mill, "a grower", () -> mill.grower(0, 0));
        noSuch(mill, "a lot", () -> mill.lot(0, 0));
        noSuch(mill, "a tank", () -> mill.tank(0, 0));
        notNow(mill, "undo", mill::undo);
        due("the first error of no text", mill.firstError(), 0);
        outOfRange(mill, "no text is no row of slips", mill::addSlips);
        due("the length of the buffer", mill.clearBuffer(), 0);
        due("the first character of it", mill.append('0'), 1);
        OliveMill other = new OliveMill();
        due("another mill has a buffer of its own", other.clearBuffer(), 0);
        mill.addGrower();
        mill.addTank(100);
        dueCounts("another mill", other, 0, 0, 0, 0, -1, 0, 0, 0, 0, 0, 0, 0, 0);
    }

    private static void promise2() {
        says(2, "Adds a grower.");
        OliveMill mill = new OliveMill();
        mill.addGrower();
        due("growers", mill.count(0), 1);
        dueGrower("a new one", mill, 0, 0, 0, 0, 0, 0, 0);

        says(2, "Undoable.");
        undoes(mill, "addGrower", mill::addGrower);
        OliveMill seven = millWith(7);
        undoes(seven, "the eighth addGrower", seven::addGrower);

        says(2, "Returns the number of the grower.");
        OliveMill another = new OliveMill();
        due("the first", another.addGrower(), 0);
        due("the second", another.addGrower(), 1);
        another.undo();
        due("the second, once more", another.addGrower(), 1);

        says(2, "Throws `IllegalStateException` if there are 8 growers");
        due("the eighth", seven.addGrower(), 7);
        notNow(seven, "the ninth", seven::addGrower);
        notNow(seven, "the ninth again", seven::addGrower);
        seven.undo();
        due("the eighth again", seven.addGrower(), 7);
        notNow(seven, "the ninth once more", seven::addGrower);
    }

    private static void promise3() {
        says(3, "Adds a lot, which waits.");
        OliveMill mill = millWith(2, 100);
        mill.addLot(1, 3, 7, 21, 1100);
        dueLot("a new one", mill, 0, 1, 3, 7, 21, 2, 0, -1, -1, -1, -1, 1);
        due("lots", mill.count(1), 1);
        due("lots that wait", mill.count(2), 1);

        says(3, "Undoable.");
        undoes(mill, "addLot", () -> mill.addLot(0, 0, 1, 0, 500));

        says(3, "- `grower`: the number of the grower");
        OliveMill eight = millWith(8);
        due("of the first", eight.addLot(0, 0, 1, 0, 500), 0);
        due("of the last", eight.addLot(7, 0, 1, 0, 500), 1);
        due("the first", eight.lot(0, 0), 0);
        due("the last", eight.lot(1, 0), 7);

        says(3, "- `variety`: 0 to 4");
        OliveMill some = millWith(1);
        due("variety 0", some.addLot(0, 0, 1, 0, 500), 0);
        due("variety 4", some.addLot(0, 4, 1, 0, 500), 1);
        due("the most", some.lot(1, 1), 4);
        outOfRangeOutside(some, "variety", 0, 4, value -> some.addLot(0, value, 1, 0, 500));

        says(3, "- `kilos`: 1 to 2000");
        due("1 kilo", some.addLot(0, 0, 1, 0, 500), 2);
        due("2000 kilos", some.addLot(0, 0, 2000, 0, 500), 3);
        due("the most", some.lot(3, 2), 2000);
        outOfRangeOutside(some, "kilos", 1, 2000, value -> some.addLot(0, 0, value, 0, 500));

        says(3, "- `acidity`: 0 to 50");
        due("acidity 0", some.addLot(0, 0, 1, 0, 500), 4);
        due("acidity 50", some.addLot(0, 0, 1, 50, 500), 5);
        due("the most", some.lot(5, 3), 50);
        outOfRangeOutside(some, "acidity", 0, 50, value -> some.addLot(0, 0, 1, value, 500));

        says(3, "- `truth`: 500 to 1500");
        due("truth 500", some.addLot(0, 0, 1, 0, 500), 6);
        due("truth 1500", some.addLot(0, 0, 1, 0, 1500), 7);
        outOfRangeOutside(some, "truth", 500, 1500, value -> some.addLot(0, 0, 1, 0, value));

        says(3, "Returns its number.");
        due("the number of the next", some.addLot(0, 0, 1, 0, 500), 8);
        some.undo();
        due("the same number after undo", some.addLot(0, 0, 1, 0, 500), 8);
    }

    private static void promise3Refusals() {
        says(3, "Throws `IndexOutOfBoundsException` if there is no such grower");
        OliveMill none = new OliveMill();
        noSuch(none, "without growers", () -> none.addLot(0, 0, 1, 0, 500));
        OliveMill mill = millWith(7);
        noSuchOutside(mill, "grower", 0, 6, value -> mill.addLot(value, 0, 1, 0, 500));
        OliveMill full = millWithLots(40);
        noSuch(full, "with wrong arguments and 40 lots", () -> full.addLot(1, 5, 0, 51, 499));
        noSuch(full, "with 40 lots", () -> full.addLot(-1, 0, 1, 0, 500));

        says(3, "Throws `IllegalArgumentException` if another argument is out of range");
        outOfRange(full, "the variety, with 40 lots", () -> full.addLot(0, 5, 1, 0, 500));
        outOfRange(full, "the kilos, with 40 lots", () -> full.addLot(0, 0, 2001, 0, 500));
        outOfRange(full, "the acidity, with 40 lots", () -> full.addLot(0, 0, 1, -1, 500));
        outOfRange(full, "the truth, with 40 lots", () -> full.addLot(0, 0, 1, 0, 1501));

        says(3, "Throws `IllegalStateException` if there are 40 lots");
        OliveMill nearly = millWithLots(39);
        due("the 40th", nearly.addLot(0, 0, 1, 0, 500), 39);
        notNow(nearly, "the 41st", () -> nearly.addLot(0, 0, 1, 0, 500));
        nearly.press(0, false);
        notNow(nearly, "the 41st, when one has been pressed", () -> nearly.addLot(0, 0, 1, 0, 500));
        nearly.undo();
        nearly.undo();
        due("the 40th, when it was undone", nearly.addLot(0, 0, 1, 0, 500), 39);
    }

    private static void promise18() {
        says(18, "Returns a property of a grower.");
        OliveMill mill = millWith(8, 500);
        dueGrower("of one who has nothing", mill, 7, 0, 0, 0, 0, 0, 0);
        noSuch(mill, "of a ninth", () -> mill.grower(8, 0));

        says(18, "0: the account; 1: lots; 2: lots that wait; 3: oil that was drawn so far; 4: appeals so far;"
                + " 5: appeals that were lost so far");
        mill.addLot(7, 0, 200, 8, 500);
        mill.addLot(7, 0, 200, 8, 500);
        mill.addLot(6, 0, 1, 8, 1000);
        dueGrower("two lots wait", mill, 7, 0, 2, 2, 0, 0, 0);
        mill.press(0, false);
        mill.press(0, false);
        dueGrower("none waits", mill, 7, 254, 2, 0, 0, 0, 0);
        dueGrower("of another", mill, 6, 0, 1, 1, 0, 0, 0);
        mill.draw(7, 0, 1);
        dueGrower("1 was drawn", mill, 7, 253, 2, 0, 1, 0, 0);
        mill.set(4, 13);
        mill.appeal(0);
        dueGrower("an appeal that was not lost", mill, 7, 266, 2, 0, 1, 1, 0);
        mill.set(4, 14);
        mill.appeal(1);
        dueGrower("one that was", mill, 7, 265, 2, 0, 1, 2, 1);
        mill.draw(7, 0, 265);
        dueGrower("all drawn", mill, 7, 0, 2, 0, 266, 2, 1);
        mill.pass(1);
        dueGrower("the growers stay as they are when days pass", mill, 7, 0, 2, 0, 266, 2, 1);

        says(18, "Returns the property.");
        OliveMill many = millWith(1);
        for (int lot = 0; lot < 40; lot++) {
            many.addLot(0, 0, 1, 0, 1000);
        }
        due("all 40 lots", many.grower(0, 1), 40);
        due("all 40 that wait", many.grower(0, 2), 40);
    }

    private static void promise18Refusals() {
        OliveMill mill = millWith(3);
        says(18, "- `grower`: the number of the grower");
        due("the first", mill.grower(0, 0), 0);
        due("the last", mill.grower(2, 5), 0);

        says(18, "Throws `IndexOutOfBoundsException` if there is no such grower");
        noSuchOutside(mill, "grower", 0, 2, value -> mill.grower(value, 0));
        noSuch(mill, "grower(3, -1)", () -> mill.grower(3, -1));
        noSuch(mill, "grower(-1, 6)", () -> mill.grower(-1, 6));

        says(18, "Throws `IllegalArgumentException` if what is not 0 to 5");
        due("what 0", mill.grower(0, 0), 0);
        due("what 5", mill.grower(0, 5), 0);
        outOfRangeOutside(mill, "what", 0, 5, value -> mill.grower(0, value));
    }

    private static void promise19() {
        says(19, "Returns a property of a lot.");
        OliveMill mill = millWith(2, 300, 1000);
        mill.addLot(1, 4, 250, 20, 600);
        dueLot("while it waits", mill, 0, 1, 4, 250, 20, 1, 0, -1, -1, -1, -1, 1);

        says(19, "6: its due, 7: its first oil, 8: its second oil, 9: the tank into which it was poured"
                + " (NONE for each that there is not yet)");
        mill.press(1, false);
        // 250 * 160 / 100 = 400, 400 * 600 / 1000 = 240, 240 * 850 / 1000 = 204
        dueLot("pressed once", mill, 0, 1, 4, 250, 20, 1, 1, 400, 204, -1, 1, 0);
        mill.appeal(0);
        // 36 * 600 / 1000 = 21.6
        dueLot("pressed twice", mill, 0, 1, 4, 250, 20, 1, 2, 400, 204, 21, 1, 1);
        OliveMill dry = millWith(1, 100);
        dry.setYield(0, 50);
        dry.addLot(0, 0, 1, 0, 1000);
        dry.press(0, false);
        dueLot("a due, an oil and a tank of 0 are there", dry, 0, 0, 0, 1, 0, 0, 1, 0, 0, -1, 0, 2);

        says(19, "0 if it waits, 1 if it has been pressed once, 2 if twice");
        due("twice", mill.lot(0, 5), 2);
        mill.undo();
        due("once", mill.lot(0, 5), 1);
        mill.undo();
        due("it waits", mill.lot(0, 5), 0);

        says(19, "10: why its grower cannot appeal: 0 if that is possible, otherwise the first one of these that applies:"
                + " 1 it has not been pressed just once, 2 its first oil is not so little,"
                + " 3 there is no room for its second oil");
        due("it waits", mill.lot(0, 10), 1);
        mill.press(0, false);
        due("it is possible", mill.lot(0, 10), 0);
        mill.addLot(0, 4, 54, 0, 1000);
        mill.press(0, true);
        // 194 of the first lot, 73 first oil, 267 in the tank of 300; 21 have room, 36 not
        due("21 have room", mill.lot(0, 10), 0);
        mill.set(2, 1000);
        due("36 have none", mill.lot(0, 10), 3);
        mill.set(6, 400);
        due("not so little, and no room", mill.lot(0, 10), 2);
        mill.set(6, 100);
        mill.set(2, 600);
        mill.appeal(0);
        due("pressed twice, and no room", mill.lot(0, 10), 1);

        says(19, "Returns the property.");
        due("of the last of the lots", mill.lot(1, 2), 54);
    }

    private static void promise19Refusals() {
        says(19, "- `lot`: its number");
        OliveMill none = millWith(1);
        noSuch(none, "without lots", () -> none.lot(0, 0));
        OliveMill full = millWithLots(40);
        due("the first", full.lot(0, 2), 1);
        due("the last", full.lot(39, 2), 1);

        says(19, "Throws `IndexOutOfBoundsException` if there is no such lot");
        noSuchOutside(full, "lot", 0, 39, value -> full.lot(value, 0));
        noSuch(full, "lot(40, 11)", () -> full.lot(40, 11));
        OliveMill two = millWithLots(2);
        noSuchOutside(two, "lot", 0, 1, value -> two.lot(value, 10));
        noSuch(two, "lot(2, -1)", () -> two.lot(2, -1));

        says(19, "Throws `IllegalArgumentException` if what is not 0 to 10");
        due("what 0", two.lot(1, 0), 0);
        due("what 10", two.lot(1, 10), 1);
        outOfRangeOutside(two, "what", 0, 10, value -> two.lot(1, value));
    }
}
