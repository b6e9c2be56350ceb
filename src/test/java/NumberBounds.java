/** The sentences of the promises 21, 22 and 31. */
final class NumberBounds extends Boundaries {
    static void all() {
        promise21();
        promise21Refusals();
        promise22();
        promise22Residue();
        promise22Full();
        promise22AllPressed();
        promise22Refusals();
        promise31();
        promise31Edges();
    }

    private static void promise21() {
        says(21, "Returns a number of a variety.");
        OliveMill mill = plainMillWith(1, 1000, 1000);
        long before = mill.digest();
        dueVariety("nothing has happened", mill, 4, 100, 0, 0, 0, 0, 0, 0, 0);
        due("nothing is changed", mill.digest(), before);

        says(21, "0: its yield; 1: oil that was pressed so far (first and second oil); 2: oil in tanks;"
                + " 3: the residue in the mill; 4: oil that was drawn so far; 5: oil that was lost as sediment so far;"
                + " 6: oil that was lost by cleaning so far; 7: lots that wait");
        mill.addLot(0, 4, 500, 0, 800);
        mill.addLot(0, 4, 10, 0, 1000);
        mill.addLot(0, 3, 10, 0, 1000);
        dueVariety("two lots wait", mill, 4, 100, 0, 0, 0, 0, 0, 0, 2);
        dueVariety("one lot waits", mill, 3, 100, 0, 0, 0, 0, 0, 0, 1);
        mill.set(0, 50);
        mill.set(1, 500);
        mill.press(0, false);
        dueVariety("first oil", mill, 4, 100, 200, 150, 50, 0, 0, 0, 1);
        mill.set(1, 1000);
        mill.set(2, 1000);
        mill.appeal(0);
        dueVariety("first and second oil", mill, 4, 100, 400, 350, 50, 0, 0, 0, 1);
        mill.draw(0, 0, 50);
        dueVariety("drawn", mill, 4, 100, 400, 300, 50, 50, 0, 0, 1);
        mill.set(3, 50);
        mill.pass(1);
        dueVariety("lost as sediment", mill, 4, 100, 400, 285, 50, 50, 15, 0, 1);
        mill.clean();
        dueVariety("lost by cleaning", mill, 4, 100, 400, 285, 0, 50, 15, 50, 1);
        mill.press(1, false);
        dueVariety("pressed again", mill, 4, 100, 410, 285, 10, 50, 15, 50, 0);
        mill.press(1, false);
        dueVariety("lost by cleaning ahead of another", mill, 4, 100, 410, 285, 0, 50, 15, 60, 0);
        dueVariety("the other one", mill, 3, 100, 10, 0, 10, 0, 0, 0, 0);
        mill.move(0, 1, 100, false);
        dueVariety("moved", mill, 4, 100, 410, 285, 0, 50, 15, 60, 0);
        mill.pass(1);
        // 9 of 185 and 5 of 100
        dueVariety("in both tanks", mill, 4, 100, 410, 271, 0, 50, 29, 60, 0);
        mill.undo();
        mill.undo();
        mill.undo();
        mill.undo();
        dueVariety("what is counted so far is undone, too", mill, 4, 100, 400, 285, 0, 50, 15, 50, 1);

        says(21, "Returns the number.");
        mill.setYield(4, 400);
        due("the yield of now", mill.variety(4, 0), 400);
    }

    private static void promise21Refusals() {
        OliveMill mill = new OliveMill();
        says(21, "- `variety`: 0 to 4");
        due("the first", mill.variety(0, 0), 150);
        due("the last", mill.variety(4, 0), 160);

        says(21, "Throws `IndexOutOfBoundsException` if there is no such variety");
        noSuchOutside(mill, "variety", 0, 4, value -> mill.variety(value, 0));
        noSuch(mill, "variety(5, 8)", () -> mill.variety(5, 8));
        noSuch(mill, "variety(-1, -1)", () -> mill.variety(-1, -1));

        says(21, "Throws `IllegalArgumentException` if what is not 0 to 7");
        due("what 7", mill.variety(0, 7), 0);
        outOfRangeOutside(mill, "what", 0, 7, value -> mill.variety(4, value));
    }

    private static void promise22() {
        says(22, "0: growers; 1: lots; 2: lots that wait; 3: tanks;");
        OliveMill mill = new OliveMill();
        dueCounts("a new mill", mill, 0, 0, 0, 0, -1, 0, 0, 0, 0, 0, 0, 0, 0);
        mill.addGrower();
        dueCounts("a grower", mill, 1, 0, 0, 0, -1, 0, 0, 0, 0, 0, 0, 0, 1);
        mill.addTank(1000);
        mill.addTank(1000);
        dueCounts("two tanks", mill, 1, 0, 0, 2, -1, 0, 0, 0, 0, 0, 0, 0, 3);
        mill.addLot(0, 0, 400, 8, 500);
        mill.addLot(0, 1, 100, 9, 1000);
        dueCounts("two lots", mill, 1, 2, 2, 2, -1, 0, 0, 0, 0, 0, 0, 0, 5);

        says(22, "8: oil in tanks; 9: accounts, together; 10: oil in tanks of the grade 0; 11: appeals so far;"
                + " 12: saved states");
        mill.press(0, false);
        // 600, 300, 255
        dueCounts("pressed", mill, 1, 2, 1, 2, 0, 10, 0, 0, 245, 255, 245, 0, 6);
        mill.press(1, false);
        // 180, 180, 153
        dueCounts("pressed, of another grade", mill, 1, 2, 0, 2, 1, 10, 1, 0, 388, 408, 245, 0, 6);
        mill.appeal(0);
        dueCounts("an appeal", mill, 1, 2, 0, 2, 1, 10, 1, 0, 415, 435, 272, 1, 6);
        mill.draw(0, 1, 13);
        dueCounts("drawn", mill, 1, 2, 0, 2, 1, 10, 1, 0, 402, 422, 272, 1, 6);
        mill.move(1, 0, 1, true);
        dueCounts("good oil spoiled", mill, 1, 2, 0, 2, 1, 10, 1, 0, 402, 422, 0, 1, 6);
        mill.undo();
        dueCounts("and undone", mill, 1, 2, 0, 2, 1, 10, 1, 0, 402, 422, 272, 1, 5);

        says(22, "Returns a number.");
        long before = mill.digest();
        mill.count(9);
        due("nothing is changed", mill.digest(), before);

        says(22, "Returns the number.");
        OliveMill two = millWith(2, 1000);
        two.addLot(0, 0, 400, 8, 500);
        two.addLot(1, 0, 400, 8, 500);
        two.press(0, false);
        two.press(0, false);
        two.appeal(0);
        two.appeal(1);
        due("the accounts of both", two.count(9), 564);
        due("the appeals of both", two.count(11), 2);
    }

    private static void promise22Residue() {
        says(22, "4: the variety of the residue, NONE without one; 5: the residue; 6: cleanings with a residue so far,"
                + " by press() and by clean(); 7: days so far;");
        OliveMill mill = plainMillWith(1, 1000);
        mill.set(0, 1);
        mill.clean();
        due("a cleaning without a residue does not count", mill.count(6), 0);
        fill(mill, 0, 0, 10, 0);
        due("a residue of variety 0", mill.count(4), 0);
        due("a residue of 1", mill.count(5), 1);
        fill(mill, 0, 4, 10, 0);
        due("a residue of variety 4", mill.count(4), 4);
        due("cleaned by press()", mill.count(6), 1);
        mill.clean();
        due("no residue", mill.count(4), -1);
        due("no residue", mill.count(5), 0);
        due("cleaned by clean()", mill.count(6), 2);
        mill.clean();
        fill(mill, 0, 3, 10, 0);
        due("nothing was there to be cleaned away", mill.count(6), 2);
        fill(mill, 0, 3, 10, 0);
        due("the same variety", mill.count(6), 2);
        mill.set(5, 2);
        fill(mill, 0, 2, 10, 0);
        due("poured, not cleaned away", mill.count(6), 2);
        mill.set(5, 1);
        fill(mill, 0, 1, 10, 0);
        due("cleaned by press() with the way 1", mill.count(6), 3);
        mill.undo();
        due("undone", mill.count(6), 2);
        mill.pass(1);
        mill.pass(100);
        due("days", mill.count(7), 101);
        mill.undo();
        due("days", mill.count(7), 1);
    }

    private static void promise22Full() {
        says(22, "10: oil in tanks of the grade 0");
        OliveMill mill = plainMillWith(8, 100, 100, 100, 100, 100, 100);
        for (int tank = 0; tank < 6; tank++) {
            fill(mill, tank, tank % 5, 100, tank == 2 ? 9 : tank == 3 ? 21 : 8);
        }
        for (int lot = 6; lot < 40; lot++) {
            mill.addLot(7, 0, 1, 0, 1000);
        }
        dueCounts("all that there can be", mill, 8, 40, 34, 6, -1, 0, 0, 0, 600, 600, 400, 0, 6);
    }

    /** With all rows full, so that none may run into another. */
    private static void promise22AllPressed() {
        says(22, "8: oil in tanks; 9: accounts, together; 10: oil in tanks of the grade 0");
        OliveMill mill = plainMillWith(8, 2000, 2000, 2000, 2000, 2000, 2000);
        for (int lot = 0; lot < 40; lot++) {
            mill.addLot(lot % 8, lot % 5, 100, lot == 39 ? 50 : 0, 1000);
            mill.press(lot % 6, true);
        }
        dueCounts("40 lots of 100, 7 of them in the bad tank", mill, 8, 40, 0, 6, -1, 0, 0, 0, 4000, 4000, 3300, 0, 6);
        mill.set(3, 50);
        // 10 times 200 and 20 times 100, of a variety in a tank
        due("lost in a day", mill.pass(1), 200);
        dueCounts("a day later", mill, 8, 40, 0, 6, -1, 0, 0, 1, 3800, 4000, 3135, 0, 6);
        due("the other 3800, but the last 19 of each", mill.pass(100), 3800 - 30 * 19);
        for (int variety = 0; variety < 5; variety++) {
            dueVariety("after all", mill, variety, 100, 800, 6 * 19, 0, 0, 800 - 6 * 19, 0, 0);
        }
        for (int grower = 0; grower < 8; grower++) {
            dueGrower("after all", mill, grower, 500, 5, 0, 0, 0, 0);
        }
        for (int lot = 0; lot < 40; lot += 13) {
            dueLot("after all", mill, lot, lot % 8, lot % 5, 100, lot == 39 ? 50 : 0, lot == 39 ? 2 : 0, 1, 100, 100, -1,
                    lot % 6, 2);
        }
        for (int tank = 0; tank < 6; tank++) {
            due("the size of tank " + tank, mill.tank(tank, 0), 2000);
            dueTank("after all", mill, tank, tank == 3 ? 2 : 0, 19, 19, 19, 19, 19);
        }
        int[] settings = {0, 1000, 600, 50, 20, 0, 100};
        for (int setting = 0; setting < 7; setting++) {
            due("the setting " + setting, mill.setting(setting), settings[setting]);
        }
    }

    private static void promise22Refusals() {
        says(22, "Throws `IllegalArgumentException` if what is not 0 to 12");
        OliveMill mill = new OliveMill();
        due("what 0", mill.count(0), 0);
        due("what 12", mill.count(12), 0);
        outOfRangeOutside(mill, "count", 0, 12, mill::count);
    }

    private static void promise31() {
        says(31, "Computes a hash of the whole state.");
        OliveMill mill = plainMillWith(2, 300, 200);
        mill.set(0, 7);
        mill.addLot(1, 0, 200, 8, 700);
        mill.addLot(0, 1, 90, 8, 1000);
        mill.addLot(0, 0, 20, 30, 1000);
        mill.press(0, false);
        mill.press(1, false);
        mill.move(0, 1, 11, true);
        mill.appeal(0);
        mill.draw(1, 1, 3);
        mill.pass(3);
        long before = mill.digest();
        due("again", mill.digest(), before);

        says(31, "For each value v of the following list, in order, the hash becomes 31 * hash + v,"
                + " in long arithmetic with overflow.");
        due("digest", mill.digest(), DigestByFace.of(mill, ""));
        due("it is more than a long has", DigestByFace.bits() > 64 ? 1 : 0, 1);
        due("whyNot with false", mill.whyNot(0, false), 3);
        due("whyNot with true", mill.whyNot(0, true), 0);

        says(31, "the length of the buffer and each of its character codes.");
        type(mill, "~!0a");
        due("digest", mill.digest(), DigestByFace.of(mill, "~!0a"));
        mill.clearBuffer();
        due("digest", mill.digest(), before);

        says(31, "Returns the hash.");
        OliveMill undone = millWith(3, 100);
        undone.undo();
        due("after undo", undone.digest(), DigestByFace.of(undone, ""));
    }

    private static void promise31Edges() {
        says(31, "The hash starts at 2393.");
        due("of a new mill", new OliveMill().digest(), DigestByFace.of(new OliveMill(), ""));

        says(31, "The values are: count(0) to count(12); the settings 0 to 6; for each grower the properties 0 to 5; for each"
                + " lot its properties 0 to 10; for each tank its properties 0 to 2 and 10 to 14, whyNot with false, whyNot"
                + " with true, oilIn with 30 days, and taken with 1 decilitre for each variety; for each variety its numbers"
                + " 0 to 7; next with 0 to 4; lossBy with 0 to 2; bestTank; the bits of goodShare (as"
                + " Double.doubleToLongBits)");
        OliveMill growers = millWith(8);
        due("eight growers", growers.digest(), DigestByFace.of(growers, ""));
        OliveMill tanks = plainMillWith(1, 100, 100, 100, 100, 100, 100);
        fill(tanks, 5, 0, 100, 0);
        fill(tanks, 3, 4, 100, 9);
        due("six tanks", tanks.digest(), DigestByFace.of(tanks, ""));
        tanks.set(3, 50);
        due("tanks, and the days of oilIn", tanks.digest(), DigestByFace.of(tanks, ""));
        int[][] shares = {{0, 9}, {1, 0}, {1, 1}, {1, 2}, {3, 7}, {1, 19999}, {19999, 1}, {6667, 3333}};
        for (int[] share : shares) {
            OliveMill mill = plainMillWith(1, 20000, 20000);
            pour(mill, 0, share[0], 0);
            pour(mill, 1, share[1], 50);
            due(share[0] + " good and " + share[1] + " bad", mill.digest(), DigestByFace.of(mill, ""));
        }
        OliveMill lots = millWith(1);
        for (int lot = 0; lot < 20; lot++) {
            lots.addLot(0, lot % 5, 1 + lot, lot, 1000);
        }
        due("twenty lots", lots.digest(), DigestByFace.of(lots, ""));
        OliveMill text = new OliveMill();
        for (int at = 0; at < 60; at++) {
            text.append('~');
        }
        due("a buffer of 60", text.digest(), DigestByFace.of(text, "~".repeat(60)));
    }

    private static void pour(OliveMill mill, int tank, int oil, int acidity) {
        for (int left = oil; left > 0; left -= 2000) {
            fill(mill, tank, 0, Math.min(left, 2000), acidity);
        }
    }
}
