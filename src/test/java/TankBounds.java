/** The sentences of "Tanks", and of the promises 4, 10, 11, 12, 20, 26, 27, 29 and 30. */
final class TankBounds extends Boundaries {
    static void all() {
        divisions();
        decilitres();
        tanks();
        grades();
        roomAndGrade();
        gradeOfAResidue();
        nothingPoured();
        shares();
        ties();
        sediment();
        promise4();
        promise10();
        promise10Refusals();
        promise11();
        promise11Refusals();
        promise12();
        promise20();
        promise26();
        promise26Refusals();
        promise27();
        promise29();
        promise29WithoutOil();
        promise29OfSix();
        promise30();
    }

    /** Oil of the varieties 0 and on in tank 0, all of grade 0. */
    private static OliveMill millWithOil(int... oils) {
        OliveMill mill = plainMillWith(1, 20000, 20000);
        for (int variety = 0; variety < oils.length; variety++) {
            for (int left = oils[variety]; left > 0; left -= 2000) {
                fill(mill, 0, variety, Math.min(left, 2000), 0);
            }
        }
        return mill;
    }

    /** Each division of the document, by one less than what would not be rounded. */
    private static void divisions() {
        says(TERMS, "All numbers are integers; divisions are rounded down, unless something else is told.");
        OliveMill mill = millWith(1, 5000);
        mill.set(0, 0);
        mill.setYield(0, 199);
        mill.addLot(0, 0, 501, 0, 501);
        mill.set(1, 501);
        mill.press(0, false);
        // 996.99, 498.996 of 996, 249.498 of 498
        due("the due", mill.lot(0, 6), 996);
        due("the first oil", mill.lot(0, 7), 249);
        mill.set(2, 999);
        mill.set(6, 499);
        // 498.996 of 996, 249.498 of 498
        due("the first oil that would be enough", mill.lot(0, 10), 2);
        mill.set(6, 497);
        // 250.494 of 498
        due("one more", mill.lot(0, 10), 0);
        // 248.751 of 249
        due("the second oil", mill.appeal(0), 248);
        fill(mill, 0, 1, 3, 0);
        // 0.994 and 0.004
        mill.set(3, 2);
        due("the sediment of 497 and of 2", mill.pass(1), 0);
        // 496 and 2, 1 and 497, by 499
        dueShares(mill, 498, 496, 2, 0, 0, 0);
        mill.set(3, 3);
        due("the sediment, 1.491 and 0.006", mill.pass(1), 1);
    }

    private static void decilitres() {
        says(TERMS, "Oil is told in decilitres.");
        OliveMill mill = plainMillWith(1, 2000, 2000);
        fill(mill, 0, 0, 1000, 0);
        due("first oil", mill.lot(0, 7), 1000);
        due("in the tank", mill.tank(0, 1), 1000);
        due("in the account", mill.grower(0, 0), 1000);
        due("moved", mill.move(0, 1, 1, false), 1);
        due("drawn", mill.draw(0, 0, 1), 999);
    }

    private static void tanks() {
        says(TERMS, "There are at most 6 tanks, numbered from 0, with a size, 100 to 20000.");
        OliveMill mill = new OliveMill();
        int[] sizes = {100, 20000, 101, 19999, 100, 20000};
        for (int tank = 0; tank < sizes.length; tank++) {
            int number = tank;
            noSuch(mill, "a tank that is not there yet", () -> mill.tank(number, 0));
            due("the number of a tank", mill.addTank(sizes[tank]), tank);
            due("its size", mill.tank(tank, 0), sizes[tank]);
        }
        notNow(mill, "a seventh tank", () -> mill.addTank(100));
        due("tanks", mill.count(3), 6);
        OliveMill other = new OliveMill();
        outOfRangeOutside(other, "the size", 100, 20000, other::addTank);
    }

    private static void grades() {
        says(TERMS, "A tank has oil of the varieties, and a grade: that of what was poured into it, the worst of all since"
                + " it was empty; an empty tank has none.");
        OliveMill mill = plainMillWith(1, 1000, 1000);
        dueTank("an empty tank", mill, 0, -1, 0, 0, 0, 0, 0);
        fill(mill, 0, 4, 50, 9);
        dueTank("one lot", mill, 0, 1, 0, 0, 0, 0, 50);
        fill(mill, 0, 3, 40, 0);
        dueTank("a better one", mill, 0, 1, 0, 0, 0, 40, 50);
        fill(mill, 0, 2, 1, 21);
        dueTank("1 of a worse one", mill, 0, 2, 0, 0, 1, 40, 50);
        fill(mill, 0, 1, 40, 0);
        dueTank("still the worst", mill, 0, 2, 0, 40, 1, 40, 50);
        mill.draw(0, 0, 130);
        due("1 is left", mill.tank(0, 1), 1);
        due("still the worst", mill.tank(0, 2), 2);
        mill.draw(0, 0, 1);
        dueTank("empty once more", mill, 0, -1, 0, 0, 0, 0, 0);
        fill(mill, 0, 0, 10, 0);
        dueTank("the worst since it was empty", mill, 0, 0, 10, 0, 0, 0, 0);
        mill.move(0, 1, 10, false);
        due("empty by a move", mill.tank(0, 2), -1);
        fill(mill, 0, 0, 10, 50);
        due("new again", mill.tank(0, 2), 2);
        mill.move(1, 0, 1, true);
        due("a better one that is moved does not mend it", mill.tank(0, 2), 2);
        mill.move(0, 1, 1, true);
        due("a worse one that is moved spoils it", mill.tank(1, 2), 2);
    }

    private static void roomAndGrade() {
        says(TERMS, "Oil can be poured into a tank if all of it has room, and, unless mixing is allowed, the tank is empty"
                + " or has the same grade.");
        OliveMill mill = plainMillWith(1, 100, 1000);
        mill.addLot(0, 0, 101, 0, 1000);
        notNow(mill, "101 into 100", () -> mill.press(0, true));
        mill.press(1, true);
        mill.addLot(0, 0, 100, 9, 1000);
        due("100 into 100, an empty tank", mill.press(0, false), 1);
        notNow(mill, "1 into a full tank", () -> mill.move(1, 0, 1, true));
        mill.draw(0, 0, 50);
        int[] acidities = {8, 9, 20, 21};
        for (int acidity : acidities) {
            mill.addLot(0, 1, 50, acidity, 1000);
            boolean same = acidity == 9 || acidity == 20;
            due("the acidity " + acidity + " without mixing", mill.whyNot(0, false), same ? 0 : 3);
            due("the acidity " + acidity + " with mixing", mill.whyNot(0, true), 0);
            mill.undo();
        }
        notNow(mill, "a better one moved into a worse one", () -> mill.move(1, 0, 1, false));
        notNow(mill, "a worse one moved into a better one", () -> mill.move(0, 1, 1, false));
        due("moved with mixing, just the room", mill.move(1, 0, 50, true), 100);
    }

    private static void gradeOfAResidue() {
        says(TERMS, "(The residue of another lot is poured as if it had the grade of the lot that is pressed.");
        OliveMill mill = plainMillWith(1, 1000, 1000);
        mill.set(5, 2);
        mill.set(0, 50);
        fill(mill, 0, 0, 100, 50);
        mill.addLot(0, 1, 10, 0, 1000);
        mill.press(1, false);
        dueTank("the residue alone", mill, 1, 0, 50, 0, 0, 0, 0);
        mill.addLot(0, 0, 70, 0, 1000);
        due("the same grade", mill.whyNot(1, false), 0);
        mill.press(1, false);
        dueTank("a residue of 10", mill, 1, 0, 70, 10, 0, 0, 0);
        OliveMill same = plainMillWith(1, 1000, 1000);
        same.set(0, 50);
        fill(same, 0, 0, 100, 50);
        fill(same, 1, 0, 50, 0);
        dueTank("a residue of the same variety", same, 1, 0, 50, 0, 0, 0, 0);
    }

    private static void nothingPoured() {
        says(TERMS, "If a lot pours nothing, the tank stays as it is; it is the tank of the lot all the same.)");
        OliveMill mill = plainMillWith(1, 100, 100);
        fill(mill, 0, 0, 100, 0);
        mill.set(0, 50);
        mill.addLot(0, 1, 50, 50, 1000);
        due("into a full tank of another grade", mill.press(0, false), 1);
        dueTank("as it was", mill, 0, 0, 100, 0, 0, 0, 0);
        due("the tank of the lot", mill.lot(1, 9), 0);
        mill.clean();
        mill.addLot(0, 1, 50, 50, 1000);
        due("into an empty one", mill.press(1, false), 2);
        dueTank("as it was", mill, 1, -1, 0, 0, 0, 0, 0);
        due("the tank of the lot", mill.lot(2, 9), 1);
        mill.addLot(0, 1, 1, 50, 1000);
        notNow(mill, "1 into a full tank", () -> mill.press(0, true));
        mill.press(1, false);
        dueTank("1 has been poured", mill, 1, 2, 0, 1, 0, 0, 0);
    }

    private static void dueShares(OliveMill mill, int oil, int... parts) {
        for (int variety = 0; variety < parts.length; variety++) {
            due("taken(0, " + oil + ", " + variety + ")", mill.taken(0, oil, variety), parts[variety]);
        }
    }

    private static void shares() {
        says(TERMS, "Oil that is drawn or moved out of a tank is of all its varieties: of each one what it has times the oil"
                + " that is taken, divided by all that is in the tank");
        OliveMill mill = millWithOil(10, 20, 0, 30, 40);
        dueShares(mill, 10, 1, 2, 0, 3, 4);
        dueShares(mill, 50, 5, 10, 0, 15, 20);
        dueShares(mill, 100, 10, 20, 0, 30, 40);
        mill.draw(0, 0, 10);
        dueTank("drawn", mill, 0, 0, 9, 18, 0, 27, 36);
        mill.move(0, 1, 10, false);
        dueTank("moved out", mill, 0, 0, 8, 16, 0, 24, 32);
        dueTank("moved in", mill, 1, 0, 1, 2, 0, 3, 4);
        mill.move(0, 1, 80, false);
        dueTank("moved out, all", mill, 0, -1, 0, 0, 0, 0, 0);
        dueTank("moved in, all", mill, 1, 0, 9, 18, 0, 27, 36);
        OliveMill great = millWithOil(9999, 0, 0, 0, 10001);
        dueShares(great, 20000, 9999, 0, 0, 0, 10001);
        dueShares(great, 19999, 9999, 0, 0, 0, 10000);
        dueShares(great, 1, 0, 0, 0, 0, 1);
    }

    private static void ties() {
        says(TERMS, "what is missing by rounding is taken by 1 of the varieties with the greatest remainders of these"
                + " divisions, of like ones those with the lowest numbers.");
        OliveMill even = millWithOil(1, 1, 1, 1, 1);
        dueShares(even, 1, 1, 0, 0, 0, 0);
        dueShares(even, 2, 1, 1, 0, 0, 0);
        dueShares(even, 3, 1, 1, 1, 0, 0);
        dueShares(even, 4, 1, 1, 1, 1, 0);
        dueShares(even, 5, 1, 1, 1, 1, 1);
        OliveMill two = millWithOil(0, 1, 0, 0, 1);
        dueShares(two, 1, 0, 1, 0, 0, 0);
        OliveMill thirds = millWithOil(1, 2);
        // by 3: remainders 1 and 2, then 2 and 1
        dueShares(thirds, 1, 0, 1, 0, 0, 0);
        dueShares(thirds, 2, 1, 1, 0, 0, 0);
        OliveMill some = millWithOil(3, 5, 1, 3, 5);
        // by 17, 6 taken: 1 and 1, 1 and 13, 0 and 6, 1 and 1, 1 and 13
        dueShares(some, 6, 1, 2, 0, 1, 2);
        // 3 taken: 0 and 9, 0 and 15, 0 and 3, 0 and 9, 0 and 15
        dueShares(some, 3, 1, 1, 0, 0, 1);
        // 16 taken: 2 and 14, 4 and 12, 0 and 16, 2 and 14, 4 and 12
        dueShares(some, 16, 3, 5, 1, 3, 4);
        OliveMill half = millWithOil(3, 3, 6);
        // 6 taken of 12: 1 and 6, 1 and 6, 3 and 0
        dueShares(half, 6, 2, 1, 3, 0, 0);
        half.draw(0, 0, 6);
        dueTank("drawn", half, 0, 0, 1, 2, 3, 0, 0);
        due("drawn of variety 0", half.variety(0, 4), 2);
        due("drawn of variety 1", half.variety(1, 4), 1);
        due("drawn of variety 2", half.variety(2, 4), 3);
        even.move(0, 1, 3, false);
        dueTank("moved out", even, 0, 0, 0, 0, 0, 1, 1);
        dueTank("moved in", even, 1, 0, 1, 1, 1, 0, 0);
    }

    private static void sediment() {
        says(TERMS, "When a day passes, of each variety in each tank what there is times setting 3, divided by 1000,"
                + " is lost.");
        int[][] rows = {{19, 50, 0}, {20, 50, 1}, {39, 50, 1}, {499, 2, 0}, {500, 2, 1}, {999, 2, 1}, {1000, 2, 2},
            {999, 1, 0}, {1000, 1, 1}, {2000, 0, 0}, {20000, 50, 1000}, {1, 50, 0}};
        for (int[] row : rows) {
            OliveMill mill = millWithOil(row[0]);
            mill.set(3, row[1]);
            due("lost of " + row[0] + " with the setting " + row[1], mill.pass(1), row[2]);
            due("left of it", mill.tank(0, 1), row[0] - row[2]);
        }
        OliveMill each = millWithOil(19, 19, 19, 19, 19);
        each.set(3, 50);
        due("each variety for itself", each.pass(1), 0);
        OliveMill tanks = millWithOil(38);
        tanks.move(0, 1, 19, false);
        tanks.set(3, 50);
        due("each tank for itself", tanks.pass(1), 0);
        OliveMill days = millWithOil(100);
        days.set(3, 50);
        // 5, 4 of 95, 4 of 91, 4 of 87
        due("each day for itself", days.pass(4), 17);
        days.pass(100);
        dueTank("the last 19 are never lost", days, 0, 0, 19, 0, 0, 0, 0);
    }

    private static void promise4() {
        says(4, "Adds an empty tank.");
        OliveMill mill = new OliveMill();
        mill.addTank(100);
        dueTank("a new one", mill, 0, -1, 0, 0, 0, 0, 0);
        due("tanks", mill.count(3), 1);

        says(4, "Undoable.");
        undoes(mill, "addTank", () -> mill.addTank(20000));

        says(4, "- `size`: 100 to 20000");
        due("the least", mill.addTank(100), 1);
        due("the most", mill.addTank(20000), 2);
        due("its size", mill.tank(2, 0), 20000);

        says(4, "Returns its number.");
        due("the fourth", mill.addTank(5000), 3);
        mill.undo();
        due("the fourth again", mill.addTank(5001), 3);
        due("its size", mill.tank(3, 0), 5001);

        says(4, "Throws `IllegalArgumentException` if size is out of range");
        outOfRangeOutside(mill, "addTank", 100, 20000, mill::addTank);

        says(4, "Throws `IllegalStateException` if there are 6 tanks");
        mill.addTank(100);
        due("the sixth", mill.addTank(100), 5);
        notNow(mill, "the seventh", () -> mill.addTank(100));
        outOfRangeOutside(mill, "the seventh, with a wrong size", 100, 20000, mill::addTank);
        mill.undo();
        due("the sixth again", mill.addTank(100), 5);
    }

    private static void promise10() {
        says(10, "A grower draws oil out of a tank.");
        OliveMill mill = plainMillWith(2, 1000, 1000);
        mill.addLot(1, 3, 100, 0, 1000);
        mill.press(1, false);
        mill.draw(1, 1, 30);
        due("left in the tank", mill.tank(1, 1), 70);
        due("left in the account", mill.grower(1, 0), 70);
        due("drawn by the grower", mill.grower(1, 3), 30);
        due("drawn of the variety", mill.variety(3, 4), 30);

        says(10, "Undoable.");
        undoes(mill, "draw", () -> mill.draw(1, 1, 70));

        says(10, "- `grower`: the number of the grower");
        mill.addLot(0, 4, 10, 0, 1000);
        mill.press(0, false);
        due("another grower, of oil that is not his", mill.draw(0, 1, 10), 0);
        due("the account of the one", mill.grower(1, 0), 70);

        says(10, "- `tank`: the number of the tank");
        due("another tank", mill.draw(1, 0, 10), 60);
        due("it is empty", mill.tank(0, 2), -1);
        due("the other one", mill.tank(1, 1), 60);

        says(10, "- `oil`: 1 to 20000");
        due("1", mill.draw(1, 1, 1), 59);
        OliveMill great = millWithOil(20000);
        due("20000", great.draw(0, 0, 20000), 0);
        due("nothing is left", great.tank(0, 1), 0);

        says(10, "Returns the account of the grower then.");
        due("1 is left", mill.draw(1, 1, 58), 1);
        due("0 is left", mill.draw(1, 1, 1), 0);
    }

    private static void promise10Refusals() {
        OliveMill mill = plainMillWith(2, 1000, 1000);
        mill.addLot(0, 0, 100, 0, 1000);
        mill.press(0, false);
        mill.addLot(0, 0, 50, 0, 1000);
        mill.press(1, false);
        says(10, "Throws `IndexOutOfBoundsException` if there is no such grower or tank");
        noSuchOutside(mill, "grower", 0, 1, value -> mill.draw(value, 0, 1));
        noSuchOutside(mill, "tank", 0, 1, value -> mill.draw(0, value, 1));
        noSuch(mill, "neither, and wrong oil", () -> mill.draw(2, 2, 0));
        noSuch(mill, "no such tank, and wrong oil", () -> mill.draw(0, 2, 20001));
        noSuch(mill, "no such grower, and wrong oil", () -> mill.draw(2, 0, 0));

        says(10, "Throws `IllegalArgumentException` if oil is out of range");
        outOfRangeOutside(mill, "oil", 1, 20000, value -> mill.draw(0, 0, value));
        outOfRange(mill, "wrong oil, and an empty account", () -> mill.draw(1, 0, 20001));

        says(10, "Throws `IllegalStateException` if the account, or the tank, has less");
        notNow(mill, "an empty account", () -> mill.draw(1, 0, 1));
        notNow(mill, "150 in the account, 100 in the tank", () -> mill.draw(0, 0, 101));
        due("just what is in the tank", mill.draw(0, 0, 100), 50);
        notNow(mill, "an empty tank", () -> mill.draw(0, 0, 1));
        notNow(mill, "all that an oil can be", () -> mill.draw(0, 1, 20000));
        mill.addLot(1, 0, 10, 0, 1000);
        mill.press(1, false);
        notNow(mill, "50 in the account, 60 in the tank", () -> mill.draw(0, 1, 51));
        due("just what is in the account", mill.draw(0, 1, 50), 0);
    }

    private static void promise11() {
        says(11, "Moves oil out of a tank into another one (it has the grade of the one).");
        OliveMill mill = plainMillWith(1, 200, 200, 200);
        fill(mill, 0, 0, 60, 9);
        fill(mill, 0, 1, 60, 0);
        mill.move(0, 1, 20, false);
        dueTank("the one", mill, 0, 1, 50, 50, 0, 0, 0);
        dueTank("the other one", mill, 1, 1, 10, 10, 0, 0, 0);
        due("the accounts stay", mill.count(9), 120);
        fill(mill, 2, 2, 10, 50);
        mill.move(0, 2, 1, true);
        dueTank("a better one into a worse one", mill, 2, 2, 1, 0, 10, 0, 0);
        mill.move(2, 1, 1, true);
        due("a worse one into a better one", mill.tank(1, 2), 2);

        says(11, "Undoable.");
        undoes(mill, "move", () -> mill.move(0, 1, 99, true));

        says(11, "- `from`: the number of the one");
        due("from the last", mill.move(2, 0, 1, true), 100);

        says(11, "- `to`: the number of the other one");
        due("to the last", mill.move(0, 2, 1, true), 10);

        says(11, "- `oil`: 1 to 20000");
        OliveMill great = millWithOil(20000);
        due("20000", great.move(0, 1, 20000, false), 20000);
        due("1", great.move(1, 0, 1, false), 1);

        says(11, "- `mixes`: whether mixing is allowed");
        OliveMill other = plainMillWith(1, 100, 100);
        fill(other, 0, 0, 50, 0);
        fill(other, 1, 0, 50, 9);
        notNow(other, "not allowed", () -> other.move(0, 1, 1, false));
        due("allowed", other.move(0, 1, 1, true), 51);
        due("empty now", other.draw(0, 0, 49), 51);
        due("into an empty one it need not be", other.move(1, 0, 1, false), 1);
        due("into one of the same grade neither", other.move(1, 0, 1, false), 2);

        says(11, "Returns how much the other one has then.");
        due("all of it", other.move(1, 0, 49, false), 51);
    }

    private static void promise11Refusals() {
        OliveMill mill = plainMillWith(1, 100, 100);
        fill(mill, 0, 0, 60, 0);
        fill(mill, 1, 0, 50, 0);
        says(11, "Throws `IndexOutOfBoundsException` if there is no such tank");
        noSuchOutside(mill, "from", 0, 1, value -> mill.move(value, 0, 1, true));
        noSuchOutside(mill, "to", 0, 1, value -> mill.move(0, value, 1, true));
        noSuch(mill, "both the same, that there is not", () -> mill.move(2, 2, 1, true));
        noSuch(mill, "wrong oil", () -> mill.move(0, 2, 0, true));

        says(11, "Throws `IllegalArgumentException` if both are the same, or oil is out of range");
        outOfRange(mill, "both the same", () -> mill.move(1, 1, 1, true));
        outOfRange(mill, "both the same, and more than it has", () -> mill.move(1, 1, 51, true));
        outOfRangeOutside(mill, "oil", 1, 20000, value -> mill.move(0, 1, value, true));

        says(11, "Throws `IllegalStateException` if the one has less, or the oil cannot be poured into the other one");
        notNow(mill, "room for 50", () -> mill.move(0, 1, 51, true));
        due("just the room", mill.move(0, 1, 50, false), 100);
        notNow(mill, "no room", () -> mill.move(0, 1, 1, true));
        mill.addTank(100);
        notNow(mill, "11 of 10", () -> mill.move(0, 2, 11, true));
        notNow(mill, "20000 of 10", () -> mill.move(0, 2, 20000, true));
        due("10 of 10", mill.move(0, 2, 10, false), 10);
        notNow(mill, "1 of 0", () -> mill.move(0, 2, 1, true));
        mill.draw(0, 2, 9);
        fill(mill, 0, 0, 1, 21);
        notNow(mill, "another grade", () -> mill.move(0, 2, 1, false));
        notNow(mill, "another grade", () -> mill.move(2, 0, 1, false));
    }

    private static void promise12() {
        says(12, "Lets days pass.");
        OliveMill mill = millWithOil(1000);
        mill.pass(3);
        due("days", mill.count(7), 3);
        // 2, then 1 of 998, then 1 of 997
        due("left", mill.tank(0, 1), 996);
        due("the account stays", mill.grower(0, 0), 1000);
        due("lost as sediment", mill.variety(0, 5), 4);

        says(12, "Undoable, as one call.");
        undoes(mill, "pass", () -> mill.pass(100));
        mill.set(3, 0);
        undoes(mill, "pass without sediment", () -> mill.pass(1));
        OliveMill none = new OliveMill();
        undoes(none, "pass without tanks", () -> none.pass(100));

        says(12, "- `days`: 1 to 100");
        due("1", none.pass(1), 0);
        due("100", none.pass(100), 0);
        due("days", none.count(7), 101);

        says(12, "Returns how much oil is lost in them.");
        OliveMill other = millWithOil(60, 40);
        other.move(0, 1, 50, false);
        other.set(3, 50);
        due("of 30, 20, 30 and 20", other.pass(1), 4);
        // 29 and 19 twice, 28 and 19 twice, up to 19
        due("up to the last 19 of each", other.pass(100), 20);
        due("nothing any more", other.pass(100), 0);

        says(12, "Throws `IllegalArgumentException` if days is out of range");
        outOfRangeOutside(other, "pass", 1, 100, other::pass);
    }

    private static void promise20() {
        says(20, "Returns a property of a tank.");
        OliveMill mill = plainMillWith(1, 100, 20000);
        int[] whats = {0, 1, 2, 10, 11, 12, 13, 14};
        int[] empty = {20000, 0, -1, 0, 0, 0, 0, 0};
        for (int at = 0; at < whats.length; at++) {
            due("of an empty one: " + whats[at], mill.tank(1, whats[at]), empty[at]);
        }

        says(20, "0: its size; 1: its oil; 2: its grade, NONE if it is empty; 10 to 14: its oil of the varieties 0 to 4");
        for (int variety = 0; variety < 5; variety++) {
            fill(mill, 0, variety, 18 + variety, 9);
        }
        int[] full = {100, 100, 1, 18, 19, 20, 21, 22};
        for (int at = 0; at < whats.length; at++) {
            due("of a full one: " + whats[at], mill.tank(0, whats[at]), full[at]);
        }

        says(20, "- `tank`: its number");
        due("the first", mill.tank(0, 0), 100);
        due("the last", mill.tank(1, 0), 20000);

        says(20, "Returns the property.");
        OliveMill great = millWithOil(20000);
        due("a tank of 20000", great.tank(0, 1), 20000);
        due("all of one variety", great.tank(0, 10), 20000);

        says(20, "Throws `IndexOutOfBoundsException` if there is no such tank");
        noSuchOutside(mill, "tank", 0, 1, value -> mill.tank(value, 0));
        noSuch(mill, "tank(2, 3)", () -> mill.tank(2, 3));

        says(20, "Throws `IllegalArgumentException` if what is not 0 to 2 or 10 to 14");
        outOfRangeOutside(mill, "what", 0, 2, value -> mill.tank(0, value));
        outOfRangeOutside(mill, "what", 10, 14, value -> mill.tank(0, value));
        for (int what = 4; what <= 8; what++) {
            int number = what;
            outOfRange(mill, "what " + what, () -> mill.tank(0, number));
        }
    }

    private static void promise26() {
        says(26, "Tells what of a variety would be taken out of a tank.");
        OliveMill mill = millWithOil(2, 0, 1);
        long before = mill.digest();
        dueShares(mill, 2, 1, 0, 1, 0, 0);
        due("nothing is changed", mill.digest(), before);

        says(26, "- `tank`: its number");
        due("the first", mill.taken(0, 1, 0), 1);
        due("the last", mill.taken(1, 1, 0), -1);

        says(26, "- `oil`: 1 to 20000, how much would be taken");
        dueShares(mill, 1, 1, 0, 0, 0, 0);
        OliveMill great = millWithOil(0, 20000);
        dueShares(great, 20000, 0, 20000, 0, 0, 0);
        dueShares(great, 1, 0, 1, 0, 0, 0);

        says(26, "- `variety`: 0 to 4");
        OliveMill all = millWithOil(5, 0, 0, 0, 6);
        due("the first", all.taken(0, 11, 0), 5);
        due("the last", all.taken(0, 11, 4), 6);

        says(26, "Returns how much of it would be of this variety; NONE if the tank has less oil.");
        dueShares(all, 11, 5, 0, 0, 0, 6);
        dueShares(all, 12, -1, -1, -1, -1, -1);
        dueShares(all, 20000, -1, -1, -1, -1, -1);
        due("an empty tank", all.taken(1, 1, 0), -1);
    }

    private static void promise26Refusals() {
        says(26, "Throws `IndexOutOfBoundsException` if there is no such tank");
        OliveMill mill = millWithOil(10);
        noSuchOutside(mill, "tank", 0, 1, value -> mill.taken(value, 1, 0));
        noSuch(mill, "wrong oil, too", () -> mill.taken(2, 0, 0));
        noSuch(mill, "a wrong variety, too", () -> mill.taken(2, 1, 5));
        OliveMill none = new OliveMill();
        noSuch(none, "without tanks", () -> none.taken(0, 1, 0));

        says(26, "Throws `IllegalArgumentException` if oil or variety is out of range");
        outOfRangeOutside(mill, "oil", 1, 20000, value -> mill.taken(0, value, 0));
        outOfRangeOutside(mill, "variety", 0, 4, value -> mill.taken(0, 1, value));
        outOfRange(mill, "oil 0 of an empty tank", () -> mill.taken(1, 0, 0));
        outOfRange(mill, "variety 5 of an empty tank", () -> mill.taken(1, 1, 5));
    }

    private static void promise27() {
        says(27, "Tells how much oil a tank would have, if nothing but days passed.");
        OliveMill mill = millWithOil(20, 39);
        mill.set(3, 50);
        long before = mill.digest();
        due("in a day", mill.oilIn(0, 1), 57);
        due("nothing is changed", mill.digest(), before);
        due("days", mill.count(7), 0);

        says(27, "- `tank`: its number");
        due("the first", mill.oilIn(0, 0), 59);
        due("the last", mill.oilIn(1, 0), 0);

        says(27, "- `days`: 0 to 200");
        due("no day", mill.oilIn(0, 0), 59);
        due("200 days", mill.oilIn(0, 200), 38);
        OliveMill slow = millWithOil(1200);
        slow.set(3, 1);
        // 1 a day while there are 1000, so 201 are lost in 201 days
        due("199 days", slow.oilIn(0, 199), 1001);
        due("200 days", slow.oilIn(0, 200), 1000);

        says(27, "Returns the oil.");
        OliveMill bad = plainMillWith(1, 1000);
        fill(bad, 0, 4, 10, 50);
        due("of a tank of the grade 2, in no day", bad.oilIn(0, 0), 10);
        due("in 200 days", bad.oilIn(0, 200), 10);
        due("as it is before", slow.oilIn(0, 100), 1100);
        slow.pass(100);
        due("as it is then", slow.tank(0, 1), 1100);
        due("of an empty tank", slow.oilIn(1, 200), 0);

        says(27, "Throws `IndexOutOfBoundsException` if there is no such tank");
        noSuchOutside(mill, "tank", 0, 1, value -> mill.oilIn(value, 0));
        noSuch(mill, "wrong days, too", () -> mill.oilIn(2, -1));

        says(27, "Throws `IllegalArgumentException` if days is out of range");
        outOfRangeOutside(mill, "days", 0, 200, value -> mill.oilIn(0, value));
    }

    private static void promise29() {
        says(29, "Finds the tank for the next lot.");
        OliveMill none = new OliveMill();
        due("a new mill", none.bestTank(), -1);
        OliveMill mill = plainMillWith(1, 102, 101, 101, 100);
        due("no lot", mill.bestTank(), -1);
        mill.addLot(0, 0, 101, 0, 1000);
        due("a lot of 101", mill.bestTank(), 1);
        long before = mill.digest();
        mill.bestTank();
        due("nothing is changed", mill.digest(), before);

        says(29, "Returns of the tanks into which the next lot could be pressed without mixing allowed");
        mill.undo();
        mill.addLot(0, 0, 100, 0, 1000);
        due("a lot of 100, just the room", mill.bestTank(), 3);
        mill.undo();
        fill(mill, 3, 0, 50, 9);
        mill.addLot(0, 0, 50, 0, 1000);
        due("the tank with the least room has another grade", mill.bestTank(), 1);
        mill.undo();
        mill.addLot(0, 0, 50, 20, 1000);
        due("it has the same grade", mill.bestTank(), 3);
        mill.undo();
        mill.addLot(0, 0, 51, 20, 1000);
        due("it has no room", mill.bestTank(), 1);

        says(29, "the one with the least room that would be left, of several the lowest number; NONE if there is none.");
        OliveMill some = plainMillWith(1, 300, 200, 200, 250);
        some.addLot(0, 0, 100, 0, 1000);
        due("of like ones the lowest number", some.bestTank(), 1);
        some.press(0, false);
        some.addLot(0, 0, 100, 0, 1000);
        due("three like ones", some.bestTank(), 0);
        some.press(0, false);
        some.addLot(0, 0, 101, 0, 1000);
        due("the first has no room", some.bestTank(), 1);
        some.undo();
        some.addLot(0, 0, 250, 0, 1000);
        due("just the room of the last", some.bestTank(), 3);
        some.undo();
        some.addLot(0, 0, 251, 0, 1000);
        due("no tank has room", some.bestTank(), -1);
        OliveMill without = plainMillWith(1);
        without.addLot(0, 0, 1, 0, 1000);
        due("no tank", without.bestTank(), -1);
    }

    private static void promise29WithoutOil() {
        says(29, "(all, if it would pour nothing)");
        OliveMill mill = plainMillWith(1, 100, 100, 100);
        fill(mill, 1, 0, 100, 0);
        mill.set(0, 10);
        mill.addLot(0, 0, 10, 50, 1000);
        due("a full one of another grade", mill.bestTank(), 1);
        mill.undo();
        mill.addLot(0, 0, 11, 50, 1000);
        due("it pours 1", mill.bestTank(), 0);
        OliveMill way2 = plainMillWith(1, 100, 110, 105);
        way2.set(5, 2);
        way2.set(0, 10);
        fill(way2, 0, 0, 10, 0);
        way2.addLot(0, 1, 105, 0, 1000);
        due("it pours 95 and the residue of 10", way2.bestTank(), 2);
        way2.undo();
        way2.addLot(0, 1, 5, 0, 1000);
        due("it pours the residue alone", way2.bestTank(), 0);
        OliveMill none = plainMillWith(1);
        none.set(0, 50);
        none.addLot(0, 0, 50, 0, 1000);
        due("it pours nothing, but there is no tank", none.bestTank(), -1);
        none.addTank(300);
        none.addTank(200);
        due("it pours nothing, and none is full", none.bestTank(), 1);
    }

    private static void promise29OfSix() {
        says(29, "NONE if there is none.");
        OliveMill mill = plainMillWith(1, 100, 100, 100, 100, 100, 100);
        for (int tank = 0; tank < 6; tank++) {
            fill(mill, tank, 2, 99, 0);
        }
        mill.setYield(0, 400);
        mill.setYield(1, 50);
        mill.addLot(0, 2, 1, 0, 1000);
        due("1 has room in each of six tanks", mill.bestTank(), 0);
        mill.undo();
        mill.addLot(0, 2, 2, 0, 1000);
        due("2 have room in none of them", mill.bestTank(), -1);
        mill.draw(0, 5, 1);
        due("in the sixth alone", mill.bestTank(), 5);
        mill.undo();
        mill.undo();
        mill.addLot(0, 2, 1, 50, 1000);
        due("none of them has the same grade", mill.bestTank(), -1);
    }

    private static void dueShare(String when, OliveMill mill, double want) {
        due(when, Double.doubleToLongBits(mill.goodShare()), Double.doubleToLongBits(want));
    }

    private static void promise30() {
        says(30, "Returns how good the oil in tanks is.");
        OliveMill some = plainMillWith(1, 100);
        fill(some, 0, 0, 1, 0);
        long before = some.digest();
        some.goodShare();
        due("nothing is changed", some.digest(), before);
        dueShare("good", some, 1.0);

        says(30, "Returns count(10), as a double, divided by count(8)");
        OliveMill mill = plainMillWith(1, 100, 100, 100);
        fill(mill, 0, 0, 1, 8);
        dueShare("all", mill, 1.0);
        fill(mill, 1, 0, 2, 9);
        dueShare("1 of 3", mill, 1.0 / 3.0);
        fill(mill, 2, 0, 4, 50);
        dueShare("1 of 7", mill, 1.0 / 7.0);
        fill(mill, 0, 0, 1, 0);
        dueShare("2 of 8", mill, 0.25);
        mill.move(1, 0, 1, true);
        dueShare("0 of 8", mill, 0.0);
        OliveMill great = plainMillWith(1, 20000, 20000);
        for (int lot = 0; lot < 10; lot++) {
            fill(great, 0, 0, 2000, 0);
        }
        fill(great, 1, 0, 1, 50);
        dueShare("20000 of 20001", great, 20000.0 / 20001.0);

        says(30, "0.0 if that is 0.");
        dueShare("a new mill", new OliveMill(), 0.0);
        OliveMill empty = plainMillWith(1, 100);
        dueShare("an empty tank", empty, 0.0);
        fill(empty, 0, 0, 10, 0);
        empty.draw(0, 0, 10);
        dueShare("empty once more", empty, 0.0);
    }
}
