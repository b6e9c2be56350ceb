/** The sentences of "Settings", and of the promises 5, 6 and 23. */
final class SettingBounds extends Boundaries {
    private static final int[] FIRST = {10, 850, 600, 2, 20, 0, 100};
    private static final int[] LEAST = {0, 500, 0, 0, 0, 0, 0};
    private static final int[] MOST = {50, 1000, 1000, 50, 500, 2, 500};
    private static final String[] SENTENCES = {"0: the residue, 0 to 50, at first 10",
        "1: the first pressing, 500 to 1000, at first 850", "2: the second pressing, 0 to 1000, at first 600",
        "3: the sediment, 0 to 50, at first 2", "4: the fee, 0 to 500, at first 20", "5: the way, 0 to 2, at first 0",
        "6: the tolerance, 0 to 500, at first 100."};

    static void all() {
        for (int setting = 0; setting < SENTENCES.length; setting++) {
            oneSetting(setting);
        }
        whatTheyAre();
        promise5();
        promise5Refusals();
        promise6();
        promise23();
    }

    private static void oneSetting(int setting) {
        says(TERMS, SENTENCES[setting]);
        OliveMill mill = new OliveMill();
        due("at first", mill.setting(setting), FIRST[setting]);
        due("to the least", mill.set(setting, LEAST[setting]), FIRST[setting]);
        due("the least", mill.setting(setting), LEAST[setting]);
        due("to the most", mill.set(setting, MOST[setting]), LEAST[setting]);
        due("the most", mill.setting(setting), MOST[setting]);
        outOfRangeOutside(mill, "set " + setting, LEAST[setting], MOST[setting], value -> mill.set(setting, value));
        for (int other = 0; other < 7; other++) {
            due("the setting " + other, mill.setting(other), other == setting ? MOST[other] : FIRST[other]);
        }
    }

    /** Each setting at its greatest value does what its name says, and nothing else. */
    private static void whatTheyAre() {
        says(TERMS, SENTENCES[0]);
        OliveMill mill = plainMillWith(1, 20000, 20000);
        mill.set(0, 50);
        fill(mill, 0, 0, 1000, 0);
        dueResidue("the greatest one", mill, 0, 50);

        says(TERMS, SENTENCES[1]);
        OliveMill half = plainMillWith(1, 20000);
        half.set(1, 500);
        fill(half, 0, 0, 1000, 0);
        due("the half", half.tank(0, 1), 500);

        says(TERMS, SENTENCES[2]);
        half.set(2, 1000);
        due("the other half", half.lot(0, 10), 2);
        half.set(1, 1000);
        due("the other half", half.appeal(0), 500);

        says(TERMS, SENTENCES[3]);
        half.set(3, 50);
        due("a twentieth", half.pass(1), 50);

        says(TERMS, SENTENCES[4]);
        half.addLot(0, 0, 1000, 0, 500);
        half.press(0, false);
        half.set(4, 500);
        half.appeal(1);
        due("1000 and 500 less 500", half.grower(0, 0), 1000);

        says(TERMS, SENTENCES[5]);
        mill.set(5, 2);
        fill(mill, 1, 1, 100, 0);
        dueTank("poured", mill, 1, 0, 50, 50, 0, 0, 0);

        says(TERMS, SENTENCES[6]);
        OliveMill poor = plainMillWith(1, 20000);
        fill(poor, 0, 0, 1000, 0);
        poor.set(6, 500);
        poor.addLot(0, 0, 1000, 0, 500);
        poor.press(0, false);
        due("the half is not so little", poor.lot(1, 10), 2);
    }

    private static void promise5() {
        says(5, "Changes the yield of a variety.");
        int[] yields = {150, 180, 200, 220, 160};
        OliveMill mill = plainMillWith(1, 20000);
        mill.setYield(2, 399);
        for (int variety = 0; variety < 5; variety++) {
            due("the yield of variety " + variety, mill.variety(variety, 0), variety == 2 ? 399 : 100);
        }
        mill.addLot(0, 2, 100, 0, 1000);
        due("a lot that is pressed now", mill.next(1), 399);

        says(5, "Undoable.");
        undoes(mill, "setYield", () -> mill.setYield(2, 50));
        undoes(mill, "setYield to what it is", () -> mill.setYield(2, 399));

        says(5, "- `variety`: 0 to 4");
        OliveMill fresh = new OliveMill();
        due("the first", fresh.setYield(0, 51), 150);
        due("the last", fresh.setYield(4, 52), 160);
        due("the first", fresh.variety(0, 0), 51);
        due("the last", fresh.variety(4, 0), 52);

        says(5, "- `value`: the new yield, 50 to 400");
        OliveMill each = new OliveMill();
        for (int variety = 0; variety < 5; variety++) {
            due("the least", each.setYield(variety, 50), yields[variety]);
            due("the most", each.setYield(variety, 400), 50);
            due("the yield", each.variety(variety, 0), 400);
        }

        says(5, "Returns the previous yield.");
        due("the one before", each.setYield(3, 123), 400);
        due("and the next", each.setYield(3, 124), 123);
        each.undo();
        due("and after undo", each.setYield(3, 125), 123);
    }

    private static void promise5Refusals() {
        OliveMill mill = new OliveMill();
        says(5, "Throws `IndexOutOfBoundsException` if there is no such variety");
        noSuchOutside(mill, "setYield of", 0, 4, value -> mill.setYield(value, 100));
        noSuch(mill, "with a wrong value", () -> mill.setYield(5, 401));
        noSuch(mill, "with a wrong value", () -> mill.setYield(-1, 49));

        says(5, "Throws `IllegalArgumentException` if value is out of range");
        for (int variety = 0; variety < 5; variety += 2) {
            int number = variety;
            outOfRangeOutside(mill, "setYield to", 50, 400, value -> mill.setYield(number, value));
        }
    }

    private static void promise6() {
        says(6, "Changes a setting.");
        OliveMill mill = new OliveMill();
        mill.set(6, 77);
        due("the setting", mill.setting(6), 77);

        says(6, "Undoable.");
        undoes(mill, "set", () -> mill.set(1, 500));
        undoes(mill, "set to what it is", () -> mill.set(1, 850));

        says(6, "- `setting`: 0 to 6");
        due("the first", mill.set(0, 0), 10);
        due("the last", mill.set(6, 0), 77);

        says(6, "- `value`: the new value");
        due("what is too much for the way is not for the fee", mill.set(4, 3), 20);
        due("what is too much for the residue is not for the second pressing", mill.set(2, 51), 600);

        says(6, "Returns the previous value.");
        due("the one before", mill.set(2, 52), 51);
        mill.undo();
        due("after undo", mill.set(2, 53), 51);

        says(6, "Throws `IndexOutOfBoundsException` if there is no such setting");
        noSuchOutside(mill, "set", 0, 6, value -> mill.set(value, 0));
        noSuch(mill, "with a value that none can have", () -> mill.set(7, 1001));
        noSuch(mill, "with a value that none can have", () -> mill.set(-1, -1));

        says(6, "Throws `IllegalArgumentException` if value is out of range");
        for (int setting = 0; setting < 7; setting++) {
            int number = setting;
            outOfRange(mill, "one too little", () -> mill.set(number, LEAST[number] - 1));
            outOfRange(mill, "one too much", () -> mill.set(number, MOST[number] + 1));
        }
    }

    private static void promise23() {
        says(23, "Returns a setting.");
        OliveMill mill = new OliveMill();
        long before = mill.digest();
        mill.setting(0);
        due("nothing is changed", mill.digest(), before);

        says(23, "- `setting`: 0 to 6");
        due("the first", mill.setting(0), 10);
        due("the last", mill.setting(6), 100);

        says(23, "Returns its value.");
        for (int setting = 0; setting < 7; setting++) {
            due("at first", mill.setting(setting), FIRST[setting]);
            mill.set(setting, MOST[setting]);
            due("then", mill.setting(setting), MOST[setting]);
        }

        says(23, "Throws `IndexOutOfBoundsException` if there is no such setting");
        noSuchOutside(mill, "setting", 0, 6, mill::setting);
    }
}
