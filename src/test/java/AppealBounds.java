/** The sentences of "Appeals", and of promise 9. */
final class AppealBounds extends Boundaries {
    static void all() {
        settingsOfNow();
        onceAlone();
        firstOilIsLess();
        roundedEachTime();
        secondOil();
        tankOfTheLot();
        nothingIsPoured();
        besidesTheMill();
        account();
        lostAppeals();
        atLeastZero();
        promise9();
        promise9Refusals();
    }

    /** A lot whose content and first oil are these, of a due of 1000; setting 1 is 1000 then, and setting 6 is 0. */
    private static OliveMill millWithPressed(int truth, int firstPressing, int size) {
        OliveMill mill = plainMillWith(1, size);
        mill.addLot(0, 0, 1000, 10, truth);
        mill.set(1, firstPressing);
        mill.press(0, false);
        mill.set(1, 1000);
        mill.set(6, 0);
        return mill;
    }

    private static void settingsOfNow() {
        says(TERMS, "(Settings are taken here as they are when the grower appeals.)");
        OliveMill mill = millWithPressed(800, 1000, 5000);
        mill.set(6, 200);
        due("800 of 1000, with the tolerance 200", mill.lot(0, 10), 2);
        mill.set(6, 199);
        due("with the tolerance 199", mill.lot(0, 10), 0);
        mill.set(6, 0);
        mill.set(1, 800);
        due("800 of 1000, with the first pressing 800", mill.lot(0, 10), 2);
        mill.set(1, 801);
        due("with the first pressing 801", mill.lot(0, 10), 0);
        OliveMill other = millWithPressed(1000, 500, 5000);
        other.set(2, 1000);
        other.set(4, 500);
        due("the second pressing of now", other.appeal(0), 500);
        due("the fee of now", other.grower(0, 5), 0);
        other.undo();
        other.set(2, 998);
        due("the second pressing of now", other.appeal(0), 499);
        due("the fee of now", other.grower(0, 5), 1);
    }

    private static void onceAlone() {
        says(TERMS, "A grower can appeal for a lot that has been pressed once");
        OliveMill mill = plainMillWith(1, 5000);
        mill.addLot(0, 0, 1000, 10, 500);
        due("a lot that waits", mill.lot(0, 10), 1);
        notNow(mill, "appeal while it waits", () -> mill.appeal(0));
        mill.press(0, false);
        due("pressed once", mill.lot(0, 10), 0);
        mill.appeal(0);
        due("pressed twice", mill.lot(0, 10), 1);
        notNow(mill, "appeal again", () -> mill.appeal(0));
        mill.undo();
        due("once again", mill.lot(0, 10), 0);
    }

    private static void firstOilIsLess() {
        says(TERMS, "if its first oil is less than its due times setting 1, divided by 1000, and that times"
                + " (1000 - setting 6), divided by 1000");
        int[] truths = {500, 898, 899, 900, 901, 999, 1000, 1500};
        for (int truth : truths) {
            OliveMill mill = millWithPressed(truth, 1000, 5000);
            mill.set(6, 100);
            due("first oil " + truth + " of 1000", mill.lot(0, 10), truth < 900 ? 0 : 2);
            if (truth >= 900) {
                notNow(mill, "an appeal for it", () -> mill.appeal(0));
            }
            mill.set(6, 0);
            due("first oil " + truth + " of 1000, without tolerance", mill.lot(0, 10), truth < 1000 ? 0 : 2);
            mill.set(6, 500);
            due("first oil " + truth + " of 1000, with the greatest one", mill.lot(0, 10), 2);
        }
        OliveMill least = millWithPressed(998, 500, 5000);
        least.set(6, 500);
        due("first oil 499 of 1000, with the greatest tolerance", least.lot(0, 10), 0);
        least.set(1, 998);
        due("first oil 499 of 499", least.lot(0, 10), 2);
        OliveMill dry = plainMillWith(1, 100);
        dry.setYield(0, 50);
        dry.addLot(0, 0, 1, 0, 500);
        dry.press(0, false);
        dry.set(6, 0);
        due("no oil of a due of 0", dry.lot(0, 10), 2);
    }

    private static void roundedEachTime() {
        says(TERMS, "(each time rounded down).");
        OliveMill first = plainMillWith(1, 100);
        first.addLot(0, 0, 5, 0, 500);
        first.set(1, 580);
        first.press(0, false);
        // 2.5, so 2, and 1.16 of it, so 1; 2.9, so 2, and 1.8 of it, so 1; 2.61 at once would be 2
        due("the first oil", first.lot(0, 7), 1);
        due("rounded down before the tolerance", first.lot(0, 10), 2);
        OliveMill second = plainMillWith(1, 100);
        second.addLot(0, 0, 10, 0, 500);
        second.press(0, false);
        second.set(6, 401);
        // 10, and 5.99 of it, so 5
        due("rounded down after the tolerance", second.lot(0, 10), 2);
        second.set(6, 400);
        due("6 of 10", second.lot(0, 10), 0);
        second.set(1, 999);
        // 9.99, so 9, and 5.4 of it, so 5
        due("9.99 of 10", second.lot(0, 10), 2);
    }

    private static void secondOil() {
        says(TERMS, "Then it is pressed a second time, besides the mill: its second oil is what is left of its content"
                + " (content less first oil) times setting 2, divided by 1000");
        int[][] rows = {{998, 1, 999, 0}, {998, 1, 1000, 1}, {998, 3, 333, 0}, {998, 3, 334, 1}, {998, 3, 667, 2},
            {500, 0, 1000, 0}, {998, 499, 600, 299}, {998, 499, 1000, 499}, {998, 499, 0, 0}};
        for (int[] row : rows) {
            OliveMill mill = plainMillWith(1, 5000);
            mill.addLot(0, 0, 1000, 10, row[0]);
            // So much of the content is left.
            mill.set(1, 1000 - row[1] * 1000 / row[0]);
            mill.press(0, false);
            mill.set(1, 1000);
            mill.set(6, 0);
            int left = row[0] - mill.lot(0, 7);
            due("left", left, row[1]);
            mill.set(2, row[2]);
            due("the second oil of " + row[1] + " with the setting " + row[2], mill.appeal(0), row[3]);
            due("the second oil that is kept", mill.lot(0, 8), row[3]);
        }
    }

    private static void tankOfTheLot() {
        says(TERMS, "it is poured into the tank into which the lot was poured (with the grade of the lot; mixing is allowed"
                + " for it; it can be 0).");
        OliveMill mill = plainMillWith(1, 5000, 5000);
        mill.addLot(0, 2, 1000, 21, 500);
        mill.set(1, 500);
        mill.press(1, false);
        mill.set(2, 4);
        mill.set(1, 1000);
        mill.move(1, 0, 250, false);
        fill(mill, 1, 3, 40, 0);
        dueTank("a good one", mill, 1, 0, 0, 0, 0, 40, 0);
        due("second oil", mill.appeal(0), 1);
        dueTank("mixed with 1 of a bad one", mill, 1, 2, 0, 0, 1, 40, 0);
        dueTank("the other tank", mill, 0, 2, 0, 0, 250, 0, 0);
        OliveMill empty = plainMillWith(1, 5000, 5000);
        empty.addLot(0, 2, 1000, 9, 500);
        empty.press(0, false);
        empty.move(0, 1, 500, false);
        empty.appeal(0);
        dueTank("nothing is left of the content", empty, 0, -1, 0, 0, 0, 0, 0);
        OliveMill other = plainMillWith(1, 5000, 5000);
        other.addLot(0, 2, 1000, 9, 998);
        other.set(1, 500);
        other.press(0, false);
        other.move(0, 1, 499, false);
        other.set(1, 1000);
        other.appeal(0);
        dueTank("an empty tank has the grade of the lot then", other, 0, 1, 0, 0, 299, 0, 0);
    }

    private static void nothingIsPoured() {
        says(TERMS, "it can be 0");
        OliveMill mill = plainMillWith(1, 1000, 1000);
        mill.addLot(0, 0, 1000, 50, 500);
        mill.press(0, false);
        fill(mill, 0, 1, 500, 0);
        due("a full tank has room for nothing", mill.lot(0, 10), 0);
        due("second oil", mill.appeal(0), 0);
        due("it is there all the same", mill.lot(0, 8), 0);
        due("pressed twice", mill.lot(0, 5), 2);
        dueTank("as it was", mill, 0, 2, 500, 500, 0, 0, 0);
    }

    private static void besidesTheMill() {
        says(TERMS, "besides the mill");
        OliveMill mill = plainMillWith(1, 5000);
        mill.set(0, 50);
        mill.set(1, 500);
        mill.addLot(0, 0, 1000, 50, 500);
        mill.addLot(0, 1, 200, 0, 1000);
        mill.press(0, false);
        mill.press(0, true);
        dueResidue("of the other lot", mill, 1, 50);
        mill.set(1, 1000);
        due("second oil", mill.appeal(0), 150);
        dueResidue("as it was", mill, 1, 50);
        due("no cleaning", mill.count(6), 1);
    }

    private static void account() {
        says(TERMS, "The account of the grower becomes greater by it.");
        OliveMill mill = plainMillWith(2, 5000);
        mill.set(1, 500);
        mill.addLot(1, 0, 1000, 10, 998);
        mill.press(0, false);
        mill.set(1, 1000);
        mill.appeal(0);
        due("499 and 299", mill.grower(1, 0), 798);
        due("the other one", mill.grower(0, 0), 0);
        due("oil of the variety that was pressed", mill.variety(0, 1), 798);
        due("appeals", mill.grower(1, 4), 1);
        due("lost ones", mill.grower(1, 5), 0);
    }

    private static void lostAppeals() {
        says(TERMS, "If it is less than setting 4, the appeal is lost: then the account becomes less by setting 4");
        int[] fees = {0, 298, 299, 300, 500};
        for (int fee : fees) {
            OliveMill mill = millWithPressed(998, 500, 5000);
            mill.set(4, fee);
            due("second oil", mill.appeal(0), 299);
            boolean lost = fee > 299;
            due("account with the fee " + fee, mill.grower(0, 0), 798 - (lost ? fee : 0));
            due("lost with the fee " + fee, mill.grower(0, 5), lost ? 1 : 0);
            due("appeals", mill.count(11), 1);
        }
        OliveMill free = millWithPressed(500, 1000, 5000);
        free.set(4, 0);
        due("nothing", free.appeal(0), 0);
        due("is not less than a fee of 0", free.grower(0, 5), 0);
        due("account", free.grower(0, 0), 500);
        OliveMill one = millWithPressed(500, 1000, 5000);
        one.set(4, 1);
        one.appeal(0);
        due("but less than a fee of 1", one.grower(0, 5), 1);
        due("account", one.grower(0, 0), 499);
    }

    private static void atLeastZero() {
        says(TERMS, "but at least 0.");
        int[] accounts = {0, 20, 99, 100, 101, 102};
        for (int account : accounts) {
            OliveMill mill = millWithPressed(500, 500, 5000);
            if (account < 250) {
                mill.draw(0, 0, 250 - account);
            }
            mill.set(2, 200);
            mill.set(4, 151);
            // The second oil is 50.
            mill.appeal(0);
            due(account + " and 50 less 151", mill.grower(0, 0), account > 101 ? account - 101 : 0);
            due("lost", mill.grower(0, 5), 1);
        }
    }

    private static void promise9() {
        says(9, "The grower of a lot appeals.");
        OliveMill mill = plainMillWith(3, 5000);
        for (int lot = 0; lot < 3; lot++) {
            mill.addLot(2 - lot, 0, 1000, 0, 500);
            mill.press(0, false);
        }
        mill.appeal(1);
        due("appeals of the grower of it", mill.grower(1, 4), 1);
        due("appeals of another", mill.grower(0, 4) + mill.grower(2, 4), 0);

        says(9, "Undoable.");
        undoes(mill, "appeal", () -> mill.appeal(0));
        OliveMill idle = millWithPressed(500, 1000, 500);
        idle.set(4, 0);
        undoes(idle, "an appeal that pours nothing", () -> idle.appeal(0));
        OliveMill poor = millWithPressed(998, 500, 5000);
        poor.draw(0, 0, 499);
        poor.set(4, 500);
        undoes(poor, "an appeal that is lost", () -> poor.appeal(0));

        says(9, "- `lot`: its number");
        due("the last", mill.appeal(2), 0);
        due("the first", mill.appeal(0), 0);

        says(9, "Returns its second oil.");
        due("299", poor.appeal(0), 299);
    }

    private static void promise9Refusals() {
        says(9, "Throws `IndexOutOfBoundsException` if there is no such lot");
        OliveMill none = millWith(1, 100);
        noSuch(none, "without lots", () -> none.appeal(0));
        OliveMill mill = millWithPressed(998, 500, 798);
        noSuchOutside(mill, "lot", 0, 0, mill::appeal);

        says(9, "Throws `IllegalStateException` if it has not been pressed just once, its first oil is not so little, or"
                + " there is no room for its second oil");
        OliveMill waiting = plainMillWith(1, 100);
        waiting.addLot(0, 0, 1, 0, 500);
        notNow(waiting, "it waits", () -> waiting.appeal(0));
        due("just the room for 299", mill.appeal(0), 299);
        due("a full tank", mill.tank(0, 1), 798);
        notNow(mill, "pressed twice", () -> mill.appeal(0));
        OliveMill tight = millWithPressed(998, 500, 797);
        notNow(tight, "room for 298", () -> tight.appeal(0));
        due("the reason", tight.lot(0, 10), 3);
        tight.draw(0, 0, 1);
        due("room for 299", tight.appeal(0), 299);
        OliveMill rich = millWithPressed(1000, 1000, 5000);
        notNow(rich, "not so little", () -> rich.appeal(0));
    }
}
