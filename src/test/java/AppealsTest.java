/** Promise 9, and the reasons against an appeal of promise 19. */
final class AppealsTest extends Checks {
    public static void main(String[] args) {
        lostAppeal();
        wonAppeal();
        accountIsAtLeastZero();
        tolerance();
        settingsAsTheyAre();
        contentIsKept();
        greatNumbers();
        room();
        grades();
        nothingPoured();
        refusals();
        end();
    }

    /** A lot of the due 300, the content 150 and the first oil 127. */
    private static OliveMill millWithPoorLot(int size) {
        OliveMill mill = millWith(1, size);
        mill.addLot(0, 0, 200, 8, 500);
        mill.press(0, false);
        return mill;
    }

    private static void lostAppeal() {
        OliveMill mill = millWithPoorLot(500);
        due("can appeal", mill.lot(0, 10), 0);
        due("second oil", mill.appeal(0), 13);
        due("account, less the fee", mill.grower(0, 0), 127 + 13 - 20);
        due("appeals", mill.grower(0, 4), 1);
        due("lost", mill.grower(0, 5), 1);
        due("appeals of all", mill.count(11), 1);
        due("oil pressed", mill.variety(0, 1), 140);
        due("second oil of the lot", mill.lot(0, 8), 13);
        due("pressed twice", mill.lot(0, 5), 2);
        due("besides the mill", mill.count(5), 10);
        dueTank("appeal", mill, 0, 0, 130, 0, 0, 0, 0);
    }

    private static void wonAppeal() {
        OliveMill mill = millWithPoorLot(500);
        mill.set(4, 13);
        mill.appeal(0);
        due("account, as the fee is not more", mill.grower(0, 0), 140);
        due("not lost", mill.grower(0, 5), 0);
        due("appeals", mill.grower(0, 4), 1);
        OliveMill other = millWithPoorLot(500);
        other.set(4, 14);
        other.appeal(0);
        due("account, as the fee is one more", other.grower(0, 0), 126);
        due("lost", other.grower(0, 5), 1);
    }

    private static void accountIsAtLeastZero() {
        OliveMill mill = millWithPoorLot(500);
        mill.addLot(0, 0, 200, 8, 1000);
        mill.press(0, false);
        mill.draw(0, 0, 370);
        due("account before", mill.grower(0, 0), 12);
        mill.set(4, 24);
        mill.appeal(0);
        due("account, 12 and 13 less 24", mill.grower(0, 0), 1);
        mill.undo();
        mill.set(4, 26);
        mill.appeal(0);
        due("account, 12 and 13 less 26", mill.grower(0, 0), 0);
        due("lost", mill.grower(0, 5), 1);
    }

    private static void tolerance() {
        int[] truths = {899, 900, 1000, 1500};
        int[] reasons = {0, 2, 2, 2};
        for (int at = 0; at < truths.length; at++) {
            OliveMill mill = millWith(1, 2000);
            mill.addLot(0, 0, 200, 8, truths[at]);
            mill.press(0, false);
            // 300 * 850 / 1000 = 255, 255 * 900 / 1000 = 229; first oil 228 and 229
            due("reason with the truth " + truths[at], mill.lot(0, 10), reasons[at]);
            if (reasons[at] == 0) {
                due("second oil", mill.appeal(0), 24);
            } else {
                notNow(mill, "appeal of a lot that is not so poor", () -> mill.appeal(0));
            }
        }
        OliveMill rounded = millWith(1, 2000);
        rounded.set(6, 500);
        rounded.addLot(0, 0, 2, 8, 500);
        rounded.press(0, false);
        // 3 * 850 / 1000 = 2, 2 * 500 / 1000 = 1; first oil 0
        due("rounded down twice", rounded.lot(0, 10), 0);
        rounded.set(1, 500);
        // 3 * 500 / 1000 = 1, 1 * 500 / 1000 = 0
        due("rounded down to 0", rounded.lot(0, 10), 2);
    }

    private static void settingsAsTheyAre() {
        OliveMill mill = millWithPoorLot(500);
        mill.set(1, 500);
        mill.set(6, 152);
        // 300 * 500 / 1000 = 150, 150 * 848 / 1000 = 127
        due("first oil as little as that is enough", mill.lot(0, 10), 2);
        mill.set(6, 100);
        due("less tolerance", mill.lot(0, 10), 0);
        mill.set(2, 1000);
        due("second oil by the setting of now", mill.appeal(0), 23);
    }

    private static void contentIsKept() {
        OliveMill mill = millWithPoorLot(500);
        mill.setYield(0, 400);
        due("still", mill.lot(0, 10), 0);
        due("second oil by the yield then", mill.appeal(0), 13);
        due("due", mill.lot(0, 6), 300);
    }

    private static void greatNumbers() {
        OliveMill mill = millWith(1, 20000);
        mill.setYield(0, 400);
        mill.set(0, 0);
        mill.set(1, 1000);
        mill.set(6, 7);
        mill.addLot(0, 0, 2000, 0, 993);
        mill.addLot(0, 0, 2000, 0, 992);
        mill.press(0, false);
        mill.press(0, false);
        // 8000 * 993 / 1000 = 7944
        due("just as much as the tolerance leaves", mill.lot(0, 10), 2);
        due("less", mill.lot(1, 10), 0);
        mill.undo();
        mill.set(1, 999);
        mill.press(0, false);
        mill.set(6, 8);
        // first oil 7936 * 999 / 1000 = 7928; 8000 * 999 / 1000 = 7992, 7992 * 992 / 1000 = 7928
        due("first oil", mill.lot(1, 7), 7928);
        due("just as much again", mill.lot(1, 10), 2);
        mill.set(6, 7);
        due("less", mill.lot(1, 10), 0);
        mill.set(1, 500);
        mill.addLot(0, 0, 2000, 0, 500);
        mill.press(0, false);
        mill.set(1, 1000);
        mill.set(2, 999);
        due("second oil of 2000 left", mill.appeal(2), 1998);
    }

    private static void room() {
        OliveMill tight = millWithPoorLot(129);
        due("one too little", tight.lot(0, 10), 3);
        notNow(tight, "appeal without room", () -> tight.appeal(0));
        OliveMill fitting = millWithPoorLot(130);
        due("just the room", fitting.lot(0, 10), 0);
        due("second oil", fitting.appeal(0), 13);
        OliveMill full = millWithPoorLot(117);
        full.set(2, 0);
        due("nothing has room in a full tank", full.lot(0, 10), 0);
        due("second oil", full.appeal(0), 0);
    }

    private static void grades() {
        OliveMill mill = millWith(1, 500, 500);
        mill.addLot(0, 0, 200, 50, 500);
        mill.addLot(0, 1, 100, 0, 1000);
        mill.press(0, false);
        mill.move(0, 1, 117, false);
        dueTank("moved", mill, 0, -1, 0, 0, 0, 0, 0);
        mill.press(0, false);
        dueTank("a good one", mill, 0, 0, 0, 143, 0, 0, 0);
        due("the tank of the lot is still the same", mill.lot(0, 9), 0);
        mill.appeal(0);
        dueTank("mixed", mill, 0, 2, 13, 143, 0, 0, 0);
    }

    private static void nothingPoured() {
        OliveMill mill = millWith(1, 500, 500);
        mill.addLot(0, 0, 200, 50, 500);
        mill.addLot(0, 1, 100, 0, 1000);
        mill.press(0, false);
        mill.move(0, 1, 117, false);
        mill.set(2, 0);
        due("second oil into an empty tank", mill.appeal(0), 0);
        dueTank("it stays without grade", mill, 0, -1, 0, 0, 0, 0, 0);
        due("account", mill.grower(0, 0), 107);
        due("second oil of the lot", mill.lot(0, 8), 0);
        mill.undo();
        mill.press(0, false);
        mill.appeal(0);
        dueTank("a better tank stays as good", mill, 0, 0, 0, 143, 0, 0, 0);
        mill.set(4, 0);
        due("no fee", mill.setting(4), 0);
    }

    private static void refusals() {
        OliveMill mill = millWith(1, 500);
        noSuch(mill, "appeal without lots", () -> mill.appeal(0));
        mill.addLot(0, 0, 200, 8, 500);
        noSuch(mill, "appeal(-1)", () -> mill.appeal(-1));
        noSuch(mill, "appeal(1)", () -> mill.appeal(1));
        due("it waits", mill.lot(0, 10), 1);
        notNow(mill, "appeal of a lot that waits", () -> mill.appeal(0));
        mill.press(0, false);
        mill.appeal(0);
        due("pressed twice", mill.lot(0, 10), 1);
        notNow(mill, "appeal of a lot pressed twice", () -> mill.appeal(0));
    }
}
