/** Promises 21, 22 and 31. */
final class NumbersTest extends Checks {
    public static void main(String[] args) {
        promise21();
        promise22();
        promise31();
        end();
    }

    /** Two growers, a good and a bad tank, a residue of variety 1, an appeal, oil drawn and settled. */
    private static OliveMill usedMill() {
        OliveMill mill = millWith(2, 2000, 2000, 100);
        mill.addLot(0, 0, 400, 8, 500);
        mill.addLot(1, 1, 500, 30, 1000);
        mill.addLot(1, 1, 100, 30, 1000);
        mill.addLot(0, 4, 100, 30, 1000);
        mill.press(0, false);
        mill.press(1, false);
        mill.appeal(0);
        mill.draw(1, 0, 70);
        mill.set(3, 10);
        mill.pass(2);
        type(mill, "0a1/5*7");
        return mill;
    }

    private static void dueVariety(OliveMill mill, int variety, int... numbers) {
        for (int what = 0; what < numbers.length; what++) {
            due("variety(" + variety + ", " + what + ")", mill.variety(variety, what), numbers[what]);
        }
    }

    private static void promise21() {
        OliveMill mill = usedMill();
        // variety 0: due 600, content 300, first 255, second 27; 245 and 27 in the tank, 70 drawn, 202 - 2 - 2
        dueVariety(mill, 0, 150, 282, 198, 0, 70, 4, 10, 0);
        // variety 1: first 765, 755 in the tank, 755 - 7 - 7
        dueVariety(mill, 1, 180, 765, 741, 10, 0, 14, 0, 1);
        dueVariety(mill, 2, 200, 0, 0, 0, 0, 0, 0, 0);
        dueVariety(mill, 3, 220, 0, 0, 0, 0, 0, 0, 0);
        dueVariety(mill, 4, 160, 0, 0, 0, 0, 0, 0, 1);
        mill.move(0, 1, 98, true);
        dueVariety(mill, 0, 150, 282, 198, 0, 70, 4, 10, 0);
        noSuch(mill, "variety(-1, 0)", () -> mill.variety(-1, 0));
        noSuch(mill, "variety(5, 0)", () -> mill.variety(5, 0));
        noSuch(mill, "variety(5, 8)", () -> mill.variety(5, 8));
        outOfRange(mill, "variety(0, -1)", () -> mill.variety(0, -1));
        outOfRange(mill, "variety(0, 8)", () -> mill.variety(0, 8));
    }

    private static void dueCounts(OliveMill mill, int... numbers) {
        for (int what = 0; what < numbers.length; what++) {
            due("count(" + what + ")", mill.count(what), numbers[what]);
        }
    }

    private static void promise22() {
        OliveMill mill = usedMill();
        // accounts: 255 + 27, and 765 - 70
        dueCounts(mill, 2, 4, 2, 3, 1, 10, 1, 2, 939, 977, 198, 1, 6);
        mill.clean();
        dueCounts(mill, 2, 4, 2, 3, -1, 0, 2, 2, 939, 977, 198, 1, 6);
        mill.move(1, 0, 1, true);
        due("no good oil any more", mill.count(10), 0);
        mill.undo();
        mill.undo();
        dueCounts(mill, 2, 4, 2, 3, 1, 10, 1, 2, 939, 977, 198, 1, 4);
        outOfRange(mill, "count(-1)", () -> mill.count(-1));
        outOfRange(mill, "count(13)", () -> mill.count(13));
    }

    private static void promise31() {
        due("digest of a new mill", new OliveMill().digest(), digestByFace(new OliveMill(), ""));
        OliveMill mill = usedMill();
        due("digest", mill.digest(), digestByFace(mill, "0a1/5*7"));
        mill.clearBuffer();
        due("digest without a buffer", mill.digest(), digestByFace(mill, ""));
        for (int grower = 2; grower < 8; grower++) {
            mill.addGrower();
        }
        mill.press(1, true);
        mill.press(0, true);
        mill.move(1, 2, 6, true);
        due("digest", mill.digest(), digestByFace(mill, ""));
        mill.undo();
        due("digest after undo", mill.digest(), digestByFace(mill, ""));
    }

    private static long hash;

    private static void mix(long value) {
        hash = 31 * hash + value;
    }

    private static long digestByFace(OliveMill mill, String buffer) {
        hash = 2393;
        for (int what = 0; what <= 12; what++) {
            mix(mill.count(what));
        }
        for (int setting = 0; setting <= 6; setting++) {
            mix(mill.setting(setting));
        }
        for (int grower = 0; grower < mill.count(0); grower++) {
            for (int what = 0; what <= 5; what++) {
                mix(mill.grower(grower, what));
            }
        }
        for (int lot = 0; lot < mill.count(1); lot++) {
            for (int what = 0; what <= 10; what++) {
                mix(mill.lot(lot, what));
            }
        }
        for (int tank = 0; tank < mill.count(3); tank++) {
            int[] whats = {0, 1, 2, 10, 11, 12, 13, 14};
            for (int what : whats) {
                mix(mill.tank(tank, what));
            }
            mix(mill.whyNot(tank, false));
            mix(mill.whyNot(tank, true));
            mix(mill.oilIn(tank, 30));
            for (int variety = 0; variety < 5; variety++) {
                mix(mill.taken(tank, 1, variety));
            }
        }
        for (int variety = 0; variety < 5; variety++) {
            for (int what = 0; what <= 7; what++) {
                mix(mill.variety(variety, what));
            }
        }
        for (int what = 0; what <= 4; what++) {
            mix(mill.next(what));
        }
        for (int way = 0; way <= 2; way++) {
            mix(mill.lossBy(way));
        }
        mix(mill.bestTank());
        mix(Double.doubleToLongBits(mill.goodShare()));
        mix(buffer.length());
        for (int at = 0; at < buffer.length(); at++) {
            mix(buffer.charAt(at));
        }
        return hash;
    }
}
