/** Promises 21, 22 and 31. */
final class NumbersTest extends Checks {
    public static void main(String[] args) {
        promise21();
        promise22();
        promise31();
        end();
    }

    /** Two growers, a good and a bad tank, a residue of variety 1, an appeal, oil drawn and settled. */
    private static OliveMill usedMill() {
        OliveMill mill = millWith(2, 2000, 2000, 100);
        mill.addLot(0, 0, 400, 8, 500);
        mill.addLot(1, 1, 500, 30, 1000);
        mill.addLot(1, 1, 100, 30, 1000);
        mill.addLot(0, 4, 100, 30, 1000);
        mill.press(0, false);
        mill.press(1, false);
        mill.appeal(0);
        mill.draw(1, 0, 70);
        mill.set(3, 10);
        mill.pass(2);
        type(mill, "0a1/5*7");
        return mill;
    }

    private static void promise21() {
        OliveMill mill = usedMill();
        // variety 0: due 600, content 300, first 255, second 27; 245 and 27 in the tank, 70 drawn, 202 - 2 - 2
        dueVariety("used", mill, 0, 150, 282, 198, 0, 70, 4, 10, 0);
        // variety 1: first 765, 755 in the tank, 755 - 7 - 7
        dueVariety("used", mill, 1, 180, 765, 741, 10, 0, 14, 0, 1);
        dueVariety("used", mill, 2, 200, 0, 0, 0, 0, 0, 0, 0);
        dueVariety("used", mill, 3, 220, 0, 0, 0, 0, 0, 0, 0);
        dueVariety("used", mill, 4, 160, 0, 0, 0, 0, 0, 0, 1);
        mill.move(0, 1, 98, true);
        dueVariety("used", mill, 0, 150, 282, 198, 0, 70, 4, 10, 0);
        noSuch(mill, "variety(-1, 0)", () -> mill.variety(-1, 0));
        noSuch(mill, "variety(5, 0)", () -> mill.variety(5, 0));
        noSuch(mill, "variety(5, 8)", () -> mill.variety(5, 8));
        outOfRange(mill, "variety(0, -1)", () -> mill.variety(0, -1));
        outOfRange(mill, "variety(0, 8)", () -> mill.variety(0, 8));
    }

    private static void promise22() {
        OliveMill mill = usedMill();
        // accounts: 255 + 27, and 765 - 70
        dueCounts("used", mill, 2, 4, 2, 3, 1, 10, 1, 2, 939, 977, 198, 1, 6);
        mill.clean();
        dueCounts("used", mill, 2, 4, 2, 3, -1, 0, 2, 2, 939, 977, 198, 1, 6);
        mill.move(1, 0, 1, true);
        due("no good oil any more", mill.count(10), 0);
        mill.undo();
        mill.undo();
        dueCounts("used", mill, 2, 4, 2, 3, 1, 10, 1, 2, 939, 977, 198, 1, 4);
        outOfRange(mill, "count(-1)", () -> mill.count(-1));
        outOfRange(mill, "count(13)", () -> mill.count(13));
    }

    private static void promise31() {
        OliveMill fresh = new OliveMill();
        due("digest of a new mill", fresh.digest(), DigestByFace.of(fresh, ""));
        OliveMill used = usedMill();
        due("digest", used.digest(), DigestByFace.of(used, "0a1/5*7"));
        used.clearBuffer();
        due("digest without a buffer", used.digest(), DigestByFace.of(used, ""));
        OliveMill more = usedMill();
        more.clearBuffer();
        for (int grower = 2; grower < 8; grower++) {
            more.addGrower();
        }
        more.press(1, true);
        more.press(0, true);
        more.undo();
        more.press(0, true);
        more.move(1, 2, 6, true);
        due("digest", more.digest(), DigestByFace.of(more, ""));
    }
}
