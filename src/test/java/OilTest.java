/** Promises 10, 11, 12, 20, 26, 27 and 30. */
final class OilTest extends Checks {
    public static void main(String[] args) {
        promise10();
        promise10Refusals();
        promise11();
        promise11Refusals();
        promise12();
        promise20();
        promise26();
        promise27();
        promise30();
        end();
    }

    private static void promise10() {
        OliveMill mill = plainMillWith(2, 2000);
        fill(mill, 0, 0, 5, 30);
        fill(mill, 0, 1, 10, 0);
        fill(mill, 0, 2, 15, 0);
        mill.addLot(1, 3, 10, 0, 1000);
        mill.press(0, true);
        due("draw", mill.draw(1, 0, 7), 3);
        // 5, 10, 15 and 10 times 7, by 40: 0 and 35, 1 and 30, 2 and 25, 1 and 30
        dueTank("drawn", mill, 0, 2, 4, 8, 13, 8, 0);
        due("the other account", mill.grower(0, 0), 30);
        due("drawn by it", mill.grower(1, 3), 7);
        int[] drawn = {1, 2, 2, 2, 0};
        for (int variety = 0; variety < 5; variety++) {
            due("drawn of variety " + variety, mill.variety(variety, 4), drawn[variety]);
        }
        due("draw", mill.draw(1, 0, 3), 0);
        due("draw all that is left", mill.draw(0, 0, 30), 0);
        dueTank("empty", mill, 0, -1, 0, 0, 0, 0, 0);
        fill(mill, 0, 0, 5, 9);
        dueTank("the grade is new", mill, 0, 1, 5, 0, 0, 0, 0);
    }

    private static void promise10Refusals() {
        OliveMill mill = plainMillWith(2, 2000, 2000);
        fill(mill, 0, 0, 50, 0);
        fill(mill, 1, 0, 50, 0);
        noSuch(mill, "draw(-1, 0, 1)", () -> mill.draw(-1, 0, 1));
        noSuch(mill, "draw(2, 0, 1)", () -> mill.draw(2, 0, 1));
        noSuch(mill, "draw(0, -1, 1)", () -> mill.draw(0, -1, 1));
        noSuch(mill, "draw(0, 2, 1)", () -> mill.draw(0, 2, 1));
        noSuch(mill, "draw(0, 2, 0)", () -> mill.draw(0, 2, 0));
        outOfRange(mill, "draw(0, 0, 0)", () -> mill.draw(0, 0, 0));
        outOfRange(mill, "draw(0, 0, 20001)", () -> mill.draw(0, 0, 20001));
        notNow(mill, "draw(0, 0, 20000)", () -> mill.draw(0, 0, 20000));
        notNow(mill, "the account has none", () -> mill.draw(1, 0, 1));
        notNow(mill, "the tank has less", () -> mill.draw(0, 0, 51));
        due("just what the tank has", mill.draw(0, 0, 50), 50);
        notNow(mill, "the tank has none", () -> mill.draw(0, 0, 1));
        OliveMill poor = plainMillWith(2, 2000);
        fill(poor, 0, 0, 50, 0);
        poor.addLot(1, 0, 50, 0, 1000);
        poor.press(0, true);
        notNow(poor, "the account has less", () -> poor.draw(1, 0, 51));
        due("just what the account has", poor.draw(1, 0, 50), 0);
    }

    private static void promise11() {
        OliveMill mill = plainMillWith(1, 100, 100, 100);
        fill(mill, 0, 0, 10, 9);
        fill(mill, 0, 1, 10, 0);
        fill(mill, 0, 2, 10, 0);
        due("move", mill.move(0, 1, 10, false), 10);
        dueTank("the one", mill, 0, 1, 6, 7, 7, 0, 0);
        dueTank("the other", mill, 1, 1, 4, 3, 3, 0, 0);
        due("move the rest", mill.move(0, 1, 20, false), 30);
        dueTank("the one", mill, 0, -1, 0, 0, 0, 0, 0);
        dueTank("the other", mill, 1, 1, 10, 10, 10, 0, 0);
        fill(mill, 2, 4, 50, 50);
        due("move with mixing", mill.move(2, 1, 10, true), 40);
        dueTank("the other is worse", mill, 1, 2, 10, 10, 10, 0, 10);
        fill(mill, 0, 3, 5, 0);
        mill.move(0, 1, 5, true);
        dueTank("the other stays as bad", mill, 1, 2, 10, 10, 10, 5, 10);
        due("accounts stay", mill.count(9), 85);
        due("nothing is drawn", mill.variety(0, 4), 0);
    }

    private static void promise11Refusals() {
        OliveMill mill = plainMillWith(1, 100, 100, 100);
        fill(mill, 0, 0, 60, 0);
        fill(mill, 1, 0, 41, 9);
        noSuch(mill, "move(-1, 0)", () -> mill.move(-1, 0, 1, true));
        noSuch(mill, "move(3, 0)", () -> mill.move(3, 0, 1, true));
        noSuch(mill, "move(0, -1)", () -> mill.move(0, -1, 1, true));
        noSuch(mill, "move(0, 3)", () -> mill.move(0, 3, 1, true));
        noSuch(mill, "move(3, 3)", () -> mill.move(3, 3, 0, true));
        outOfRange(mill, "move(0, 0)", () -> mill.move(0, 0, 1, true));
        outOfRange(mill, "move of 0", () -> mill.move(0, 1, 0, true));
        outOfRange(mill, "move of 20001", () -> mill.move(0, 1, 20001, true));
        notNow(mill, "the one has less", () -> mill.move(0, 2, 61, true));
        notNow(mill, "the one has none", () -> mill.move(2, 0, 1, true));
        notNow(mill, "no room", () -> mill.move(0, 1, 60, true));
        notNow(mill, "another grade", () -> mill.move(0, 1, 1, false));
        notNow(mill, "another grade", () -> mill.move(1, 0, 1, false));
        due("just the room", mill.move(0, 1, 59, true), 100);
        due("all of it", mill.move(0, 2, 1, false), 1);
    }

    private static void promise12() {
        OliveMill mill = plainMillWith(1, 2000, 2000);
        outOfRange(mill, "pass(0)", () -> mill.pass(0));
        outOfRange(mill, "pass(101)", () -> mill.pass(101));
        due("pass without oil", mill.pass(100), 0);
        due("days", mill.count(7), 100);
        fill(mill, 0, 0, 99, 0);
        fill(mill, 1, 0, 19, 0);
        fill(mill, 1, 1, 19, 0);
        fill(mill, 1, 2, 499, 0);
        // 499 * 2 / 1000 = 0
        due("nothing is lost of less than 500", mill.pass(1), 0);
        mill.set(3, 50);
        // 99, 95, 91, 87; 19 loses nothing; 499, 475, 452, 430
        due("pass(3)", mill.pass(3), 12 + 69);
        dueTank("the one", mill, 0, 0, 87, 0, 0, 0, 0);
        dueTank("the other", mill, 1, 0, 19, 19, 430, 0, 0);
        due("lost of variety 0", mill.variety(0, 5), 12);
        due("lost of variety 2", mill.variety(2, 5), 69);
        due("days", mill.count(7), 104);
        due("accounts stay", mill.count(9), 99 + 19 + 19 + 499);
        mill.undo();
        due("undone as one call", mill.count(7), 101);
        mill.set(3, 0);
        due("without sediment", mill.pass(100), 0);
        OliveMill great = plainMillWith(1, 20000);
        fill(great, 0, 0, 1980, 0);
        great.set(3, 50);
        due("1980 * 50 / 1000", great.pass(1), 99);
        great.set(3, 37);
        // 1881 * 37 / 1000 = 69.597
        due("1881 * 37 / 1000", great.pass(1), 69);
        for (int call = 0; call < 4; call++) {
            great.undo();
        }
        for (int lot = 0; lot < 9; lot++) {
            fill(great, 0, 0, 2000, 0);
        }
        due("19980 * 2 / 1000", great.pass(1), 39);
        due("19941 * 2 / 1000", great.oilIn(0, 1), 19941 - 39);
        great.set(3, 50);
        due("19941 * 50 / 1000", great.pass(1), 997);
        // 18944 * 50 / 1000 = 947.2, with 999 it would be 948.1
        due("18944 * 50 / 1000", great.pass(1), 947);
    }

    private static void promise20() {
        OliveMill mill = plainMillWith(1, 777);
        for (int variety = 0; variety < 5; variety++) {
            fill(mill, 0, variety, 10 + variety, 0);
        }
        due("size", mill.tank(0, 0), 777);
        dueTank("filled", mill, 0, 0, 10, 11, 12, 13, 14);
        noSuch(mill, "tank(-1, 0)", () -> mill.tank(-1, 0));
        noSuch(mill, "tank(1, 0)", () -> mill.tank(1, 0));
        noSuch(mill, "tank(1, 3)", () -> mill.tank(1, 3));
        int[] wrong = {-1, 3, 9, 15, Integer.MAX_VALUE};
        for (int what : wrong) {
            outOfRange(mill, "tank(0, " + what + ")", () -> mill.tank(0, what));
        }
    }

    private static void dueTaken(OliveMill mill, int oil, int... parts) {
        for (int variety = 0; variety < parts.length; variety++) {
            due("taken(0, " + oil + ", " + variety + ")", mill.taken(0, oil, variety), parts[variety]);
        }
    }

    private static void promise26() {
        OliveMill mill = plainMillWith(1, 20000, 100);
        due("an empty tank", mill.taken(0, 1, 0), -1);
        fill(mill, 0, 1, 10, 0);
        fill(mill, 0, 2, 10, 0);
        fill(mill, 0, 4, 10, 0);
        dueTaken(mill, 1, 0, 1, 0, 0, 0);
        dueTaken(mill, 2, 0, 1, 1, 0, 0);
        dueTaken(mill, 10, 0, 4, 3, 0, 3);
        dueTaken(mill, 20, 0, 7, 7, 0, 6);
        dueTaken(mill, 30, 0, 10, 10, 0, 10);
        dueTaken(mill, 31, -1, -1, -1, -1, -1);
        fill(mill, 0, 4, 7, 0);
        // 10, 10 and 17 of 37, times 11: 110, 110 and 187, by 37: 2 and 36, 2 and 36, 5 and 2
        dueTaken(mill, 11, 0, 3, 3, 0, 5);
        // times 9: 90, 90 and 153: 2 and 16, 2 and 16, 4 and 5
        dueTaken(mill, 9, 0, 3, 2, 0, 4);
        noSuch(mill, "taken(-1)", () -> mill.taken(-1, 1, 0));
        noSuch(mill, "taken(2)", () -> mill.taken(2, 1, 0));
        noSuch(mill, "taken(2, 0, 5)", () -> mill.taken(2, 0, 5));
        outOfRange(mill, "taken of 0", () -> mill.taken(0, 0, 0));
        outOfRange(mill, "taken of 20001", () -> mill.taken(0, 20001, 0));
        due("taken of 20000", mill.taken(0, 20000, 0), -1);
        outOfRange(mill, "taken of variety -1", () -> mill.taken(0, 1, -1));
        outOfRange(mill, "taken of variety 5", () -> mill.taken(0, 1, 5));
        outOfRange(mill, "taken of variety 5, of an empty tank", () -> mill.taken(1, 1, 5));
        for (int lot = 0; lot < 9; lot++) {
            fill(mill, 0, 0, 2000, 0);
        }
        fill(mill, 0, 0, 1963, 0);
        dueTaken(mill, 20000, 19963, 10, 10, 0, 17);
        // by 20000: 19962 and 37, 9 and 19990, 9 and 19990, 16 and 19983
        dueTaken(mill, 19999, 19962, 10, 10, 0, 17);
    }

    private static void promise27() {
        OliveMill mill = plainMillWith(1, 2000, 2000);
        fill(mill, 0, 0, 99, 0);
        fill(mill, 0, 1, 499, 0);
        mill.set(3, 50);
        due("oilIn no day", mill.oilIn(0, 0), 598);
        due("oilIn one day", mill.oilIn(0, 1), 95 + 475);
        due("oilIn three days", mill.oilIn(0, 3), 87 + 430);
        due("oilIn 200 days", mill.oilIn(0, 200), 19 + 19);
        due("nothing is changed", mill.tank(0, 1), 598);
        due("an empty tank", mill.oilIn(1, 200), 0);
        mill.set(3, 0);
        due("without sediment", mill.oilIn(0, 200), 598);
        noSuch(mill, "oilIn(-1, 0)", () -> mill.oilIn(-1, 0));
        noSuch(mill, "oilIn(2, 0)", () -> mill.oilIn(2, 0));
        noSuch(mill, "oilIn(2, 201)", () -> mill.oilIn(2, 201));
        outOfRange(mill, "oilIn(0, -1)", () -> mill.oilIn(0, -1));
        outOfRange(mill, "oilIn(0, 201)", () -> mill.oilIn(0, 201));
    }

    private static void dueShare(String when, OliveMill mill, double want) {
        due(when, Double.doubleToLongBits(mill.goodShare()), Double.doubleToLongBits(want));
    }

    private static void promise30() {
        OliveMill mill = plainMillWith(1, 2000, 2000, 2000);
        dueShare("no oil", mill, 0.0);
        fill(mill, 0, 0, 20, 9);
        dueShare("no good oil", mill, 0.0);
        fill(mill, 1, 0, 10, 8);
        dueShare("a third", mill, 10.0 / 30.0);
        fill(mill, 2, 0, 7, 0);
        dueShare("more", mill, 17.0 / 37.0);
        mill.draw(0, 0, 20);
        dueShare("all", mill, 1.0);
    }
}
