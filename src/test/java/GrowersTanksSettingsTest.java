/** Promises 1, 2, 4, 5, 6 and 23. */
final class GrowersTanksSettingsTest extends Checks {
    public static void main(String[] args) {
        promise1();
        promise2();
        promise4();
        promise5();
        promise6And23();
        end();
    }

    private static void promise1() {
        OliveMill mill = new OliveMill();
        due("NONE", OliveMill.NONE, -1);
        for (int what = 0; what <= 12; what++) {
            due("new count(" + what + ")", mill.count(what), what == 4 ? -1 : 0);
        }
        int[] settings = {10, 850, 600, 2, 20, 0, 100};
        for (int setting = 0; setting < settings.length; setting++) {
            due("new setting(" + setting + ")", mill.setting(setting), settings[setting]);
        }
        int[] yields = {150, 180, 200, 220, 160};
        for (int variety = 0; variety < yields.length; variety++) {
            due("new variety(" + variety + ", 0)", mill.variety(variety, 0), yields[variety]);
            for (int what = 1; what <= 7; what++) {
                due("new variety(" + variety + ", " + what + ")", mill.variety(variety, what), 0);
            }
        }
        due("length of a new buffer", mill.clearBuffer(), 0);
        due("new goodShare()", Double.doubleToLongBits(mill.goodShare()), 0);
        OliveMill other = new OliveMill();
        mill.addGrower();
        due("growers of another mill", other.count(0), 0);
    }

    private static void promise2() {
        OliveMill mill = new OliveMill();
        for (int grower = 0; grower < 8; grower++) {
            int number = grower;
            noSuch(mill, "grower not yet added", () -> mill.grower(number, 0));
            due("addGrower()", mill.addGrower(), grower);
            due("growers", mill.count(0), grower + 1);
            due("account of a new grower", mill.grower(grower, 0), 0);
        }
        notNow(mill, "the ninth addGrower()", mill::addGrower);
    }

    private static void promise4() {
        OliveMill mill = new OliveMill();
        outOfRange(mill, "addTank(99)", () -> mill.addTank(99));
        outOfRange(mill, "addTank(20001)", () -> mill.addTank(20001));
        outOfRange(mill, "addTank(MIN)", () -> mill.addTank(Integer.MIN_VALUE));
        outOfRange(mill, "addTank(MAX)", () -> mill.addTank(Integer.MAX_VALUE));
        int[] sizes = {100, 20000, 101, 19999, 5000, 100};
        for (int tank = 0; tank < sizes.length; tank++) {
            due("addTank(" + sizes[tank] + ")", mill.addTank(sizes[tank]), tank);
            due("its size", mill.tank(tank, 0), sizes[tank]);
            dueTank("a new tank", mill, tank, -1, 0, 0, 0, 0, 0);
            due("tanks", mill.count(3), tank + 1);
        }
        notNow(mill, "the seventh addTank()", () -> mill.addTank(100));
        outOfRange(mill, "the seventh addTank(), of a wrong size", () -> mill.addTank(99));
    }

    private static void promise5() {
        OliveMill mill = new OliveMill();
        int[] yields = {150, 180, 200, 220, 160};
        for (int variety = 0; variety < 5; variety++) {
            int number = variety;
            due("setYield to 50", mill.setYield(variety, 50), yields[variety]);
            due("setYield to 400", mill.setYield(variety, 400), 50);
            due("the yield", mill.variety(variety, 0), 400);
            outOfRange(mill, "setYield to 49", () -> mill.setYield(number, 49));
            outOfRange(mill, "setYield to 401", () -> mill.setYield(number, 401));
        }
        noSuch(mill, "setYield(-1, 100)", () -> mill.setYield(-1, 100));
        noSuch(mill, "setYield(5, 100)", () -> mill.setYield(5, 100));
        noSuch(mill, "setYield(5, 49)", () -> mill.setYield(5, 49));
    }

    private static void promise6And23() {
        OliveMill mill = new OliveMill();
        int[] first = {10, 850, 600, 2, 20, 0, 100};
        int[] least = {0, 500, 0, 0, 0, 0, 0};
        int[] most = {50, 1000, 1000, 50, 500, 2, 500};
        for (int setting = 0; setting < 7; setting++) {
            int number = setting;
            due("set to the least", mill.set(setting, least[setting]), first[setting]);
            due("the setting", mill.setting(setting), least[setting]);
            due("set to the most", mill.set(setting, most[setting]), least[setting]);
            due("the setting", mill.setting(setting), most[setting]);
            outOfRange(mill, "set(" + setting + ", too little)", () -> mill.set(number, least[number] - 1));
            outOfRange(mill, "set(" + setting + ", too much)", () -> mill.set(number, most[number] + 1));
        }
        noSuch(mill, "set(-1, 0)", () -> mill.set(-1, 0));
        noSuch(mill, "set(7, 0)", () -> mill.set(7, 0));
        noSuch(mill, "set(7, -1)", () -> mill.set(7, -1));
        noSuch(mill, "setting(-1)", () -> mill.setting(-1));
        noSuch(mill, "setting(7)", () -> mill.setting(7));
        noSuch(mill, "setting(MAX)", () -> mill.setting(Integer.MAX_VALUE));
    }
}
