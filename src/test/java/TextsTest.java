/** Promises 13, 14, 15 and 16. */
final class TextsTest extends Checks {
    public static void main(String[] args) {
        promise13And14();
        promise15();
        promise15Numbers();
        promise16();
        promise16Stops();
        promise16Refusals();
        end();
    }

    private static void promise13And14() {
        OliveMill mill = new OliveMill();
        outOfRange(mill, "append(32)", () -> mill.append(32));
        outOfRange(mill, "append(127)", () -> mill.append(127));
        outOfRange(mill, "append(-1)", () -> mill.append(-1));
        due("clear an empty buffer", mill.clearBuffer(), 0);
        due("append(33)", mill.append(33), 1);
        due("append(126)", mill.append(126), 2);
        due("clearBuffer", mill.clearBuffer(), 2);
        for (int length = 1; length <= 60; length++) {
            due("append", mill.append('0'), length);
        }
        notNow(mill, "the 61st character", () -> mill.append('0'));
        outOfRange(mill, "the 61st character, of a wrong code", () -> mill.append(32));
        due("clearBuffer", mill.clearBuffer(), 60);
        due("clearBuffer again", mill.clearBuffer(), 0);
        due("not undoable", mill.count(12), 0);
    }

    /** The first error is behind the bar, or there is none. */
    private static void dueError(String text) {
        OliveMill mill = new OliveMill();
        int error = text.indexOf('|');
        type(mill, text.replace("|", ""));
        due("firstError() of " + text, mill.firstError(), error < 0 ? text.length() : error);
        due("firstError() of " + text + " again", mill.firstError(), error < 0 ? text.length() : error);
    }

    private static void promise15() {
        String[] texts = {"", "0", "7", "|8", "|a", "|;", "|/", "0a", "7e", "0|f", "0|A", "0|0", "0|`", "0|;",
            "0a1", "0a|/", "0a|0", "0a|;", "0a|a", "0a1/", "0a1|;", "0a1|*", "0a1|a", "0a1/5", "0a1/|;", "0a1/|*",
            "0a1/|/", "0a1/5;", "0a1/5;0", "0a1/5;|;", "0a1/5|/", "0a1/5|a", "0a1/5*", "0a1/5*|;", "0a1/5*|*",
            "0a1/5*1000", "0a1/5*1000;", "0a1/5*1000|*", "0a1/5*1000|/", "0a1/5*1|;", "0a1/5*5|;", "0a1/5*50|;",
            "0a1/5*500;7e2000/50*1500;3c7/0", "0a1/5;0a1/5;0a1/5;0a1/5;0a1/5;0a1/5;0a1/5;0a1/5;0a1/5;0a1/5",
            "0a1/5|~~~", "|!0a1/5", "0a1/5;|8a1/5", "0a1/5*700;1b200|1/5"};
        for (String text : texts) {
            dueError(text);
        }
    }

    /** Each number of up to five digits, against what the ranges say of all that begins with it. */
    private static void promise15Numbers() {
        String[] before = {"0a", "0a1/", "0a1/5*"};
        int[] least = {1, 0, 500};
        int[] most = {2000, 50, 1500};
        for (int kind = 0; kind < before.length; kind++) {
            for (int number = 0; number < 1000; number++) {
                String digits = Integer.toString(number * 23 % 21001);
                int good = 0;
                while (good < digits.length() && begins(digits.substring(0, good + 1), least[kind], most[kind])) {
                    good++;
                }
                OliveMill mill = new OliveMill();
                type(mill, before[kind] + digits);
                due("firstError() of " + before[kind] + digits, mill.firstError(), before[kind].length() + good);
            }
        }
        String[] texts = {"0a2000", "0a200|1", "0a201|0", "0a21", "0a999", "0a999|9", "0a|01", "0a1999", "0a2000|0",
            "0a1/0", "0a1/0|0", "0a1/0|1", "0a1/50", "0a1/5|1", "0a1/49", "0a1/6|0", "0a1/9", "0a1/10|0", "0a1/50|0",
            "0a1/5*|0", "0a1/5*|2", "0a1/5*|4", "0a1/5*|499", "0a1/5*500", "0a1/5*500|0",
            "0a1/5*1500", "0a1/5*150|1", "0a1/5*15|1", "0a1/5*1|6", "0a1/5*999", "0a1/5*999|9", "0a1/5*100|;",
            "0a1/5*10|;"};
        for (String text : texts) {
            dueError(text);
        }
    }

    private static boolean begins(String digits, int least, int most) {
        for (int number = least; number <= most; number++) {
            if (Integer.toString(number).startsWith(digits)) {
                return true;
            }
        }
        return false;
    }

    private static void promise16() {
        OliveMill mill = millWith(8);
        type(mill, "0a120/5;1b200/9*700;7e2000/50*1500;3c1/0*500");
        due("addSlips", mill.addSlips(), 4);
        due("the buffer is cleared", mill.clearBuffer(), 0);
        int[][] lots = {{0, 0, 120, 5}, {1, 1, 200, 9}, {7, 4, 2000, 50}, {3, 2, 1, 0}};
        for (int lot = 0; lot < lots.length; lot++) {
            for (int what = 0; what < 4; what++) {
                due("lot(" + lot + ", " + what + ")", mill.lot(lot, what), lots[lot][what]);
            }
        }
        mill.addTank(20000);
        mill.set(0, 0);
        mill.set(1, 1000);
        int[] contents = {180, 252, 4800, 1};
        for (int lot = 0; lot < contents.length; lot++) {
            mill.press(0, true);
            due("content by the truth", mill.lot(lot, 7), contents[lot]);
        }
        type(mill, "4d9/7*999;4d9/7");
        mill.addSlips();
        mill.setYield(3, 400);
        mill.press(0, true);
        mill.press(0, true);
        due("a truth that was told", mill.lot(4, 7), 35);
        due("the truth is 1000 again", mill.lot(5, 7), 36);
        type(mill, "4d2000/7");
        mill.addSlips();
        mill.press(0, true);
        due("the truth is just 1000", mill.lot(6, 7), 8000);
    }

    private static void promise16Stops() {
        OliveMill mill = millWith(2);
        type(mill, "0a1/5;2a1/5;1a1/5");
        due("up to the grower that there is not", mill.addSlips(), 1);
        due("lots", mill.count(1), 1);
        due("the buffer is cleared", mill.clearBuffer(), 0);
        int saved = mill.count(12);
        type(mill, "7a1/5");
        due("no lot", mill.addSlips(), 0);
        due("saved all the same", mill.count(12), saved + 1);
        due("undo", mill.undo(), saved);
        for (int lot = 1; lot < 38; lot++) {
            mill.addLot(0, 0, 1, 0, 500);
        }
        type(mill, "0a1/5;1b2/6;0a3/7");
        due("up to 40 lots", mill.addSlips(), 2);
        due("lots", mill.count(1), 40);
        due("the last", mill.lot(39, 2), 2);
        type(mill, "0a1/5");
        due("no more", mill.addSlips(), 0);
        mill.undo();
        mill.undo();
        due("undone as one call", mill.count(1), 38);
        due("the buffer stays cleared", mill.clearBuffer(), 0);
    }

    private static void promise16Refusals() {
        OliveMill mill = millWith(1);
        String[] texts = {"", "0", "0a", "0a1", "0a1/", "0a1/5*", "0a1/5*5", "0a1/5*1", "0a1/5;", "0a1/5;0", "0a1/5;;",
            "8a1/5", "0a1/51", "0a1/5*1501", "0a0/5", "0a1/5!", "0a1/5*150"};
        for (String text : texts) {
            type(mill, text);
            outOfRange(mill, "addSlips() of " + text, mill::addSlips);
            due("the buffer stays", mill.clearBuffer(), text.length());
        }
    }
}
