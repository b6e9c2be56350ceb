/** The sentences of "Input text", and of the promises 13 to 16. */
final class TextBounds extends Boundaries {
    private static final String DIGITS = "0123456789";

    static void all() {
        buffer();
        slips();
        leadingZeros();
        whatCanFollow();
        ofAnyLength();
        promise13();
        promise14();
        promise15();
        promise16();
        promise16Stops();
        promise16Refusals();
    }

    private static OliveMill millWithText(String text) {
        OliveMill mill = millWith(8);
        type(mill, text);
        return mill;
    }

    private static String sixty() {
        return "0a1000/10*1000;1b1000/10*1000;2c1000/10*1000;3d1000/10*1000;";
    }

    private static void buffer() {
        says(TERMS, "The buffer has at most 60 characters.");
        OliveMill mill = new OliveMill();
        for (int length = 1; length <= 60; length++) {
            due("append", mill.append('0'), length);
        }
        notNow(mill, "the 61st", () -> mill.append('0'));
        due("the length", mill.clearBuffer(), 60);
        due("the first", mill.append('0'), 1);
        OliveMill full = millWithText(sixty());
        due("a text of 60", full.firstError(), 60);
        notNow(full, "one more", () -> full.append('0'));
    }

    private static void dueComplete(String text, int lots) {
        OliveMill mill = millWithText(text);
        due("firstError() of " + text, mill.firstError(), text.length());
        due("addSlips() of " + text, mill.addSlips(), lots);
        due("lots of " + text, mill.count(1), lots);
    }

    private static void dueIncomplete(String text) {
        OliveMill mill = millWithText(text);
        due("firstError() of " + text, mill.firstError(), text.length());
        outOfRange(mill, "addSlips() of " + text, mill::addSlips);
    }

    private static void dueWrong(String before, String after) {
        OliveMill mill = millWithText(before + after);
        due("firstError() of " + before + after, mill.firstError(), before.length());
        outOfRange(mill, "addSlips() of " + before + after, mill::addSlips);
    }

    private static void slips() {
        says(TERMS, "A row of slips as a text consists of one or more slips separated by \";\"");
        dueComplete("0a1/0", 1);
        dueComplete("0a1/0;7e2000/50*1500", 2);
        dueComplete("0a1/0;0a1/0;0a1/0;0a1/0;0a1/0;0a1/0;0a1/0;0a1/0;0a1/0;0a1/0", 10);
        dueIncomplete("");
        dueIncomplete("0a1/0;");
        dueWrong("", ";");
        dueWrong("0a1/0;", ";");
        dueWrong("0a1/0", ",");

        says(TERMS, "each one the digit of a grower, 0 to 7");
        dueComplete("0a1/0", 1);
        dueComplete("7a1/0", 1);
        dueWrong("", "8a1/0");
        dueWrong("", "/a1/0");
        dueWrong("", "a1/0");
        dueWrong("0", "0a1/0");
        dueWrong("0a1/0;", "8a1/0");

        says(TERMS, "a letter \"a\" to \"e\" for the varieties 0 to 4");
        for (int variety = 0; variety < 5; variety++) {
            OliveMill mill = millWithText("3" + (char) ('a' + variety) + "1/0");
            mill.addSlips();
            due("the variety", mill.lot(0, 1), variety);
        }
        dueWrong("0", "`1/0");
        dueWrong("0", "f1/0");
        dueWrong("0", "A1/0");
        dueWrong("0a", "a1/0");

        says(TERMS, "the kilos, 1 to 2000, \"/\"");
        dueComplete("0a1/0", 1);
        dueComplete("0a2000/0", 1);
        dueComplete("0a1999/0", 1);
        dueWrong("0a", "0/0");
        dueWrong("0a", "/0");
        dueWrong("0a200", "1/0");
        dueWrong("0a201", "0/0");
        dueWrong("0a999", "9/0");
        dueWrong("0a2000", "0/0");
        dueWrong("0a1", "*0");

        says(TERMS, "the acidity, 0 to 50");
        dueComplete("0a1/0", 1);
        dueComplete("0a1/50", 1);
        dueComplete("0a1/49", 1);
        dueWrong("0a1/5", "1");
        dueWrong("0a1/6", "0");
        dueWrong("0a1/50", "0");
        dueWrong("0a1/", "*1000");
        dueIncomplete("0a1/");

        says(TERMS, "and perhaps \"*\" and the truth, 500 to 1500 (1000 if it is not told).");
        dueTruth("0a1000/0*500", 500);
        dueTruth("0a1000/0*1500", 1500);
        dueTruth("0a1000/0", 1000);
        dueTruth("0a1000/0*999", 999);
        dueTruth("0a1000/0*501;0a1000/0", 501);
        dueIncomplete("0a1/0*");
        dueIncomplete("0a1/0*50");
        dueIncomplete("0a1/0*150");
        dueWrong("0a1/0*", "499");
        dueWrong("0a1/0*150", "1");
        dueWrong("0a1/0*500", "0");
        dueWrong("0a1/0*999", "*");
        OliveMill two = millWithText("0a1000/0*501;0a1000/0");
        two.set(1, 1000);
        two.setYield(0, 100);
        two.addTank(20000);
        two.addSlips();
        two.press(0, false);
        due("not told behind one that is", two.next(1), 1000);
    }

    private static void dueTruth(String text, int truth) {
        OliveMill mill = millWithText(text);
        mill.set(1, 1000);
        mill.setYield(0, 100);
        mill.addSlips();
        due("the truth in " + text, mill.next(1), truth);
    }

    private static void leadingZeros() {
        says(TERMS, "Numbers are without leading zeros.");
        dueWrong("0a", "01/0");
        dueWrong("0a", "0");
        dueWrong("0a1/0", "0");
        dueWrong("0a1/0", "1");
        dueWrong("0a1/0*", "0500");
        dueWrong("0a1/0*", "01000");
        dueComplete("0a10/10*1000", 1);
        dueComplete("0a100/20*500", 1);
    }

    /** Every character there is, behind a text, is an error or not. */
    private static void dueFollowers(String text, String good) {
        for (int code = 33; code <= 126; code++) {
            OliveMill mill = new OliveMill();
            type(mill, text);
            mill.append(code);
            boolean isGood = good.indexOf((char) code) >= 0;
            due("firstError() of " + text + (char) code, mill.firstError(), text.length() + (isGood ? 1 : 0));
        }
    }

    private static void whatCanFollow() {
        says(TERMS, "a character is a syntax error if no row of slips, of any length, begins with the characters before it"
                + " and this character.");
        dueFollowers("", "01234567");
        dueFollowers("0", "abcde");
        dueFollowers("7e", "123456789");
        dueFollowers("0a1", DIGITS + "/");
        dueFollowers("0a2", DIGITS + "/");
        dueFollowers("0a19", DIGITS + "/");
        dueFollowers("0a20", DIGITS + "/");
        dueFollowers("0a199", DIGITS + "/");
        dueFollowers("0a200", "0/");
        dueFollowers("0a201", "/");
        dueFollowers("0a2000", "/");
        dueFollowers("0a1999", "/");
        dueFollowers("0a999", "/");
        dueFollowers("0a1/", DIGITS);
        dueFollowers("0a1/0", "*;");
        dueFollowers("0a1/1", DIGITS + "*;");
        dueFollowers("0a1/4", DIGITS + "*;");
        dueFollowers("0a1/5", "0*;");
        dueFollowers("0a1/6", "*;");
        dueFollowers("0a1/50", "*;");
        dueFollowers("0a1/0*", "156789");
        dueFollowers("0a1/0*1", "012345");
        dueFollowers("0a1/0*10", DIGITS);
        dueFollowers("0a1/0*14", DIGITS);
        dueFollowers("0a1/0*15", "0");
        dueFollowers("0a1/0*149", DIGITS);
        dueFollowers("0a1/0*150", "0");
        dueFollowers("0a1/0*1500", ";");
        dueFollowers("0a1/0*5", DIGITS);
        dueFollowers("0a1/0*9", DIGITS);
        dueFollowers("0a1/0*50", DIGITS);
        dueFollowers("0a1/0*500", ";");
        dueFollowers("0a1/0*999", ";");
        dueFollowers("0a1/0;", "01234567");
    }

    private static void ofAnyLength() {
        says(TERMS, "The buffer is read from left to right");
        OliveMill mill = millWithText("0a1/0!8a1/0");
        due("the first of two errors", mill.firstError(), 5);
        OliveMill none = millWithText("!");
        due("the first character of all", none.firstError(), 0);

        says(TERMS, "of any length");
        OliveMill full = millWithText(sixty());
        due("one that ends behind the 60th character", full.firstError(), 60);
        outOfRange(full, "though it is not complete", full::addSlips);
        OliveMill last = millWithText(sixty().substring(0, 59) + "*");
        due("an error at the 60th character", last.firstError(), 59);
    }

    private static void promise13() {
        says(13, "Appends a character to the buffer.");
        OliveMill mill = new OliveMill();
        long before = mill.digest();
        mill.append('0');
        due("it is in the buffer", mill.digest() == before ? 1 : 0, 0);
        mill.append('a');
        due("in their order", mill.firstError(), 2);
        due("nothing is saved", mill.count(12), 0);

        says(13, "- `code`: the character code, 33 to 126");
        OliveMill bounds = new OliveMill();
        due("33", bounds.append(33), 1);
        due("126", bounds.append(126), 2);
        outOfRangeOutside(bounds, "append", 33, 126, bounds::append);

        says(13, "Returns the new length of the buffer.");
        due("the third", bounds.append(34), 3);
        bounds.clearBuffer();
        due("the first again", bounds.append(125), 1);

        says(13, "Throws `IllegalArgumentException` if code is not 33 to 126");
        outOfRange(bounds, "0", () -> bounds.append(0));
        outOfRange(bounds, "what would be \"0\" as a char", () -> bounds.append(65536 + '0'));
        OliveMill full = millWithText(sixty());
        outOfRangeOutside(full, "with 60 characters, append", 33, 126, full::append);

        says(13, "Throws `IllegalStateException` if the buffer has 60 characters");
        notNow(full, "append(33)", () -> full.append(33));
        notNow(full, "append(126)", () -> full.append(126));
        OliveMill nearly = millWithText(sixty().substring(0, 59));
        due("the 60th", nearly.append(';'), 60);
        notNow(nearly, "the 61st", () -> nearly.append('0'));
    }

    private static void promise14() {
        says(14, "Clears the buffer.");
        OliveMill mill = millWithText("0a1/0");
        long empty = millWithText("").digest();
        mill.clearBuffer();
        due("as if it had never been filled", mill.digest(), empty);
        due("no text", mill.firstError(), 0);
        outOfRange(mill, "nothing to add", mill::addSlips);

        says(14, "Returns the length that it had.");
        due("none", mill.clearBuffer(), 0);
        mill.append('~');
        due("1", mill.clearBuffer(), 1);
        type(mill, sixty());
        due("60", mill.clearBuffer(), 60);
        due("none again", mill.clearBuffer(), 0);
    }

    private static void promise15() {
        says(15, "Finds the first syntax error of the buffer.");
        OliveMill mill = millWithText("9");
        long before = mill.digest();
        due("at once", mill.firstError(), 0);
        due("nothing is changed", mill.digest(), before);
        due("again", mill.firstError(), 0);

        says(15, "Returns the index of the first character that is a syntax error");
        due("the last of the buffer", millWithText("0a1/0*5000").firstError(), 9);
        due("in the second slip", millWithText("0a1/0;0a0").firstError(), 8);
        due("though what follows would be right", millWithText("0a1/0; 0a1/0".replace(' ', '!')).firstError(), 6);

        says(15, "the length of the buffer if there is none.");
        due("no text", millWithText("").firstError(), 0);
        due("one character", millWithText("5").firstError(), 1);
        due("a whole slip", millWithText("0a1/0").firstError(), 5);
        due("60 characters", millWithText(sixty()).firstError(), 60);
    }

    private static void promise16() {
        says(16, "Adds the lots of the slips in the buffer, one after the other");
        OliveMill mill = millWithText("6b12/7*800;2d3/21;0a2000/50*1500");
        mill.addSlips();
        dueLot("the first", mill, 0, 6, 1, 12, 7, 0, 0);
        dueLot("the second", mill, 1, 2, 3, 3, 21, 2, 0);
        dueLot("the third", mill, 2, 0, 0, 2000, 50, 2, 0);
        due("lots that wait", mill.count(2), 3);

        says(16, "and clears the buffer.");
        due("its length", mill.clearBuffer(), 0);
        type(mill, "8");
        outOfRange(mill, "but not if it throws", mill::addSlips);
        due("its length", mill.clearBuffer(), 1);

        says(16, "Undoable, as one call, also if no lot is added.");
        type(mill, "0a1/0;0a2/0;0a3/0");
        int saved = mill.count(12);
        due("three lots", mill.addSlips(), 3);
        due("saved states", mill.count(12), Math.min(6, saved + 1));
        mill.undo();
        due("none of the three", mill.count(1), 3);
        due("the buffer stays empty", mill.clearBuffer(), 0);
        OliveMill none = new OliveMill();
        type(none, "0a1/0;0a2/0");
        due("no grower, so no lot", none.addSlips(), 0);
        due("saved all the same", none.count(12), 1);
        due("undo", none.undo(), 0);
        due("the buffer is empty", none.clearBuffer(), 0);

        says(16, "Returns how many lots are added.");
        due("1", millWithText("0a1/0").addSlips(), 1);
        due("10", millWithText("0a1/0;0a1/0;0a1/0;0a1/0;0a1/0;0a1/0;0a1/0;0a1/0;0a1/0;0a1/0").addSlips(), 10);
    }

    private static void promise16Stops() {
        says(16, "up to the first one for which addLot() would throw an exception");
        OliveMill mill = millWith(3);
        type(mill, "2a1/0;3a2/0;0a3/0");
        due("no fourth grower", mill.addSlips(), 1);
        due("the one", mill.lot(0, 0), 2);
        due("lots", mill.count(1), 1);
        due("the rest is gone", mill.clearBuffer(), 0);
        type(mill, "3a2/0");
        due("none", mill.addSlips(), 0);
        due("gone too", mill.clearBuffer(), 0);
        for (int lot = 1; lot < 38; lot++) {
            mill.addLot(0, 0, 1, 0, 1000);
        }
        type(mill, "0a38/0;0a39/0;0a40/0");
        due("2 of 3, as there are 40 then", mill.addSlips(), 2);
        due("lots", mill.count(1), 40);
        due("the last", mill.lot(39, 2), 39);
        type(mill, "0a1/0;0a2/0");
        due("none, with 40", mill.addSlips(), 0);
        due("gone too", mill.clearBuffer(), 0);
        OliveMill nearly = millWith(1);
        for (int lot = 0; lot < 39; lot++) {
            nearly.addLot(0, 0, 1, 0, 1000);
        }
        type(nearly, "0a41/0");
        due("the 40th", nearly.addSlips(), 1);
        due("the 40th", nearly.lot(39, 2), 41);
    }

    private static void promise16Refusals() {
        says(16, "Throws `IllegalArgumentException` if the buffer is not a complete row of slips");
        String[] texts = {"", "0", "0a", "0a1", "0a1/", "0a1/0*", "0a1/0*1", "0a1/0*15", "0a1/0*150", "0a1/0;", "0a1/0;0",
            "0a1/0;0a1/0*99", "8a1/0", "0f1/0", "0a0/0", "0a2001/0", "0a1/51", "0a1/0*1501", "0a1/0*499", "0a1/0;;0a1/0"};
        for (String text : texts) {
            OliveMill mill = millWithText(text);
            outOfRange(mill, "addSlips() of " + text, mill::addSlips);
            due("the buffer stays", mill.clearBuffer(), text.length());
            due("no lot", mill.count(1), 0);
        }
        OliveMill none = new OliveMill();
        type(none, "0a1/0;");
        outOfRange(none, "not complete, and no such grower", none::addSlips);
    }
}
