import java.util.Locale;

/** What the tests share: checks that count, and mills to begin with. */
class Checks {
    interface Call {
        long answer();
    }

    interface CallWith {
        long answer(int value);
    }

    private static final int MOST_TOLD = 100;
    private static int made = 0;
    private static int wrong = 0;
    /** What the checks are about; it is told ahead of each wrong one. */
    static String about = "";

    static int checksMade() {
        return made;
    }

    static void due(String what, long got, long want) {
        made++;
        if (got != want) {
            tellWrong(what, Long.toString(got), Long.toString(want));
        }
    }

    static void dueText(String what, String got, String want) {
        made++;
        if (!got.equals(want)) {
            tellWrong(what, got, want);
        }
    }

    private static void tellWrong(String what, String got, String want) {
        wrong++;
        if (wrong <= MOST_TOLD) {
            System.out.println(about + what + " answered " + got + ", due is " + want);
        }
    }

    /** The call throws exactly this, and changes nothing. */
    static void refuses(OliveMill mill, Class<? extends RuntimeException> kind, String what, Call call) {
        long before = mill.digest();
        dueText(what, answerOf(call), "throws " + kind.getSimpleName());
        due("digest after " + what, mill.digest(), before);
    }

    static void noSuch(OliveMill mill, String what, Call call) {
        refuses(mill, IndexOutOfBoundsException.class, what, call);
    }

    static void outOfRange(OliveMill mill, String what, Call call) {
        refuses(mill, IllegalArgumentException.class, what, call);
    }

    static void notNow(OliveMill mill, String what, Call call) {
        refuses(mill, IllegalStateException.class, what, call);
    }

    /** The call throws this with the values next to the range, and with the outermost ones. */
    static void refusesOutside(OliveMill mill, Class<? extends RuntimeException> kind, String what, int least, int most,
            CallWith call) {
        int[] outside = {least - 1, most + 1, Integer.MIN_VALUE, Integer.MAX_VALUE};
        for (int value : outside) {
            refuses(mill, kind, what + " " + value, () -> call.answer(value));
        }
    }

    static void noSuchOutside(OliveMill mill, String what, int least, int most, CallWith call) {
        refusesOutside(mill, IndexOutOfBoundsException.class, what, least, most, call);
    }

    static void outOfRangeOutside(OliveMill mill, String what, int least, int most, CallWith call) {
        refusesOutside(mill, IllegalArgumentException.class, what, least, most, call);
    }

    static String answerOf(Call call) {
        try {
            return Long.toString(call.answer());
        } catch (RuntimeException e) {
            return "throws " + e.getClass().getSimpleName();
        }
    }

    static void end() {
        System.out.println(String.format(Locale.ROOT, "%d checks, %d wrong", made, wrong));
        if (wrong != 0 || made == 0) {
            System.exit(1);
        }
    }

    static OliveMill millWith(int growers, int... sizes) {
        OliveMill mill = new OliveMill();
        for (int grower = 0; grower < growers; grower++) {
            mill.addGrower();
        }
        for (int size : sizes) {
            mill.addTank(size);
        }
        return mill;
    }

    /** A mill without residue, in which a kilo of true olives gives a decilitre. */
    static OliveMill plainMillWith(int growers, int... sizes) {
        OliveMill mill = millWith(growers, sizes);
        mill.set(0, 0);
        mill.set(1, 1000);
        for (int variety = 0; variety < 5; variety++) {
            mill.setYield(variety, 100);
        }
        return mill;
    }

    static void fill(OliveMill mill, int tank, int variety, int oil, int acidity) {
        mill.addLot(0, variety, oil, acidity, 1000);
        mill.press(tank, true);
    }

    static void type(OliveMill mill, String text) {
        for (int at = 0; at < text.length(); at++) {
            mill.append(text.charAt(at));
        }
    }

    static void dueTank(String when, OliveMill mill, int tank, int grade, int... oils) {
        due(when + ": grade of tank " + tank, mill.tank(tank, 2), grade);
        int all = 0;
        for (int variety = 0; variety < oils.length; variety++) {
            due(when + ": oil of variety " + variety + " in tank " + tank, mill.tank(tank, 10 + variety), oils[variety]);
            all += oils[variety];
        }
        due(when + ": oil in tank " + tank, mill.tank(tank, 1), all);
    }

    static void dueGrower(String when, OliveMill mill, int grower, int... properties) {
        for (int what = 0; what < properties.length; what++) {
            due(when + ": grower(" + grower + ", " + what + ")", mill.grower(grower, what), properties[what]);
        }
    }

    static void dueLot(String when, OliveMill mill, int lot, int... properties) {
        for (int what = 0; what < properties.length; what++) {
            due(when + ": lot(" + lot + ", " + what + ")", mill.lot(lot, what), properties[what]);
        }
    }

    static void dueVariety(String when, OliveMill mill, int variety, int... numbers) {
        for (int what = 0; what < numbers.length; what++) {
            due(when + ": variety(" + variety + ", " + what + ")", mill.variety(variety, what), numbers[what]);
        }
    }

    static void dueCounts(String when, OliveMill mill, int... numbers) {
        for (int what = 0; what < numbers.length; what++) {
            due(when + ": count(" + what + ")", mill.count(what), numbers[what]);
        }
    }

    static void dueNext(String when, OliveMill mill, int... numbers) {
        for (int what = 0; what < numbers.length; what++) {
            due(when + ": next(" + what + ")", mill.next(what), numbers[what]);
        }
    }

    static void dueResidue(String when, OliveMill mill, int variety, int residue) {
        due(when + ": variety of the residue", mill.count(4), variety);
        due(when + ": residue", mill.count(5), residue);
        for (int some = 0; some < 5; some++) {
            due(when + ": residue of variety " + some, mill.variety(some, 3), some == variety ? residue : 0);
        }
    }

    /** The call saves one state, and undo brings back all that the digest shows. */
    static void undoes(OliveMill mill, String what, Call call) {
        if (mill.count(12) == 6) {
            // The oldest state is dropped now, so that the digests of before and after are of like numbers.
            mill.clean();
            mill.undo();
        }
        int saved = mill.count(12);
        long before = mill.digest();
        call.answer();
        due("saved states after " + what, mill.count(12), saved + 1);
        due("undo of " + what, mill.undo(), saved);
        due("digest after undo of " + what, mill.digest(), before);
    }
}
