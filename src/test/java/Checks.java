import java.util.Locale;

/** What the tests share: checks that count, and mills to begin with. */
class Checks {
    interface Call {
        long answer();
    }

    private static int made = 0;
    private static int wrong = 0;

    static void due(String what, long got, long want) {
        made++;
        if (got != want) {
            wrong++;
            System.out.println(what + " answered " + got + ", due is " + want);
        }
    }

    static void dueText(String what, String got, String want) {
        made++;
        if (!got.equals(want)) {
            wrong++;
            System.out.println(what + " answered " + got + ", due is " + want);
        }
    }

    /** The call throws exactly this, and changes nothing. */
    static void refuses(OliveMill mill, Class<? extends RuntimeException> kind, String what, Call call) {
        long before = mill.digest();
        dueText(what, answerOf(call), "throws " + kind.getSimpleName());
        due("digest after " + what, mill.digest(), before);
    }

    static void noSuch(OliveMill mill, String what, Call call) {
        refuses(mill, IndexOutOfBoundsException.class, what, call);
    }

    static void outOfRange(OliveMill mill, String what, Call call) {
        refuses(mill, IllegalArgumentException.class, what, call);
    }

    static void notNow(OliveMill mill, String what, Call call) {
        refuses(mill, IllegalStateException.class, what, call);
    }

    static String answerOf(Call call) {
        try {
            return Long.toString(call.answer());
        } catch (RuntimeException e) {
            return "throws " + e.getClass().getSimpleName();
        }
    }

    static void end() {
        System.out.println(String.format(Locale.ROOT, "%d checks, %d wrong", made, wrong));
        if (wrong != 0 || made == 0) {
            System.exit(1);
        }
    }

    static OliveMill millWith(int growers, int... sizes) {
        OliveMill mill = new OliveMill();
        for (int grower = 0; grower < growers; grower++) {
            mill.addGrower();
        }
        for (int size : sizes) {
            mill.addTank(size);
        }
        return mill;
    }

    /** A mill without residue, in which a kilo of true olives gives a decilitre. */
    static OliveMill plainMillWith(int growers, int... sizes) {
        OliveMill mill = millWith(growers, sizes);
        mill.set(0, 0);
        mill.set(1, 1000);
        for (int variety = 0; variety < 5; variety++) {
            mill.setYield(variety, 100);
        }
        return mill;
    }

    static void fill(OliveMill mill, int tank, int variety, int oil, int acidity) {
        mill.addLot(0, variety, oil, acidity, 1000);
        mill.press(tank, true);
    }

    static void type(OliveMill mill, String text) {
        for (int at = 0; at < text.length(); at++) {
            mill.append(text.charAt(at));
        }
    }

    static void dueTank(String when, OliveMill mill, int tank, int grade, int... oils) {
        due(when + ": grade of tank " + tank, mill.tank(tank, 2), grade);
        int all = 0;
        for (int variety = 0; variety < oils.length; variety++) {
            due(when + ": oil of variety " + variety + " in tank " + tank, mill.tank(tank, 10 + variety), oils[variety]);
            all += oils[variety];
        }
        due(when + ": oil in tank " + tank, mill.tank(tank, 1), all);
    }
}
