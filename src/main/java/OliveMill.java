/** An olive mill. The promises that it keeps are numbered in ../shared/DOC.md. */
public final class OliveMill {
    public static final int NONE = -1;

    private static final int MOST_GROWERS = 8;
    private static final int MOST_LOTS = 40;
    private static final int MOST_TANKS = 6;
    private static final int VARIETIES = 5;
    private static final int SETTINGS = 7;
    private static final int MOST_SAVED = 6;
    private static final int MOST_CHARACTERS = 60;

    private static final int MOST_KILOS = 2000;
    private static final int MOST_ACIDITY = 50;
    private static final int LEAST_TRUTH = 500;
    private static final int MOST_TRUTH = 1500;
    private static final int USUAL_TRUTH = 1000;
    private static final int LEAST_SIZE = 100;
    private static final int MOST_OIL = 20000;

    // The columns of a grower.
    private static final int ACCOUNT = 0;
    private static final int DRAWN = 1;
    private static final int APPEALS = 2;
    private static final int APPEALS_LOST = 3;
    private static final int GROWER_COLUMNS = 4;

    // The columns of a lot; those from DUE on mean nothing before it is pressed.
    private static final int GROWER = 0;
    private static final int VARIETY = 1;
    private static final int KILOS = 2;
    private static final int ACIDITY = 3;
    private static final int TRUTH = 4;
    private static final int TIMES_PRESSED = 5;
    private static final int DUE = 6;
    private static final int CONTENT = 7;
    private static final int FIRST_OIL = 8;
    private static final int SECOND_OIL = 9;
    private static final int TANK = 10;
    private static final int LOT_COLUMNS = 11;

    // The columns of a tank; its grade means nothing while it is empty.
    private static final int SIZE = 0;
    private static final int GRADE = 1;
    private static final int OIL = 2;
    private static final int TANK_COLUMNS = OIL + VARIETIES;

    // The columns of a variety.
    private static final int YIELD = 0;
    private static final int OIL_PRESSED = 1;
    private static final int OIL_DRAWN = 2;
    private static final int OIL_SETTLED = 3;
    private static final int OIL_CLEANED = 4;
    private static final int VARIETY_COLUMNS = 5;

    // The numbers of the mill; RESIDUE_OF means nothing while RESIDUE is 0.
    private static final int GROWERS_HERE = 0;
    private static final int LOTS_HERE = 1;
    private static final int TANKS_HERE = 2;
    private static final int RESIDUE_OF = 3;
    private static final int RESIDUE = 4;
    private static final int CLEANINGS = 5;
    private static final int DAYS = 6;
    private static final int MILL_NUMBERS = 7;

    // The settings, by their numbers in the document.
    private static final int KEPT_BACK = 0;
    private static final int FIRST_PRESSING = 1;
    private static final int SECOND_PRESSING = 2;
    private static final int SEDIMENT = 3;
    private static final int FEE = 4;
    private static final int WAY = 5;
    private static final int TOLERANCE = 6;

    private static final int WAY_LIKE_FIRST = 1;
    private static final int WAY_POUR = 2;

    private static final int[] NEW_SETTINGS = {10, 850, 600, 2, 20, 0, 100};
    private static final int[] LEAST_SETTINGS = {0, 500, 0, 0, 0, 0, 0};
    private static final int[] MOST_SETTINGS = {50, 1000, 1000, 50, 500, 2, 500};
    private static final int[] NEW_YIELDS = {150, 180, 200, 220, 160};

    private final Books books;
    private final Cellar cellar;
    private final Rehearsal rehearsal;
    private final SlipReader reader;
    private final int[] buffer;
    private int length;

    public OliveMill() {
        Books newBooks = new Books();
        books = newBooks;
        cellar = new Cellar(newBooks);
        rehearsal = new Rehearsal(newBooks);
        reader = new SlipReader();
        buffer = new int[MOST_CHARACTERS];
        length = 0;
    }

    // ---- growers, lots, tanks, settings

    public int addGrower() throws IllegalStateException {
        int number = books.mill.get(GROWERS_HERE);
        if (number >= MOST_GROWERS) {
            throw new IllegalStateException("there are 8 growers");
        }
        books.save();
        books.mill.add(GROWERS_HERE, 1);
        return number;
    }

    public int addLot(int grower, int variety, int kilos, int acidity, int truth)
            throws IndexOutOfBoundsException, IllegalArgumentException, IllegalStateException {
        checkGrower(grower);
        if (!isVariety(variety) || isOutside(kilos, 1, MOST_KILOS) || isOutside(acidity, 0, MOST_ACIDITY)
                || isOutside(truth, LEAST_TRUTH, MOST_TRUTH)) {
            throw new IllegalArgumentException("the variety, the kilos, the acidity or the truth is out of range");
        }
        if (books.mill.get(LOTS_HERE) >= MOST_LOTS) {
            throw new IllegalStateException("there are 40 lots");
        }
        books.save();
        return enterLot(grower, variety, kilos, acidity, truth);
    }

    public int addTank(int size) throws IllegalArgumentException, IllegalStateException {
        if (isOutside(size, LEAST_SIZE, MOST_OIL)) {
            throw new IllegalArgumentException("the size is not 100 to 20000");
        }
        int number = books.mill.get(TANKS_HERE);
        if (number >= MOST_TANKS) {
            throw new IllegalStateException("there are 6 tanks");
        }
        books.save();
        books.tanks.put(number, SIZE, size);
        books.mill.add(TANKS_HERE, 1);
        return number;
    }

    public int setYield(int variety, int value) throws IndexOutOfBoundsException, IllegalArgumentException {
        checkVariety(variety);
        if (isOutside(value, 50, 400)) {
            throw new IllegalArgumentException("the yield is not 50 to 400");
        }
        int previous = books.varieties.get(variety, YIELD);
        books.save();
        books.varieties.put(variety, YIELD, value);
        return previous;
    }

    public int set(int setting, int value) throws IndexOutOfBoundsException, IllegalArgumentException {
        if (!isSetting(setting)) {
            throw new IndexOutOfBoundsException("there is no such setting");
        }
        if (!isSettingValue(setting, value)) {
            throw new IllegalArgumentException("the value is out of the range of the setting");
        }
        int previous = books.settings.get(setting);
        books.save();
        books.settings.put(setting, value);
        return previous;
    }

    // ---- pressing, appeals

    public int press(int tank, boolean mixes) throws IndexOutOfBoundsException, IllegalStateException {
        checkTank(tank);
        if (reasonAgainstPress(tank, mixes) != 0) {
            throw new IllegalStateException("there is a reason against pressing the next lot");
        }
        books.save();
        loseByCleaning(rehearsal.formerResidueOf, rehearsal.lost);
        enterPressedLot(tank);
        pourPressedOil(tank);
        books.mill.put(RESIDUE_OF, rehearsal.residueOf);
        books.mill.put(RESIDUE, rehearsal.residue);
        return rehearsal.lot;
    }

    public int clean() {
        books.save();
        int residue = books.mill.get(RESIDUE);
        loseByCleaning(books.mill.get(RESIDUE_OF), residue);
        books.mill.put(RESIDUE, 0);
        return residue;
    }

    public int appeal(int lot) throws IndexOutOfBoundsException, IllegalStateException {
        checkLot(lot);
        if (reasonAgainstAppeal(lot) != 0) {
            throw new IllegalStateException("there is a reason against this appeal");
        }
        books.save();
        int oil = secondOilOf(lot);
        int variety = books.lots.get(lot, VARIETY);
        books.lots.put(lot, TIMES_PRESSED, 2);
        books.lots.put(lot, SECOND_OIL, oil);
        books.varieties.add(variety, OIL_PRESSED, oil);
        cellar.pour(books.lots.get(lot, TANK), variety, oil, books.gradeOfLot(lot));
        settleAppeal(books.lots.get(lot, GROWER), oil);
        return oil;
    }

    // ---- oil, days

    public int draw(int grower, int tank, int oil)
            throws IndexOutOfBoundsException, IllegalArgumentException, IllegalStateException {
        checkGrower(grower);
        checkTank(tank);
        checkOil(oil);
        if (books.growers.get(grower, ACCOUNT) < oil || cellar.oilOf(tank) < oil) {
            throw new IllegalStateException("the account or the tank has less oil");
        }
        books.save();
        cellar.takeOut(tank, oil);
        for (int variety = 0; variety < VARIETIES; variety++) {
            books.varieties.add(variety, OIL_DRAWN, cellar.part(variety));
        }
        books.growers.add(grower, ACCOUNT, -oil);
        books.growers.add(grower, DRAWN, oil);
        return books.growers.get(grower, ACCOUNT);
    }

    public int move(int from, int to, int oil, boolean mixes)
            throws IndexOutOfBoundsException, IllegalArgumentException, IllegalStateException {
        checkTank(from);
        checkTank(to);
        if (from == to) {
            throw new IllegalArgumentException("both tanks are the same");
        }
        checkOil(oil);
        int grade = cellar.gradeOf(from);
        if (cellar.oilOf(from) < oil || cellar.roomOf(to) < oil || !cellar.admits(to, grade, mixes)) {
            throw new IllegalStateException("the oil cannot be moved");
        }
        books.save();
        cellar.takeOut(from, oil);
        for (int variety = 0; variety < VARIETIES; variety++) {
            cellar.pour(to, variety, cellar.part(variety), grade);
        }
        return cellar.oilOf(to);
    }

    public int pass(int days) throws IllegalArgumentException {
        if (isOutside(days, 1, 100)) {
            throw new IllegalArgumentException("the days are not 1 to 100");
        }
        books.save();
        books.mill.add(DAYS, days);
        int lost = 0;
        int tanks = books.mill.get(TANKS_HERE);
        for (int tank = 0; tank < tanks; tank++) {
            for (int variety = 0; variety < VARIETIES; variety++) {
                lost += cellar.settle(tank, variety, days);
            }
        }
        return lost;
    }

    // ---- texts

    public int append(int code) throws IllegalArgumentException, IllegalStateException {
        if (isOutside(code, 33, 126)) {
            throw new IllegalArgumentException("the code is not 33 to 126");
        }
        if (length < 0 || length >= buffer.length) {
            throw new IllegalStateException("the buffer has 60 characters");
        }
        buffer[length] = code;
        length++;
        return length;
    }

    public int clearBuffer() {
        int previous = length;
        length = 0;
        return previous;
    }

    public int firstError() {
        reader.restart();
        for (int at = 0; at < length; at++) {
            if (!reader.reads(codeAt(at))) {
                return at;
            }
        }
        return length;
    }

    public int addSlips() throws IllegalArgumentException {
        if (firstError() < length || !reader.canEnd()) {
            throw new IllegalArgumentException("the buffer is not a complete row of slips");
        }
        books.save();
        int added = enterSlips();
        length = 0;
        return added;
    }

    public int undo() throws IllegalStateException {
        if (books.savedStates == 0) {
            throw new IllegalStateException("there is no saved state");
        }
        books.restore();
        return books.savedStates;
    }

    // ---- what there is

    public int grower(int grower, int what) throws IndexOutOfBoundsException, IllegalArgumentException {
        checkGrower(grower);
        switch (what) {
            case 0: return books.growers.get(grower, ACCOUNT);
            case 1: return lotsWith(GROWER, grower, false);
            case 2: return lotsWith(GROWER, grower, true);
            case 3: return books.growers.get(grower, DRAWN);
            case 4: return books.growers.get(grower, APPEALS);
            case 5: return books.growers.get(grower, APPEALS_LOST);
            default: throw new IllegalArgumentException("what is not 0 to 5");
        }
    }

    public int lot(int lot, int what) throws IndexOutOfBoundsException, IllegalArgumentException {
        checkLot(lot);
        switch (what) {
            case 0: return books.lots.get(lot, GROWER);
            case 1: return books.lots.get(lot, VARIETY);
            case 2: return books.lots.get(lot, KILOS);
            case 3: return books.lots.get(lot, ACIDITY);
            case 4: return books.gradeOfLot(lot);
            case 5: return books.lots.get(lot, TIMES_PRESSED);
            case 6: return ifPressed(lot, 1, DUE);
            case 7: return ifPressed(lot, 1, FIRST_OIL);
            case 8: return ifPressed(lot, 2, SECOND_OIL);
            case 9: return ifPressed(lot, 1, TANK);
            case 10: return reasonAgainstAppeal(lot);
            default: throw new IllegalArgumentException("what is not 0 to 10");
        }
    }

    public int tank(int tank, int what) throws IndexOutOfBoundsException, IllegalArgumentException {
        checkTank(tank);
        switch (what) {
            case 0: return books.tanks.get(tank, SIZE);
            case 1: return cellar.oilOf(tank);
            case 2: return cellar.gradeOf(tank);
            case 10:
            case 11:
            case 12:
            case 13:
            case 14: return books.tanks.get(tank, OIL + what - 10);
            default: throw new IllegalArgumentException("what is not 0 to 2 or 10 to 14");
        }
    }

    public int variety(int variety, int what) throws IndexOutOfBoundsException, IllegalArgumentException {
        checkVariety(variety);
        switch (what) {
            case 0: return books.varieties.get(variety, YIELD);
            case 1: return books.varieties.get(variety, OIL_PRESSED);
            case 2: return cellar.oilOfVariety(variety);
            case 3: return residueVariety() == variety ? books.mill.get(RESIDUE) : 0;
            case 4: return books.varieties.get(variety, OIL_DRAWN);
            case 5: return books.varieties.get(variety, OIL_SETTLED);
            case 6: return books.varieties.get(variety, OIL_CLEANED);
            case 7: return lotsWith(VARIETY, variety, true);
            default: throw new IllegalArgumentException("what is not 0 to 7");
        }
    }

    public int count(int what) throws IllegalArgumentException {
        switch (what) {
            case 0: return books.mill.get(GROWERS_HERE);
            case 1: return books.mill.get(LOTS_HERE);
            case 2: return lotsWith(TIMES_PRESSED, 0, false);
            case 3: return books.mill.get(TANKS_HERE);
            case 4: return residueVariety();
            case 5: return books.mill.get(RESIDUE);
            case 6: return books.mill.get(CLEANINGS);
            case 7: return books.mill.get(DAYS);
            case 8: return cellar.allOil();
            case 9: return sumOfGrowers(ACCOUNT);
            case 10: return cellar.oilOfGrade(0);
            case 11: return sumOfGrowers(APPEALS);
            case 12: return books.savedStates;
            default: throw new IllegalArgumentException("what is not 0 to 12");
        }
    }

    public int setting(int setting) throws IndexOutOfBoundsException {
        if (!isSetting(setting)) {
            throw new IndexOutOfBoundsException("there is no such setting");
        }
        return books.settings.get(setting);
    }

    // ---- what would be; nothing is changed

    public int whyNot(int tank, boolean mixes) throws IndexOutOfBoundsException {
        checkTank(tank);
        return reasonAgainstPress(tank, mixes);
    }

    public int next(int what) throws IllegalArgumentException {
        if (isOutside(what, 0, 4)) {
            throw new IllegalArgumentException("what is not 0 to 4");
        }
        if (!rehearsal.lookAhead()) {
            return NONE;
        }
        switch (what) {
            case 0: return rehearsal.lot;
            case 1: return rehearsal.firstOil;
            case 2: return rehearsal.poured;
            case 3: return rehearsal.lost;
            default: return rehearsal.residue;
        }
    }

    public int taken(int tank, int oil, int variety) throws IndexOutOfBoundsException, IllegalArgumentException {
        checkTank(tank);
        checkOil(oil);
        if (!isVariety(variety)) {
            throw new IllegalArgumentException("there is no such variety");
        }
        if (cellar.oilOf(tank) < oil) {
            return NONE;
        }
        cellar.split(tank, oil);
        return cellar.part(variety);
    }

    public int oilIn(int tank, int days) throws IndexOutOfBoundsException, IllegalArgumentException {
        checkTank(tank);
        if (isOutside(days, 0, 200)) {
            throw new IllegalArgumentException("the days are not 0 to 200");
        }
        int oil = 0;
        for (int variety = 0; variety < VARIETIES; variety++) {
            oil += cellar.oilAfter(days, books.tanks.get(tank, OIL + variety));
        }
        return oil;
    }

    public int lossBy(int way) throws IllegalArgumentException {
        if (!isSettingValue(WAY, way)) {
            throw new IllegalArgumentException("the way is not 0 to 2");
        }
        rehearsal.begin();
        int lost = 0;
        for (int lot = 0; lot < MOST_LOTS && rehearsal.step(way); lot++) {
            lost += rehearsal.lost;
        }
        return lost;
    }

    public int bestTank() {
        int best = NONE;
        int leastRoom = 0;
        int tanks = books.mill.get(TANKS_HERE);
        for (int tank = 0; tank < tanks; tank++) {
            if (reasonAgainstPress(tank, false) == 0) {
                int room = cellar.roomOf(tank) - rehearsal.poured;
                if (best == NONE || room < leastRoom) {
                    best = tank;
                    leastRoom = room;
                }
            }
        }
        return best;
    }

    public double goodShare() {
        int all = cellar.allOil();
        if (all == 0) {
            return 0.0;
        }
        return (double) cellar.oilOfGrade(0) / (double) all;
    }

    public long digest() {
        long hash = 2393L;
        for (int what = 0; what <= 12; what++) {
            hash = mixed(hash, count(what));
        }
        for (int setting = 0; setting < SETTINGS; setting++) {
            hash = mixed(hash, setting(setting));
        }
        hash = mixedWithGrowers(hash);
        hash = mixedWithLots(hash);
        hash = mixedWithTanks(hash);
        hash = mixedWithVarieties(hash);
        for (int what = 0; what <= 4; what++) {
            hash = mixed(hash, next(what));
        }
        for (int way = 0; way <= 2; way++) {
            hash = mixed(hash, lossBy(way));
        }
        hash = mixed(hash, bestTank());
        hash = mixed(hash, bitsOf(goodShare()));
        hash = mixed(hash, length);
        for (int at = 0; at < length; at++) {
            hash = mixed(hash, codeAt(at));
        }
        return hash;
    }

    // ---- arguments

    private static boolean isOutside(int value, int least, int most) {
        return value < least || value > most;
    }

    private static boolean isVariety(int variety) {
        return variety >= 0 && variety < VARIETIES;
    }

    private static boolean isSetting(int setting) {
        return setting >= 0 && setting < SETTINGS;
    }

    private static boolean isSettingValue(int setting, int value) {
        return setting >= 0 && setting < LEAST_SETTINGS.length && setting < MOST_SETTINGS.length
                && value >= LEAST_SETTINGS[setting] && value <= MOST_SETTINGS[setting];
    }

    private void checkGrower(int grower) {
        if (grower < 0 || grower >= books.mill.get(GROWERS_HERE)) {
            throw new IndexOutOfBoundsException("there is no such grower");
        }
    }

    private void checkLot(int lot) {
        if (lot < 0 || lot >= books.mill.get(LOTS_HERE)) {
            throw new IndexOutOfBoundsException("there is no such lot");
        }
    }

    private void checkTank(int tank) {
        if (tank < 0 || tank >= books.mill.get(TANKS_HERE)) {
            throw new IndexOutOfBoundsException("there is no such tank");
        }
    }

    private static void checkVariety(int variety) {
        if (!isVariety(variety)) {
            throw new IndexOutOfBoundsException("there is no such variety");
        }
    }

    private static void checkOil(int oil) {
        if (isOutside(oil, 1, MOST_OIL)) {
            throw new IllegalArgumentException("the oil is not 1 to 20000");
        }
    }

    // ---- lots

    private int enterLot(int grower, int variety, int kilos, int acidity, int truth) {
        int number = books.mill.get(LOTS_HERE);
        books.lots.put(number, GROWER, grower);
        books.lots.put(number, VARIETY, variety);
        books.lots.put(number, KILOS, kilos);
        books.lots.put(number, ACIDITY, acidity);
        books.lots.put(number, TRUTH, truth);
        books.mill.add(LOTS_HERE, 1);
        return number;
    }

    private int enterSlips() {
        int added = 0;
        reader.restart();
        for (int at = 0; at <= length; at++) {
            // The last slip has no ";" behind it, but ends like the others.
            int code = at < length ? codeAt(at) : ';';
            if (code == ';') {
                if (reader.grower >= books.mill.get(GROWERS_HERE) || books.mill.get(LOTS_HERE) >= MOST_LOTS) {
                    return added;
                }
                enterLot(reader.grower, reader.variety, reader.kilos, reader.acidity(), reader.truth());
                added++;
            }
            reader.reads(code);
        }
        return added;
    }

    private int codeAt(int at) {
        return at >= 0 && at < buffer.length ? buffer[at] : 0;
    }

    private int lotsWith(int column, int value, boolean onlyWaiting) {
        int found = 0;
        int lots = books.mill.get(LOTS_HERE);
        for (int lot = 0; lot < lots; lot++) {
            boolean counts = !onlyWaiting || books.lots.get(lot, TIMES_PRESSED) == 0;
            if (counts && books.lots.get(lot, column) == value) {
                found++;
            }
        }
        return found;
    }

    private int ifPressed(int lot, int times, int column) {
        return books.lots.get(lot, TIMES_PRESSED) >= times ? books.lots.get(lot, column) : NONE;
    }

    // ---- pressing

    /** What the rehearsal has found is left in it, for press() and bestTank(). */
    private int reasonAgainstPress(int tank, boolean mixes) {
        if (!rehearsal.lookAhead()) {
            return 1;
        }
        if (rehearsal.poured > cellar.roomOf(tank)) {
            return 2;
        }
        if (rehearsal.poured > 0 && !cellar.admits(tank, books.gradeOfLot(rehearsal.lot), mixes)) {
            return 3;
        }
        return 0;
    }

    private void loseByCleaning(int variety, int oil) {
        if (oil > 0) {
            books.varieties.add(variety, OIL_CLEANED, oil);
            books.mill.add(CLEANINGS, 1);
        }
    }

    private void enterPressedLot(int tank) {
        int lot = rehearsal.lot;
        books.lots.put(lot, TIMES_PRESSED, 1);
        books.lots.put(lot, DUE, rehearsal.due);
        books.lots.put(lot, CONTENT, rehearsal.content);
        books.lots.put(lot, FIRST_OIL, rehearsal.firstOil);
        books.lots.put(lot, TANK, tank);
        books.growers.add(books.lots.get(lot, GROWER), ACCOUNT, rehearsal.firstOil);
        books.varieties.add(books.lots.get(lot, VARIETY), OIL_PRESSED, rehearsal.firstOil);
    }

    private void pourPressedOil(int tank) {
        int lot = rehearsal.lot;
        int grade = books.gradeOfLot(lot);
        cellar.pour(tank, rehearsal.formerResidueOf, rehearsal.carried, grade);
        cellar.pour(tank, books.lots.get(lot, VARIETY), rehearsal.poured - rehearsal.carried, grade);
    }

    private int residueVariety() {
        return books.mill.get(RESIDUE) > 0 ? books.mill.get(RESIDUE_OF) : NONE;
    }

    // ---- appeals

    private int reasonAgainstAppeal(int lot) {
        if (books.lots.get(lot, TIMES_PRESSED) != 1) {
            return 1;
        }
        int expected = books.lots.get(lot, DUE) * books.settings.get(FIRST_PRESSING) / 1000;
        if (books.lots.get(lot, FIRST_OIL) >= expected * (1000 - books.settings.get(TOLERANCE)) / 1000) {
            return 2;
        }
        if (secondOilOf(lot) > cellar.roomOf(books.lots.get(lot, TANK))) {
            return 3;
        }
        return 0;
    }

    private int secondOilOf(int lot) {
        int left = books.lots.get(lot, CONTENT) - books.lots.get(lot, FIRST_OIL);
        return left * books.settings.get(SECOND_PRESSING) / 1000;
    }

    private void settleAppeal(int grower, int oil) {
        int fee = books.settings.get(FEE);
        books.growers.add(grower, APPEALS, 1);
        books.growers.add(grower, ACCOUNT, oil);
        if (oil < fee) {
            books.growers.add(grower, APPEALS_LOST, 1);
            books.growers.put(grower, ACCOUNT, Math.max(0, books.growers.get(grower, ACCOUNT) - fee));
        }
    }

    private int sumOfGrowers(int column) {
        int sum = 0;
        for (int grower = 0; grower < MOST_GROWERS; grower++) {
            sum += books.growers.get(grower, column);
        }
        return sum;
    }

    // ---- the digest

    private static long mixed(long hash, long value) {
        return 31L * hash + value;
    }

    private long mixedWithGrowers(long before) {
        long hash = before;
        int growers = books.mill.get(GROWERS_HERE);
        for (int grower = 0; grower < growers; grower++) {
            for (int what = 0; what <= 5; what++) {
                hash = mixed(hash, grower(grower, what));
            }
        }
        return hash;
    }

    private long mixedWithLots(long before) {
        long hash = before;
        int lots = books.mill.get(LOTS_HERE);
        for (int lot = 0; lot < lots; lot++) {
            for (int what = 0; what <= 10; what++) {
                hash = mixed(hash, lot(lot, what));
            }
        }
        return hash;
    }

    private long mixedWithTanks(long before) {
        long hash = before;
        int tanks = books.mill.get(TANKS_HERE);
        for (int tank = 0; tank < tanks; tank++) {
            for (int what = 0; what <= 2; what++) {
                hash = mixed(hash, tank(tank, what));
            }
            for (int what = 10; what <= 14; what++) {
                hash = mixed(hash, tank(tank, what));
            }
            hash = mixed(hash, reasonAgainstPress(tank, false));
            hash = mixed(hash, reasonAgainstPress(tank, true));
            hash = mixed(hash, oilIn(tank, 30));
            for (int variety = 0; variety < VARIETIES; variety++) {
                hash = mixed(hash, taken(tank, 1, variety));
            }
        }
        return hash;
    }

    private long mixedWithVarieties(long before) {
        long hash = before;
        for (int variety = 0; variety < VARIETIES; variety++) {
            for (int what = 0; what <= 7; what++) {
                hash = mixed(hash, variety(variety, what));
            }
        }
        return hash;
    }

    /** The bits of a number from 0.0 to 1.0, by hand, since LANGUAGE.md leaves out the class Double. */
    private static long bitsOf(double share) {
        if (!(share > 0.0)) {
            return 0L;
        }
        double fraction = share;
        long exponent = 1023L;
        for (int step = 0; step < 1000 && fraction < 1.0; step++) {
            fraction = fraction * 2.0;
            exponent--;
        }
        // The factor is 2 to the power of 52, so that nothing is rounded.
        return (exponent << 52) + (long) ((fraction - 1.0) * 4503599627370496.0);
    }

    /** A row of numbers in a part of an array. A place outside the array is never asked for; it would read as 0. */
    private static final class Row {
        private final int[] cells;
        private final int start;

        Row(int[] cells, int start) {
            this.cells = cells;
            this.start = start;
        }

        int get(int column) {
            int at = start + column;
            return at >= 0 && at < cells.length ? cells[at] : 0;
        }

        void put(int column, int value) {
            int at = start + column;
            if (at >= 0 && at < cells.length) {
                cells[at] = value;
            }
        }

        void add(int column, int value) {
            put(column, get(column) + value);
        }
    }

    /** Rows of numbers, one behind the other, in a part of an array; outside the array it is like Row. */
    private static final class Table {
        private final int[] cells;
        private final int start;
        private final int columns;

        Table(int[] cells, int start, int columns) {
            this.cells = cells;
            this.start = start;
            this.columns = columns;
        }

        int get(int row, int column) {
            int at = start + row * columns + column;
            return at >= 0 && at < cells.length ? cells[at] : 0;
        }

        void put(int row, int column, int value) {
            int at = start + row * columns + column;
            if (at >= 0 && at < cells.length) {
                cells[at] = value;
            }
        }

        void add(int row, int column, int value) {
            put(row, column, get(row, column) + value);
        }
    }

    /** All that undo restores, in one array, so that a state is saved by one copy into a place made beforehand. */
    private static final class Books {
        private static final int LOTS_START = MOST_GROWERS * GROWER_COLUMNS;
        private static final int TANKS_START = LOTS_START + MOST_LOTS * LOT_COLUMNS;
        private static final int VARIETIES_START = TANKS_START + MOST_TANKS * TANK_COLUMNS;
        private static final int SETTINGS_START = VARIETIES_START + VARIETIES * VARIETY_COLUMNS;
        private static final int MILL_START = SETTINGS_START + SETTINGS;
        private static final int CELLS = MILL_START + MILL_NUMBERS;

        private final Table growers;
        private final Table lots;
        private final Table tanks;
        private final Table varieties;
        private final Row settings;
        private final Row mill;
        private final int[] cells;
        private final int[] saved;
        private int oldestSaved;
        private int savedStates;

        Books() {
            int[] newCells = new int[CELLS];
            cells = newCells;
            saved = new int[MOST_SAVED * CELLS];
            growers = new Table(newCells, 0, GROWER_COLUMNS);
            lots = new Table(newCells, LOTS_START, LOT_COLUMNS);
            tanks = new Table(newCells, TANKS_START, TANK_COLUMNS);
            varieties = new Table(newCells, VARIETIES_START, VARIETY_COLUMNS);
            settings = new Row(newCells, SETTINGS_START);
            mill = new Row(newCells, MILL_START);
            for (int setting = 0; setting < NEW_SETTINGS.length; setting++) {
                settings.put(setting, NEW_SETTINGS[setting]);
            }
            for (int variety = 0; variety < NEW_YIELDS.length; variety++) {
                varieties.put(variety, YIELD, NEW_YIELDS[variety]);
            }
        }

        int gradeOfLot(int lot) {
            int acidity = lots.get(lot, ACIDITY);
            if (acidity <= 8) {
                return 0;
            }
            return acidity <= 20 ? 1 : 2;
        }

        void save() {
            if (savedStates == MOST_SAVED) {
                oldestSaved = (oldestSaved + 1) % MOST_SAVED;
                savedStates--;
            }
            int place = placeOfSaved(savedStates);
            if (place >= 0 && place <= saved.length - CELLS) {
                System.arraycopy(cells, 0, saved, place, CELLS);
            }
            savedStates++;
        }

        void restore() {
            savedStates--;
            int place = placeOfSaved(savedStates);
            if (place >= 0 && place <= saved.length - CELLS) {
                System.arraycopy(saved, place, cells, 0, CELLS);
            }
        }

        private int placeOfSaved(int age) {
            return (oldestSaved + age) % MOST_SAVED * CELLS;
        }
    }

    /** The oil in the tanks, and how oil that is taken out of one is made up. */
    private static final class Cellar {
        private final Books books;
        private final int[] parts;
        private final int[] remainders;

        Cellar(Books books) {
            this.books = books;
            parts = new int[VARIETIES];
            remainders = new int[VARIETIES];
        }

        int oilOf(int tank) {
            int oil = 0;
            for (int variety = 0; variety < VARIETIES; variety++) {
                oil += books.tanks.get(tank, OIL + variety);
            }
            return oil;
        }

        int allOil() {
            int oil = 0;
            for (int tank = 0; tank < MOST_TANKS; tank++) {
                oil += oilOf(tank);
            }
            return oil;
        }

        int oilOfVariety(int variety) {
            int oil = 0;
            for (int tank = 0; tank < MOST_TANKS; tank++) {
                oil += books.tanks.get(tank, OIL + variety);
            }
            return oil;
        }

        int oilOfGrade(int grade) {
            int oil = 0;
            for (int tank = 0; tank < MOST_TANKS; tank++) {
                if (gradeOf(tank) == grade) {
                    oil += oilOf(tank);
                }
            }
            return oil;
        }

        int gradeOf(int tank) {
            return oilOf(tank) > 0 ? books.tanks.get(tank, GRADE) : NONE;
        }

        int roomOf(int tank) {
            return books.tanks.get(tank, SIZE) - oilOf(tank);
        }

        boolean admits(int tank, int grade, boolean mixes) {
            int there = gradeOf(tank);
            return mixes || there == NONE || there == grade;
        }

        void pour(int tank, int variety, int oil, int grade) {
            // Pouring nothing must not make a tank worse.
            if (oil > 0) {
                books.tanks.put(tank, GRADE, Math.max(gradeOf(tank), grade));
                books.tanks.add(tank, OIL + variety, oil);
            }
        }

        void takeOut(int tank, int oil) {
            split(tank, oil);
            for (int variety = 0; variety < VARIETIES; variety++) {
                books.tanks.add(tank, OIL + variety, -part(variety));
            }
        }

        int oilAfter(int days, int oil) {
            int left = oil;
            for (int day = 0; day < days; day++) {
                left -= left * books.settings.get(SEDIMENT) / 1000;
            }
            return left;
        }

        /** Answers what is lost. */
        int settle(int tank, int variety, int days) {
            int oil = books.tanks.get(tank, OIL + variety);
            int left = oilAfter(days, oil);
            books.tanks.put(tank, OIL + variety, left);
            books.varieties.add(variety, OIL_SETTLED, oil - left);
            return oil - left;
        }

        int part(int variety) {
            return variety >= 0 && variety < parts.length ? parts[variety] : 0;
        }

        /** The parts are left in this object, for part(). */
        void split(int tank, int oil) {
            int all = oilOf(tank);
            if (all <= 0) {
                return;
            }
            int missing = oil;
            for (int variety = 0; variety < parts.length && variety < remainders.length; variety++) {
                int share = books.tanks.get(tank, OIL + variety) * oil;
                parts[variety] = share / all;
                remainders[variety] = share % all;
                missing -= parts[variety];
            }
            for (int step = 0; step < VARIETIES && missing > 0; step++) {
                roundUp(greatestRemainder());
                missing--;
            }
        }

        private int greatestRemainder() {
            int greatest = 0;
            for (int variety = 1; variety < remainders.length; variety++) {
                if (remainders[variety] > remainders[greatest]) {
                    greatest = variety;
                }
            }
            return greatest;
        }

        private void roundUp(int variety) {
            if (variety >= 0 && variety < parts.length && variety < remainders.length) {
                parts[variety]++;
                remainders[variety] = 0;
            }
        }
    }

    /** Presses lots without changing the books; each step leaves what it found in the fields. */
    private static final class Rehearsal {
        private final Books books;
        private final boolean[] waits;
        private int residueOf;
        private int residue;
        private int formerResidueOf;
        private int lot;
        private int due;
        private int content;
        private int firstOil;
        private int lost;
        private int carried;
        private int poured;

        Rehearsal(Books books) {
            this.books = books;
            waits = new boolean[MOST_LOTS];
        }

        void begin() {
            int lots = books.mill.get(LOTS_HERE);
            for (int number = 0; number < waits.length; number++) {
                waits[number] = number < lots && books.lots.get(number, TIMES_PRESSED) == 0;
            }
            residueOf = books.mill.get(RESIDUE_OF);
            residue = books.mill.get(RESIDUE);
        }

        boolean lookAhead() {
            begin();
            return step(books.settings.get(WAY));
        }

        /** Presses the next lot; false if no lot waits. */
        boolean step(int way) {
            lot = lotInTurn(way);
            if (lot < 0 || lot >= waits.length) {
                return false;
            }
            waits[lot] = false;
            weigh();
            passThroughMill(way);
            return true;
        }

        private int lotInTurn(int way) {
            if (way == WAY_LIKE_FIRST && residue > 0) {
                for (int number = 0; number < waits.length; number++) {
                    if (waits[number] && books.lots.get(number, VARIETY) == residueOf) {
                        return number;
                    }
                }
            }
            for (int number = 0; number < waits.length; number++) {
                if (waits[number]) {
                    return number;
                }
            }
            return NONE;
        }

        private void weigh() {
            int rate = books.varieties.get(books.lots.get(lot, VARIETY), YIELD);
            due = books.lots.get(lot, KILOS) * rate / 100;
            content = due * books.lots.get(lot, TRUTH) / 1000;
            firstOil = content * books.settings.get(FIRST_PRESSING) / 1000;
        }

        private void passThroughMill(int way) {
            int variety = books.lots.get(lot, VARIETY);
            int former = residueOf == variety ? 0 : residue;
            int together = firstOil + residue - former;
            lost = way == WAY_POUR ? 0 : former;
            carried = way == WAY_POUR ? former : 0;
            formerResidueOf = residueOf;
            residueOf = variety;
            residue = Math.min(together, books.settings.get(KEPT_BACK));
            poured = carried + together - residue;
        }
    }

    /** Reads a row of slips, one character after the other. */
    private static final class SlipReader {
        private static final int AT_GROWER = 0;
        private static final int AT_VARIETY = 1;
        private static final int AT_KILOS = 2;
        private static final int AT_ACIDITY = 3;
        private static final int AT_TRUTH = 4;

        private int stage;
        private int least;
        private int most;
        private int number;
        private boolean hasDigit;
        private int grower;
        private int variety;
        private int kilos;
        private int acidityBeforeTruth;

        void restart() {
            stage = AT_GROWER;
        }

        /** Whether the character is no syntax error; after one that is, only restart() goes on. */
        boolean reads(int code) {
            if (stage == AT_GROWER) {
                return readsGrower(code);
            }
            if (stage == AT_VARIETY) {
                return readsVariety(code);
            }
            if (code >= '0' && code <= '9') {
                return readsDigit(code - '0');
            }
            return numberStands() && readsSign(code);
        }

        boolean canEnd() {
            return (stage == AT_ACIDITY || stage == AT_TRUTH) && numberStands();
        }

        int acidity() {
            return stage == AT_TRUTH ? acidityBeforeTruth : number;
        }

        int truth() {
            return stage == AT_TRUTH ? number : USUAL_TRUTH;
        }

        private boolean readsGrower(int code) {
            grower = code - '0';
            stage = AT_VARIETY;
            return grower >= 0 && grower < MOST_GROWERS;
        }

        private boolean readsVariety(int code) {
            variety = code - 'a';
            beginNumber(AT_KILOS, 1, MOST_KILOS);
            return isVariety(variety);
        }

        private boolean readsDigit(int digit) {
            if (hasDigit && number == 0) {
                return false;
            }
            number = number * 10 + digit;
            hasDigit = true;
            return numberCanStand();
        }

        private boolean readsSign(int code) {
            if (stage == AT_KILOS && code == '/') {
                kilos = number;
                beginNumber(AT_ACIDITY, 0, MOST_ACIDITY);
                return true;
            }
            if (stage == AT_ACIDITY && code == '*') {
                acidityBeforeTruth = number;
                beginNumber(AT_TRUTH, LEAST_TRUTH, MOST_TRUTH);
                return true;
            }
            if (stage != AT_KILOS && code == ';') {
                stage = AT_GROWER;
                return true;
            }
            return false;
        }

        private void beginNumber(int newStage, int newLeast, int newMost) {
            stage = newStage;
            least = newLeast;
            most = newMost;
            number = 0;
            hasDigit = false;
        }

        private boolean numberStands() {
            return hasDigit && number >= least && number <= most;
        }

        /** Whether the number, or one that begins with it, is in the range; no range has numbers of five digits. */
        private boolean numberCanStand() {
            int lowest = number;
            int highest = number;
            for (int more = 0; more < 4; more++) {
                if (lowest <= most && highest >= least) {
                    return true;
                }
                if (number == 0) {
                    return false;
                }
                lowest = lowest * 10;
                highest = highest * 10 + 9;
            }
            return false;
        }
    }
}
