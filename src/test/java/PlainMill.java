import java.util.ArrayDeque;
import java.util.ArrayList;
import java.util.Deque;
import java.util.List;
import java.util.TreeSet;

/** The document once more, in objects and lists and with states copied whole; RandomRunsTest holds OliveMill against it. */
final class PlainMill {
    static final class Grower {
        int account, drawn, appeals, lostAppeals;

        Grower copy() {
            Grower c = new Grower();
            c.account = account;
            c.drawn = drawn;
            c.appeals = appeals;
            c.lostAppeals = lostAppeals;
            return c;
        }
    }

    static final class Lot {
        final int grower, variety, kilos, acidity, truth;
        Integer due, content, first, second, tank;

        Lot(int grower, int variety, int kilos, int acidity, int truth) {
            this.grower = grower;
            this.variety = variety;
            this.kilos = kilos;
            this.acidity = acidity;
            this.truth = truth;
        }

        Lot copy() {
            Lot c = new Lot(grower, variety, kilos, acidity, truth);
            c.due = due;
            c.content = content;
            c.first = first;
            c.second = second;
            c.tank = tank;
            return c;
        }

        int grade() {
            return acidity > 20 ? 2 : acidity > 8 ? 1 : 0;
        }

        int pressings() {
            return first == null ? 0 : second == null ? 1 : 2;
        }
    }

    static final class Tank {
        final int size;
        Integer grade;
        int[] oil = new int[5];

        Tank(int size) {
            this.size = size;
        }

        Tank copy() {
            Tank c = new Tank(size);
            c.grade = grade;
            c.oil = oil.clone();
            return c;
        }

        int all() {
            int sum = 0;
            for (int o : oil) {
                sum += o;
            }
            return sum;
        }

        boolean canTake(int amount, int ofGrade, boolean mixes) {
            return all() + amount <= size && (amount == 0 || mixes || grade == null || grade == ofGrade);
        }

        void pour(int[] what, int ofGrade) {
            int sum = 0;
            for (int v = 0; v < 5; v++) {
                oil[v] += what[v];
                sum += what[v];
            }
            if (sum > 0 && (grade == null || grade < ofGrade)) {
                grade = ofGrade;
            }
        }

        /** By sorting the varieties by their remainders. */
        int[] split(int amount) {
            long total = all();
            int[] parts = new int[5];
            List<Integer> order = new ArrayList<>(List.of(0, 1, 2, 3, 4));
            int given = 0;
            for (int v = 0; v < 5; v++) {
                parts[v] = (int) ((long) oil[v] * amount / total);
                given += parts[v];
            }
            order.sort((a, b) -> Long.compare((long) oil[b] * amount % total, (long) oil[a] * amount % total));
            for (int k = 0; k < amount - given; k++) {
                parts[order.get(k)]++;
            }
            return parts;
        }

        int[] take(int amount) {
            int[] parts = split(amount);
            for (int v = 0; v < 5; v++) {
                oil[v] -= parts[v];
            }
            if (all() == 0) {
                grade = null;
            }
            return parts;
        }
    }

    static final class State {
        List<Grower> growers = new ArrayList<>();
        List<Lot> lots = new ArrayList<>();
        List<Tank> tanks = new ArrayList<>();
        int[] yields = {150, 180, 200, 220, 160};
        int[] settings = {10, 850, 600, 2, 20, 0, 100};
        int[] pressed = new int[5];
        int[] drawn = new int[5];
        int[] settled = new int[5];
        int[] cleaned = new int[5];
        int[] residues = new int[5];
        int cleanings, days;

        State copy() {
            State c = new State();
            for (Grower g : growers) {
                c.growers.add(g.copy());
            }
            for (Lot l : lots) {
                c.lots.add(l.copy());
            }
            for (Tank t : tanks) {
                c.tanks.add(t.copy());
            }
            c.yields = yields.clone();
            c.settings = settings.clone();
            c.pressed = pressed.clone();
            c.drawn = drawn.clone();
            c.settled = settled.clone();
            c.cleaned = cleaned.clone();
            c.residues = residues.clone();
            c.cleanings = cleanings;
            c.days = days;
            return c;
        }

        int residueVariety() {
            for (int v = 0; v < 5; v++) {
                if (residues[v] > 0) {
                    return v;
                }
            }
            return -1;
        }

        Lot nextLot() {
            int residue = residueVariety();
            if (settings[5] == 1 && residue >= 0) {
                for (Lot l : lots) {
                    if (l.first == null && l.variety == residue) {
                        return l;
                    }
                }
            }
            for (Lot l : lots) {
                if (l.first == null) {
                    return l;
                }
            }
            return null;
        }

        /** Presses the next lot into a tank (of this state), whatever speaks against it; answers what was poured. */
        int pressNextInto(Tank tank, int number) {
            Lot lot = nextLot();
            lot.due = lot.kilos * yields[lot.variety] / 100;
            lot.content = lot.due * lot.truth / 1000;
            lot.first = lot.content * settings[1] / 1000;
            lot.tank = number;
            int[] poured = new int[5];
            int old = residueVariety();
            if (old >= 0 && old != lot.variety) {
                if (settings[5] == 2) {
                    poured[old] = residues[old];
                } else {
                    cleaned[old] += residues[old];
                    cleanings++;
                }
                residues[old] = 0;
            }
            int both = residues[lot.variety] + lot.first;
            residues[lot.variety] = Math.min(both, settings[0]);
            poured[lot.variety] = both - residues[lot.variety];
            tank.pour(poured, lot.grade());
            growers.get(lot.grower).account += lot.first;
            pressed[lot.variety] += lot.first;
            int sum = 0;
            for (int p : poured) {
                sum += p;
            }
            return sum;
        }

        int settleADay() {
            int lost = 0;
            for (Tank t : tanks) {
                for (int v = 0; v < 5; v++) {
                    int l = t.oil[v] * settings[3] / 1000;
                    t.oil[v] -= l;
                    settled[v] += l;
                    lost += l;
                }
            }
            days++;
            return lost;
        }
    }

    private static final TreeSet<String> KILOS = prefixes(1, 2000);
    private static final TreeSet<String> ACIDITY = prefixes(0, 50);
    private static final TreeSet<String> TRUTH = prefixes(500, 1500);

    State now = new State();
    final Deque<State> saved = new ArrayDeque<>();
    final StringBuilder buffer = new StringBuilder();

    private static TreeSet<String> prefixes(int least, int most) {
        TreeSet<String> all = new TreeSet<>();
        for (int n = least; n <= most; n++) {
            String digits = Integer.toString(n);
            for (int end = 0; end <= digits.length(); end++) {
                all.add(digits.substring(0, end));
            }
        }
        return all;
    }

    private void save() {
        saved.addLast(now.copy());
        if (saved.size() > 6) {
            saved.removeFirst();
        }
    }

    private static void index(boolean there) {
        if (!there) {
            throw new IndexOutOfBoundsException();
        }
    }

    private static void argument(boolean right) {
        if (!right) {
            throw new IllegalArgumentException();
        }
    }

    private static void state(boolean right) {
        if (!right) {
            throw new IllegalStateException();
        }
    }

    private static boolean in(int value, int least, int most) {
        return least <= value && value <= most;
    }

    private boolean isGrower(int g) {
        return in(g, 0, now.growers.size() - 1);
    }

    private boolean isTank(int t) {
        return in(t, 0, now.tanks.size() - 1);
    }

    int addGrower() {
        state(now.growers.size() < 8);
        save();
        now.growers.add(new Grower());
        return now.growers.size() - 1;
    }

    int addLot(int grower, int variety, int kilos, int acidity, int truth) {
        index(isGrower(grower));
        argument(in(variety, 0, 4) && in(kilos, 1, 2000) && in(acidity, 0, 50) && in(truth, 500, 1500));
        state(now.lots.size() < 40);
        save();
        now.lots.add(new Lot(grower, variety, kilos, acidity, truth));
        return now.lots.size() - 1;
    }

    int addTank(int size) {
        argument(in(size, 100, 20000));
        state(now.tanks.size() < 6);
        save();
        now.tanks.add(new Tank(size));
        return now.tanks.size() - 1;
    }

    int setYield(int variety, int value) {
        index(in(variety, 0, 4));
        argument(in(value, 50, 400));
        save();
        int before = now.yields[variety];
        now.yields[variety] = value;
        return before;
    }

    int set(int setting, int value) {
        index(in(setting, 0, 6));
        int[][] ranges = {{0, 50}, {500, 1000}, {0, 1000}, {0, 50}, {0, 500}, {0, 2}, {0, 500}};
        argument(in(value, ranges[setting][0], ranges[setting][1]));
        save();
        int before = now.settings[setting];
        now.settings[setting] = value;
        return before;
    }

    int press(int tank, boolean mixes) {
        index(isTank(tank));
        state(whyNot(tank, mixes) == 0);
        save();
        int number = now.lots.indexOf(now.nextLot());
        now.pressNextInto(now.tanks.get(tank), tank);
        return number;
    }

    int clean() {
        save();
        int v = now.residueVariety();
        if (v < 0) {
            return 0;
        }
        int lost = now.residues[v];
        now.residues[v] = 0;
        now.cleaned[v] += lost;
        now.cleanings++;
        return lost;
    }

    private int second(Lot lot) {
        return (lot.content - lot.first) * now.settings[2] / 1000;
    }

    private int noAppeal(Lot lot) {
        if (lot.pressings() != 1) {
            return 1;
        }
        int expected = lot.due * now.settings[1] / 1000;
        if (lot.first >= expected * (1000 - now.settings[6]) / 1000) {
            return 2;
        }
        return now.tanks.get(lot.tank).canTake(second(lot), lot.grade(), true) ? 0 : 3;
    }

    int appeal(int number) {
        index(in(number, 0, now.lots.size() - 1));
        state(noAppeal(now.lots.get(number)) == 0);
        save();
        Lot lot = now.lots.get(number);
        lot.second = second(lot);
        int[] poured = new int[5];
        poured[lot.variety] = lot.second;
        now.tanks.get(lot.tank).pour(poured, lot.grade());
        now.pressed[lot.variety] += lot.second;
        Grower g = now.growers.get(lot.grower);
        g.appeals++;
        g.account += lot.second;
        if (lot.second < now.settings[4]) {
            g.lostAppeals++;
            g.account = g.account > now.settings[4] ? g.account - now.settings[4] : 0;
        }
        return lot.second;
    }

    int draw(int grower, int tank, int oil) {
        index(isGrower(grower) && isTank(tank));
        argument(in(oil, 1, 20000));
        state(now.growers.get(grower).account >= oil && now.tanks.get(tank).all() >= oil);
        save();
        int[] parts = now.tanks.get(tank).take(oil);
        for (int v = 0; v < 5; v++) {
            now.drawn[v] += parts[v];
        }
        now.growers.get(grower).drawn += oil;
        return now.growers.get(grower).account -= oil;
    }

    int move(int from, int to, int oil, boolean mixes) {
        index(isTank(from) && isTank(to));
        argument(from != to && in(oil, 1, 20000));
        Tank one = now.tanks.get(from);
        Tank other = now.tanks.get(to);
        state(one.all() >= oil && other.canTake(oil, one.grade, mixes));
        save();
        int grade = one.grade;
        other.pour(one.take(oil), grade);
        return other.all();
    }

    int pass(int days) {
        argument(in(days, 1, 100));
        save();
        int lost = 0;
        for (int d = 0; d < days; d++) {
            lost += now.settleADay();
        }
        return lost;
    }

    int append(int code) {
        argument(in(code, 33, 126));
        state(buffer.length() < 60);
        buffer.append((char) code);
        return buffer.length();
    }

    int clearBuffer() {
        int before = buffer.length();
        buffer.setLength(0);
        return before;
    }

    /** Whether some row of slips begins with the text. */
    private static boolean begins(String text) {
        String[] slips = text.split(";", -1);
        for (int k = 0; k < slips.length - 1; k++) {
            if (!isSlip(slips[k])) {
                return false;
            }
        }
        String last = slips[slips.length - 1];
        if (last.length() < 3) {
            return last.matches("([0-7][a-e]?)?");
        }
        if (!last.matches("[0-7][a-e].*")) {
            return false;
        }
        String rest = last.substring(2);
        int slash = rest.indexOf('/');
        int star = rest.indexOf('*');
        if (slash < 0) {
            return KILOS.contains(rest);
        }
        if (star < 0) {
            return isNumber(rest.substring(0, slash), 1, 2000) && ACIDITY.contains(rest.substring(slash + 1));
        }
        return star > slash && isSlip(last.substring(0, star + 2)) && TRUTH.contains(rest.substring(star + 1));
    }

    private static boolean isNumber(String digits, int least, int most) {
        return digits.matches("0|[1-9][0-9]{0,3}") && in(Integer.parseInt(digits), least, most);
    }

    private static boolean isSlip(String slip) {
        if (!slip.matches("[0-7][a-e][0-9]+/[0-9]+(\\*[0-9]+)?")) {
            return false;
        }
        String[] parts = slip.substring(2).split("[/*]");
        return isNumber(parts[0], 1, 2000) && isNumber(parts[1], 0, 50)
                && (parts.length == 2 || isNumber(parts[2], 500, 1500));
    }

    int firstError() {
        for (int end = 1; end <= buffer.length(); end++) {
            if (!begins(buffer.substring(0, end))) {
                return end - 1;
            }
        }
        return buffer.length();
    }

    int addSlips() {
        String[] slips = buffer.toString().split(";", -1);
        for (String slip : slips) {
            argument(isSlip(slip));
        }
        save();
        int added = 0;
        for (String slip : slips) {
            String[] parts = slip.substring(2).split("[/*]");
            int grower = slip.charAt(0) - '0';
            if (!isGrower(grower) || now.lots.size() >= 40) {
                break;
            }
            now.lots.add(new Lot(grower, slip.charAt(1) - 'a', Integer.parseInt(parts[0]), Integer.parseInt(parts[1]),
                    parts.length > 2 ? Integer.parseInt(parts[2]) : 1000));
            added++;
        }
        buffer.setLength(0);
        return added;
    }

    int undo() {
        state(!saved.isEmpty());
        now = saved.removeLast();
        return saved.size();
    }

    int grower(int grower, int what) {
        index(isGrower(grower));
        argument(in(what, 0, 5));
        Grower g = now.growers.get(grower);
        int all = (int) now.lots.stream().filter(l -> l.grower == grower).count();
        int waiting = (int) now.lots.stream().filter(l -> l.grower == grower && l.first == null).count();
        return new int[] {g.account, all, waiting, g.drawn, g.appeals, g.lostAppeals}[what];
    }

    private static int orNone(Integer value) {
        return value == null ? -1 : value;
    }

    int lot(int lot, int what) {
        index(in(lot, 0, now.lots.size() - 1));
        argument(in(what, 0, 10));
        Lot l = now.lots.get(lot);
        return new int[] {l.grower, l.variety, l.kilos, l.acidity, l.grade(), l.pressings(), orNone(l.due), orNone(l.first),
            orNone(l.second), orNone(l.tank), noAppeal(l)}[what];
    }

    int tank(int tank, int what) {
        index(isTank(tank));
        argument(in(what, 0, 2) || in(what, 10, 14));
        Tank t = now.tanks.get(tank);
        return what >= 10 ? t.oil[what - 10] : new int[] {t.size, t.all(), orNone(t.grade)}[what];
    }

    int variety(int variety, int what) {
        index(in(variety, 0, 4));
        argument(in(what, 0, 7));
        int inTanks = now.tanks.stream().mapToInt(t -> t.oil[variety]).sum();
        int waiting = (int) now.lots.stream().filter(l -> l.first == null && l.variety == variety).count();
        return new int[] {now.yields[variety], now.pressed[variety], inTanks, now.residues[variety], now.drawn[variety],
            now.settled[variety], now.cleaned[variety], waiting}[what];
    }

    int count(int what) {
        argument(in(what, 0, 12));
        int v = now.residueVariety();
        int waiting = (int) now.lots.stream().filter(l -> l.first == null).count();
        int oil = now.tanks.stream().mapToInt(Tank::all).sum();
        int good = now.tanks.stream().filter(t -> t.grade != null && t.grade == 0).mapToInt(Tank::all).sum();
        int accounts = now.growers.stream().mapToInt(g -> g.account).sum();
        int appeals = now.growers.stream().mapToInt(g -> g.appeals).sum();
        return new int[] {now.growers.size(), now.lots.size(), waiting, now.tanks.size(), v, v < 0 ? 0 : now.residues[v],
            now.cleanings, now.days, oil, accounts, good, appeals, saved.size()}[what];
    }

    int setting(int setting) {
        index(in(setting, 0, 6));
        return now.settings[setting];
    }

    int whyNot(int tank, boolean mixes) {
        index(isTank(tank));
        Lot lot = now.nextLot();
        if (lot == null) {
            return 1;
        }
        Tank t = now.tanks.get(tank);
        int poured = next(2);
        if (!t.canTake(poured, lot.grade(), true)) {
            return 2;
        }
        return t.canTake(poured, lot.grade(), mixes) ? 0 : 3;
    }

    int next(int what) {
        argument(in(what, 0, 4));
        Lot lot = now.nextLot();
        if (lot == null) {
            return -1;
        }
        int number = now.lots.indexOf(lot);
        State then = now.copy();
        int poured = then.pressNextInto(new Tank(20000), 0);
        int lost = 0;
        int residue = 0;
        for (int v = 0; v < 5; v++) {
            lost += then.cleaned[v] - now.cleaned[v];
            residue += then.residues[v];
        }
        return new int[] {number, then.lots.get(number).first, poured, lost, residue}[what];
    }

    int taken(int tank, int oil, int variety) {
        index(isTank(tank));
        argument(in(oil, 1, 20000) && in(variety, 0, 4));
        Tank t = now.tanks.get(tank);
        return t.all() < oil ? -1 : t.split(oil)[variety];
    }

    int oilIn(int tank, int days) {
        index(isTank(tank));
        argument(in(days, 0, 200));
        State then = now.copy();
        for (int d = 0; d < days; d++) {
            then.settleADay();
        }
        return then.tanks.get(tank).all();
    }

    int lossBy(int way) {
        argument(in(way, 0, 2));
        State then = now.copy();
        then.settings[5] = way;
        while (then.nextLot() != null) {
            then.pressNextInto(new Tank(20000), 0);
        }
        int lost = 0;
        for (int v = 0; v < 5; v++) {
            lost += then.cleaned[v] - now.cleaned[v];
        }
        return lost;
    }

    int bestTank() {
        int best = -1;
        for (int t = 0; t < now.tanks.size(); t++) {
            if (whyNot(t, false) == 0 && (best < 0 || room(t) < room(best))) {
                best = t;
            }
        }
        return best;
    }

    private int room(int tank) {
        return now.tanks.get(tank).size - now.tanks.get(tank).all();
    }

    double goodShare() {
        return count(8) == 0 ? 0.0 : (double) count(10) / count(8);
    }
}
