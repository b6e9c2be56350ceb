import java.math.BigInteger;

/** The digest by what the other calls answer, in numbers of any length. */
final class DigestByFace {
    private static BigInteger exact;

    private static void mix(long value) {
        exact = exact.multiply(BigInteger.valueOf(31)).add(BigInteger.valueOf(value));
    }

    /** The last 64 bits are what long arithmetic with overflow gives. */
    static long of(OliveMill mill, String buffer) {
        exact = BigInteger.valueOf(2393);
        for (int what = 0; what <= 12; what++) {
            mix(mill.count(what));
        }
        for (int setting = 0; setting <= 6; setting++) {
            mix(mill.setting(setting));
        }
        for (int grower = 0; grower < mill.count(0); grower++) {
            for (int what = 0; what <= 5; what++) {
                mix(mill.grower(grower, what));
            }
        }
        for (int lot = 0; lot < mill.count(1); lot++) {
            for (int what = 0; what <= 10; what++) {
                mix(mill.lot(lot, what));
            }
        }
        for (int tank = 0; tank < mill.count(3); tank++) {
            mixTank(mill, tank);
        }
        for (int variety = 0; variety <= 4; variety++) {
            for (int what = 0; what <= 7; what++) {
                mix(mill.variety(variety, what));
            }
        }
        for (int what = 0; what <= 4; what++) {
            mix(mill.next(what));
        }
        for (int way = 0; way <= 2; way++) {
            mix(mill.lossBy(way));
        }
        mix(mill.bestTank());
        mix(Double.doubleToLongBits(mill.goodShare()));
        mix(buffer.length());
        for (int at = 0; at < buffer.length(); at++) {
            mix(buffer.charAt(at));
        }
        return exact.longValue();
    }

    private static void mixTank(OliveMill mill, int tank) {
        int[] whats = {0, 1, 2, 10, 11, 12, 13, 14};
        for (int what : whats) {
            mix(mill.tank(tank, what));
        }
        mix(mill.whyNot(tank, false));
        mix(mill.whyNot(tank, true));
        mix(mill.oilIn(tank, 30));
        for (int variety = 0; variety <= 4; variety++) {
            mix(mill.taken(tank, 1, variety));
        }
    }

    /** How many bits the hash of the latest digest has without overflow. */
    static int bits() {
        return exact.bitLength();
    }
}
