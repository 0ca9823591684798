import java.math.BigInteger;
import java.util.NoSuchElementException;

/** What the tests share: it prints every answer that is not the one due, and tells in the end by the exit code. */
final class Check {
    /** What octet() below answers where the call throws NoSuchElementException. */
    static final int THROWS = -1000;

    private static final int MOST_PRINTED = 40;
    private static int asked = 0;
    private static int wrong = 0;

    private Check() {
    }

    static void due(String call, long got, long want) {
        asked++;
        if (got != want) {
            fail(call + " answered " + got + ", due is " + want);
        }
    }

    static void due(String call, boolean got, boolean want) {
        due(call, got ? 1 : 0, want ? 1 : 0);
    }

    static void due(String call, Object got, Object want) {
        asked++;
        if (!want.equals(got)) {
            fail(call + " is " + got + ", due is " + want);
        }
    }

    static void fail(String text) {
        wrong++;
        if (wrong <= MOST_PRINTED) {
            System.out.println(text);
        }
    }

    static int wrongSoFar() {
        return wrong;
    }

    static void finish() {
        System.out.println(asked + " answers, " + wrong + " not as due");
        if (wrong != 0) {
            System.exit(1);
        }
    }

    static BigLedger formatted(int accounts, int limbs, int room) {
        BigLedger x = new BigLedger(accounts, limbs, room);
        due("format()", x.format(), true);
        return x;
    }

    /** Makes value the AMOUNT, by the calls of the face. */
    static void setAmount(BigLedger x, BigInteger value) {
        due("clearAmount()", x.clearAmount(), true);
        for (int i = (value.bitLength() + 30) / 31 - 1; i >= 0; i--) {
            due("amountLimb", x.amountLimb(limb(value, i)), true);
        }
    }

    static void setAmount(BigLedger x, long value) {
        setAmount(x, BigInteger.valueOf(value));
    }

    static int limb(BigInteger value, int i) {
        return value.shiftRight(31 * i).and(BigInteger.valueOf(Integer.MAX_VALUE)).intValue();
    }

    static BigInteger power(int limbs) {
        return BigInteger.ONE.shiftLeft(31 * limbs);
    }

    static BigInteger balance(BigLedger x, int account) {
        BigInteger value = BigInteger.ZERO;
        for (int i = x.balanceSize(account) - 1; i >= 0; i--) {
            value = value.shiftLeft(31).add(BigInteger.valueOf(x.balanceLimb(account, i)));
        }
        return value;
    }

    static BigInteger total(BigLedger x) {
        BigInteger value = BigInteger.ZERO;
        for (int i = x.count(7) - 1; i >= 0; i--) {
            value = value.shiftLeft(31).add(BigInteger.valueOf(x.totalLimb(i)));
        }
        return value;
    }

    static BigInteger amount(BigLedger x) {
        BigInteger value = BigInteger.ZERO;
        for (int i = x.count(8) - 1; i >= 0; i--) {
            value = value.shiftLeft(31).add(BigInteger.valueOf(x.amount(i)));
        }
        return value;
    }

    static int octet(BigLedger x, int k) {
        try {
            return x.octet(k);
        } catch (NoSuchElementException e) {
            return THROWS;
        }
    }

    /** OUT as a text, read until a byte is not there. */
    static String out(BigLedger x) {
        StringBuilder text = new StringBuilder();
        for (int k = 0; octet(x, k) != THROWS; k++) {
            text.append((char) octet(x, k));
        }
        return text.toString();
    }
}
