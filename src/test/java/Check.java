import java.math.BigInteger;
import java.util.NoSuchElementException;

/**
 * What the tests share: it prints every answer that is not the one due, with the document's sentence that asks for
 * it, and tells in the end by the exit code. No object of the tests is used for more than 512 calls.
 */
final class Check {
    /** What octet() below answers where the call throws NoSuchElementException. */
    static final int THROWS = -1000;

    static final int LOW = Integer.MIN_VALUE;
    static final int HIGH = Integer.MAX_VALUE;

    private static final int MOST_PRINTED = 40;
    private static String sentence = "";
    private static int sentences = 0;
    private static int askedBefore = 0;
    private static int asked = 0;
    private static int wrong = 0;

    private Check() {
    }

    /** What is asked from here on is asked by this sentence of the document. */
    static void sentence(String text) {
        closeSentence();
        sentence = text;
        sentences++;
        askedBefore = asked;
    }

    /** A sentence of which nothing was asked has no test. */
    private static void closeSentence() {
        if (sentences > 0 && asked == askedBefore) {
            fail("nothing was asked");
        }
    }

    static void due(String call, long got, long want) {
        asked++;
        if (got != want) {
            fail(call + " answered " + got + ", due is " + want);
        }
    }

    static void due(String call, boolean got, boolean want) {
        due(call, got ? 1 : 0, want ? 1 : 0);
    }

    static void due(String call, Object got, Object want) {
        asked++;
        if (!want.equals(got)) {
            fail(call + " is " + got + ", due is " + want);
        }
    }

    static void fail(String text) {
        wrong++;
        if (wrong <= MOST_PRINTED) {
            System.out.println(sentence.isEmpty() ? text : "[" + sentence + "] " + text);
        }
    }

    static int wrongSoFar() {
        return wrong;
    }

    static void finish() {
        closeSentence();
        System.out.println((sentences > 0 ? sentences + " sentences, " : "") + asked + " answers, " + wrong + " not as due");
        if (wrong != 0) {
            System.exit(1);
        }
    }

    static BigLedger formatted(int accounts, int limbs, int room) {
        BigLedger x = new BigLedger(accounts, limbs, room);
        due("format()", x.format(), true);
        return x;
    }

    /** These balances are on the disk, from account 0 on; nothing is PENDING, the AMOUNT is 0. */
    static BigLedger funded(int accounts, int limbs, int room, long... balances) {
        BigLedger x = formatted(accounts, limbs, room);
        for (int i = 0; i < balances.length; i++) {
            setAmount(x, balances[i]);
            due("deposit", x.deposit(i), 0);
            due("commit()", x.commit(), 0);
        }
        due("clearAmount()", x.clearAmount(), true);
        return x;
    }

    /** The machine is DOWN, and the disk as it was: the STOP cuts the first write of format(). */
    static void stop(BigLedger x) {
        x.stopAfter(0);
        due("format() that is cut", x.format(), false);
    }

    /** Makes value the AMOUNT, by the calls of the face. */
    static void setAmount(BigLedger x, BigInteger value) {
        due("clearAmount()", x.clearAmount(), true);
        for (int i = size(value) - 1; i >= 0; i--) {
            due("amountLimb", x.amountLimb(limb(value, i)), true);
        }
    }

    static void setAmount(BigLedger x, long value) {
        setAmount(x, BigInteger.valueOf(value));
    }

    static int size(BigInteger value) {
        return (value.bitLength() + 30) / 31;
    }

    static int limb(BigInteger value, int i) {
        return value.shiftRight(31 * i).and(BigInteger.valueOf(HIGH)).intValue();
    }

    static BigInteger power(int limbs) {
        return BigInteger.ONE.shiftLeft(31 * limbs);
    }

    /** The greatest number of so many limbs. */
    static BigInteger most(int limbs) {
        return power(limbs).subtract(BigInteger.ONE);
    }

    static BigInteger balance(BigLedger x, int account) {
        BigInteger value = BigInteger.ZERO;
        for (int i = x.balanceSize(account) - 1; i >= 0; i--) {
            value = value.shiftLeft(31).add(BigInteger.valueOf(x.balanceLimb(account, i)));
        }
        return value;
    }

    static BigInteger total(BigLedger x) {
        BigInteger value = BigInteger.ZERO;
        for (int i = x.count(7) - 1; i >= 0; i--) {
            value = value.shiftLeft(31).add(BigInteger.valueOf(x.totalLimb(i)));
        }
        return value;
    }

    static BigInteger amount(BigLedger x) {
        BigInteger value = BigInteger.ZERO;
        for (int i = x.count(8) - 1; i >= 0; i--) {
            value = value.shiftLeft(31).add(BigInteger.valueOf(x.amount(i)));
        }
        return value;
    }

    static int octet(BigLedger x, int k) {
        try {
            return x.octet(k);
        } catch (NoSuchElementException e) {
            return THROWS;
        }
    }

    /** OUT as a text, read until a byte is not there. */
    static String out(BigLedger x) {
        StringBuilder text = new StringBuilder();
        int next = octet(x, 0);
        while (next != THROWS) {
            text.append((char) next);
            next = octet(x, text.length());
        }
        return text.toString();
    }

    /** All that can be asked without a change: for small ledgers, as it takes many calls. */
    static String state(BigLedger x) {
        StringBuilder text = new StringBuilder("counts");
        for (int what = 0; what <= 8; what++) {
            text.append(' ').append(x.count(what));
        }
        text.append(", balances");
        for (int account = 0; account < x.count(0); account++) {
            text.append(' ').append(x.balanceSize(account)).append(':').append(balance(x, account));
        }
        text.append(", TOTAL ").append(total(x));
        text.append(", AMOUNT ").append(amount(x)).append(' ').append(x.amount(0));
        text.append(", OUT ").append(out(x));
        return text.toString();
    }
}
