import java.math.BigInteger;

/** Promises 11 to 20, sentence by sentence: ordinary inputs, the edges that the document names, and wrong inputs. */
public final class Promises11To20Test {
    private static final int LOW = Check.LOW;
    private static final int HIGH = Check.HIGH;
    private static final int[] NOT_OF_THREE = {-1, 3, 4, 24, LOW, HIGH, 32, -32};

    public static void main(String[] args) {
        balanceSizeDone();
        balanceSizeOfZero();
        balanceSizeNoSuchAccount();
        balanceSizeDown();
        balanceLimbDone();
        balanceLimbBeyond();
        balanceLimbNoSuchAccount();
        balanceLimbBelowZero();
        balanceLimbDown();
        totalLimbDone();
        totalLimbBeyond();
        totalLimbBelowZero();
        totalLimbDown();
        amountDone();
        amountBeyond();
        amountBelowZero();
        amountDown();
        compareDone();
        compareByOneLimb();
        compareEqual();
        compareNoSuchAccount();
        compareDown();
        stopAfterArms();
        stopAfterNone();
        stopAfterMost();
        stopAfterAnew();
        stopAfterBelowZero();
        stopAfterWhenDown();
        recoverDone();
        recoverNotFormatted();
        recoverStopped();
        writeDone();
        writeOfZero();
        writeAtPowersOfTen();
        writeOfTheGreatest();
        writeAnew();
        writeNoSuchAccount();
        writeDown();
        outStaysBehindStop();
        octetDone();
        octetBelowZero();
        octetBeyond();
        octetOfNothing();
        octetOfShorter();
        octetDown();
        countSizes();
        countWrites();
        countUp();
        countTouched();
        countTouchedDown();
        countStop();
        countStopNotArmed();
        countTotal();
        countTotalDown();
        countAmount();
        countAmountDown();
        countOther();
        none();
        Check.finish();
    }

    /** 9 is on the disk in account 0, and the machine is DOWN. */
    private static BigLedger stopped() {
        BigLedger x = Check.funded(3, 1, 4, 9);
        Check.stop(x);
        return x;
    }

    // Promise 11: balanceSize

    private static void balanceSizeDone() {
        Check.sentence("11: How many LIMBS a BALANCE has");
        for (int limbs = 1; limbs <= 20; limbs++) {
            BigLedger x = Check.formatted(2, 20, 3);
            Check.setAmount(x, Check.power(limbs - 1));
            Check.due("deposit(0)", x.deposit(0), 0);
            Check.due("of the least of " + limbs, x.balanceSize(0), limbs);
            Check.setAmount(x, Check.most(limbs));
            Check.due("deposit(1)", x.deposit(1), 0);
            Check.due("of the most of " + limbs, x.balanceSize(1), limbs);
            Check.due("commit()", x.commit(), 0);
            Check.due("of the least of " + limbs, x.balanceSize(0), limbs);
            Check.due("of the most of " + limbs, x.balanceSize(1), limbs);
        }
    }

    private static void balanceSizeOfZero() {
        Check.sentence("11: How many LIMBS a BALANCE has, if it is 0");
        BigLedger x = Check.formatted(3, 1, 4);
        Check.due("balanceSize(0)", x.balanceSize(0), 0);
        Check.due("balanceSize(2)", x.balanceSize(2), 0);
        Check.setAmount(x, 1);
        Check.due("deposit, withdraw", x.deposit(0) + x.withdraw(0), 0);
        Check.due("balanceSize(0)", x.balanceSize(0), 0);
    }

    private static void balanceSizeNoSuchAccount() {
        Check.sentence("11: NONE: no such ACCOUNT");
        BigLedger x = Check.funded(3, 1, 4, 1, 1, 1);
        for (int account : NOT_OF_THREE) {
            Check.due("balanceSize(" + account + ")", x.balanceSize(account), -1);
        }
    }

    private static void balanceSizeDown() {
        Check.sentence("11: NONE: DOWN");
        Check.due("balanceSize(0), new", new BigLedger(1, 1, 1).balanceSize(0), -1);
        BigLedger x = stopped();
        Check.due("balanceSize(0)", x.balanceSize(0), -1);
        Check.due("balanceSize(1)", x.balanceSize(1), -1);
        Check.due("balanceSize(9)", x.balanceSize(9), -1);
    }

    // Promise 12: balanceLimb

    private static void balanceLimbDone() {
        Check.sentence("12: LIMB i of a BALANCE");
        BigLedger x = Check.formatted(2, 20, 3);
        for (int i = 20; i >= 1; i--) {
            Check.due("amountLimb", x.amountLimb(i * 100000000 % HIGH + 1), true);
        }
        Check.due("deposit(1)", x.deposit(1), 0);
        for (int i = 0; i < 20; i++) {
            Check.due("limb " + i, x.balanceLimb(1, i), (i + 1) * 100000000 % HIGH + 1);
            Check.due("limb " + i + " of 0", x.balanceLimb(0, i), 0);
        }
    }

    private static void balanceLimbBeyond() {
        Check.sentence("12: 0 beyond");
        for (int limbs = 1; limbs <= 20; limbs++) {
            BigLedger x = Check.formatted(2, limbs, 3);
            Check.setAmount(x, Check.most(limbs));
            Check.due("deposit(0)", x.deposit(0), 0);
            Check.due("the top one", x.balanceLimb(0, limbs - 1), HIGH);
            for (int i : new int[] {limbs, limbs + 1, limbs + 2, 20, 21, 1000, HIGH}) {
                Check.due("limb " + i, x.balanceLimb(0, i), i < limbs ? HIGH : 0);
                Check.due("limb " + i + " of 0", x.balanceLimb(1, i), 0);
            }
        }
    }

    private static void balanceLimbNoSuchAccount() {
        Check.sentence("12: NONE: no such ACCOUNT");
        BigLedger x = Check.funded(3, 1, 4, 1, 1, 1);
        for (int account : NOT_OF_THREE) {
            Check.due("balanceLimb(" + account + ", 0)", x.balanceLimb(account, 0), -1);
            Check.due("balanceLimb(" + account + ", 99)", x.balanceLimb(account, 99), -1);
        }
    }

    private static void balanceLimbBelowZero() {
        Check.sentence("12: NONE: i below 0");
        BigLedger x = Check.funded(3, 1, 4, 1);
        for (int i : new int[] {-1, -2, -31, LOW}) {
            Check.due("balanceLimb(0, " + i + ")", x.balanceLimb(0, i), -1);
            Check.due("balanceLimb(1, " + i + ")", x.balanceLimb(1, i), -1);
            Check.due("balanceLimb(3, " + i + ")", x.balanceLimb(3, i), -1);
        }
    }

    private static void balanceLimbDown() {
        Check.sentence("12: NONE: DOWN");
        Check.due("balanceLimb(0, 0), new", new BigLedger(1, 1, 1).balanceLimb(0, 0), -1);
        BigLedger x = stopped();
        Check.due("balanceLimb(0, 0)", x.balanceLimb(0, 0), -1);
        Check.due("balanceLimb(0, 9)", x.balanceLimb(0, 9), -1);
        Check.due("balanceLimb(1, 0)", x.balanceLimb(1, 0), -1);
    }

    // Promise 13: totalLimb

    private static void totalLimbDone() {
        Check.sentence("13: LIMB i of TOTAL");
        BigLedger x = Check.formatted(3, 20, 4);
        Check.setAmount(x, Check.most(20));
        Check.due("deposits", x.deposit(0) + x.deposit(1) + x.deposit(2), 0);
        BigInteger sum = Check.most(20).multiply(BigInteger.valueOf(3));
        for (int i = 0; i <= 20; i++) {
            Check.due("totalLimb(" + i + ")", x.totalLimb(i), Check.limb(sum, i));
        }
        Check.due("the limb beyond those of a BALANCE", x.totalLimb(20), 2);
    }

    private static void totalLimbBeyond() {
        Check.sentence("13: 0 beyond");
        for (int limbs = 1; limbs <= 20; limbs++) {
            BigLedger x = Check.formatted(2, limbs, 3);
            Check.due("of 0", x.totalLimb(0), 0);
            Check.setAmount(x, Check.most(limbs));
            Check.due("deposit(0)", x.deposit(0), 0);
            Check.due("the top one", x.totalLimb(limbs - 1), HIGH);
            Check.due("beyond", x.totalLimb(limbs), 0);
            Check.due("deposit(1)", x.deposit(1), 0);
            Check.due("one limb more", x.totalLimb(limbs), 1);
            for (int i : new int[] {limbs + 1, limbs + 2, 22, 1000, HIGH}) {
                Check.due("beyond", x.totalLimb(i), 0);
            }
        }
    }

    private static void totalLimbBelowZero() {
        Check.sentence("13: NONE: i below 0");
        BigLedger x = Check.funded(1, 1, 2, 7);
        for (int i : new int[] {-1, -2, -31, LOW}) {
            Check.due("totalLimb(" + i + ")", x.totalLimb(i), -1);
        }
    }

    private static void totalLimbDown() {
        Check.sentence("13: NONE: DOWN");
        Check.due("totalLimb(0), new", new BigLedger(1, 1, 1).totalLimb(0), -1);
        BigLedger x = stopped();
        Check.due("totalLimb(0)", x.totalLimb(0), -1);
        Check.due("totalLimb(9)", x.totalLimb(9), -1);
    }

    // Promise 14: amount

    private static void amountDone() {
        Check.sentence("14: LIMB i of the AMOUNT");
        BigLedger x = Check.formatted(1, 20, 2);
        for (int i = 20; i >= 1; i--) {
            Check.due("amountLimb", x.amountLimb(i * 100000000 % HIGH + 1), true);
        }
        for (int i = 0; i < 20; i++) {
            Check.due("amount(" + i + ")", x.amount(i), (i + 1) * 100000000 % HIGH + 1);
        }
    }

    private static void amountBeyond() {
        Check.sentence("14: likewise: 0 beyond");
        for (int limbs = 1; limbs <= 20; limbs++) {
            BigLedger x = Check.formatted(2, limbs, 3);
            Check.due("of 0", x.amount(0), 0);
            Check.setAmount(x, Check.most(limbs));
            Check.due("the top one", x.amount(limbs - 1), HIGH);
            for (int i : new int[] {limbs, limbs + 1, limbs + 2, 22, 1000, HIGH}) {
                Check.due("amount(" + i + ")", x.amount(i), 0);
            }
        }
    }

    private static void amountBelowZero() {
        Check.sentence("14: likewise: NONE: i below 0");
        BigLedger x = Check.formatted(1, 1, 2);
        Check.setAmount(x, 7);
        for (int i : new int[] {-1, -2, -31, LOW}) {
            Check.due("amount(" + i + ")", x.amount(i), -1);
        }
    }

    private static void amountDown() {
        Check.sentence("14: likewise: NONE: DOWN");
        Check.due("amount(0), new", new BigLedger(1, 1, 1).amount(0), -1);
        BigLedger x = stopped();
        Check.due("amount(0)", x.amount(0), -1);
        Check.due("amount(9)", x.amount(9), -1);
    }

    // Promise 15: compare

    private static void compareDone() {
        Check.sentence("15: How two BALANCES stand: -1, 0, 1");
        BigInteger[] values = {BigInteger.ZERO, BigInteger.TEN, Check.most(1), Check.power(1),
            Check.power(1).add(BigInteger.ONE), Check.most(2)};
        BigLedger x = Check.formatted(6, 2, 25);
        for (int account = 0; account < 6; account++) {
            Check.setAmount(x, values[account]);
            Check.due("deposit", x.deposit(account), 0);
        }
        for (int one = 0; one < 6; one++) {
            for (int other = 0; other < 6; other++) {
                Check.due("compare(" + one + ", " + other + ")", x.compare(one, other), values[one].compareTo(values[other]));
            }
        }
        Check.due("nothing else is touched", x.count(5), 7);
    }

    private static void compareByOneLimb() {
        Check.sentence("15: How two BALANCES stand that differ in one limb alone");
        for (int i = 0; i < 20; i++) {
            BigLedger x = Check.formatted(2, 20, 3);
            Check.setAmount(x, Check.most(20));
            Check.due("deposits", x.deposit(0) + x.deposit(1), 0);
            Check.setAmount(x, Check.power(i));
            Check.due("withdraw(1)", x.withdraw(1), 0);
            Check.due("compare(0, 1)", x.compare(0, 1), 1);
            Check.due("compare(1, 0)", x.compare(1, 0), -1);
            Check.due("withdraw(0)", x.withdraw(0), 0);
            Check.due("compare(0, 1)", x.compare(0, 1), 0);
        }
    }

    private static void compareEqual() {
        Check.sentence("15: How two BALANCES stand: 0, of 0 and 0 and of the same one");
        BigLedger x = Check.funded(3, 2, 4, 1L << 40);
        Check.due("0 and 0", x.compare(1, 2), 0);
        Check.due("the same one", x.compare(0, 0), 0);
        Check.due("the same one of 0", x.compare(1, 1), 0);
        Check.setAmount(x, 1L << 40);
        Check.due("deposit(2)", x.deposit(2), 0);
        Check.due("one on the disk and one PENDING", x.compare(0, 2), 0);
    }

    private static void compareNoSuchAccount() {
        Check.sentence("15: -2: no such ACCOUNT");
        BigLedger x = Check.formatted(3, 1, 4);
        for (int account : NOT_OF_THREE) {
            Check.due("compare(0, " + account + ")", x.compare(0, account), -2);
            Check.due("compare(" + account + ", 2)", x.compare(account, 2), -2);
            Check.due("compare, both no such", x.compare(account, account), -2);
        }
    }

    private static void compareDown() {
        Check.sentence("15: -2: DOWN");
        Check.due("compare(0, 0), new", new BigLedger(1, 1, 1).compare(0, 0), -2);
        BigLedger x = stopped();
        Check.due("compare(0, 1)", x.compare(0, 1), -2);
        Check.due("compare(1, 1)", x.compare(1, 1), -2);
        Check.due("compare(0, 9)", x.compare(0, 9), -2);
    }

    // Promise 16: stopAfter

    private static void stopAfterArms() {
        Check.sentence("16: The STOP is armed for so many further writes");
        for (int stop = 1; stop <= 5; stop++) {
            BigLedger x = Check.formatted(2, 1, 3);
            Check.due("deposit(0)", x.deposit(0), 0);
            x.stopAfter(stop);
            Check.due("armed", x.count(6), stop);
            Check.due("commit()", x.commit(), 6);
            Check.due("writes", x.count(3), 6 + stop);
        }
    }

    private static void stopAfterNone() {
        Check.sentence("16: The STOP is armed for 0 further writes");
        BigLedger x = Check.formatted(2, 1, 3);
        Check.due("deposit(0)", x.deposit(0), 0);
        x.stopAfter(0);
        Check.due("armed", x.count(6), 0);
        Check.due("up", x.count(4), 1);
        Check.due("commit()", x.commit(), 6);
        Check.due("writes", x.count(3), 6);
        Check.due("armed no more", x.count(6), -1);
    }

    private static void stopAfterMost() {
        Check.sentence("16: The STOP is armed for as many further writes as there can be told");
        BigLedger x = new BigLedger(2, 1, 3);
        x.stopAfter(HIGH);
        Check.due("armed", x.count(6), HIGH);
        Check.due("format()", x.format(), true);
        Check.due("armed", x.count(6), HIGH - 6);
        Check.due("deposit, commit", x.deposit(0) + x.commit(), 0);
        Check.due("armed", x.count(6), HIGH - 12);
    }

    private static void stopAfterAnew() {
        Check.sentence("16: The STOP is armed for so many further writes, anew by each call");
        BigLedger x = Check.formatted(2, 1, 3);
        x.stopAfter(2);
        x.stopAfter(100);
        Check.due("for more", x.count(6), 100);
        Check.due("deposit, commit", x.deposit(0) + x.commit(), 0);
        Check.due("six less", x.count(6), 94);
        x.stopAfter(3);
        Check.due("for less", x.count(6), 3);
        Check.due("deposit, commit", x.deposit(0) + x.commit(), 6);
        Check.due("writes", x.count(3), 6 + 6 + 3);
    }

    private static void stopAfterBelowZero() {
        Check.sentence("16: below 0: it is armed no more");
        for (int writes : new int[] {-1, -2, -HIGH, LOW}) {
            BigLedger x = Check.formatted(2, 1, 3);
            x.stopAfter(0);
            x.stopAfter(writes);
            Check.due("armed no more", x.count(6), -1);
            Check.due("deposit, commit", x.deposit(0) + x.commit(), 0);
            Check.due("armed no more", x.count(6), -1);
            x.stopAfter(writes);
            Check.due("armed no more", x.count(6), -1);
            Check.due("format()", x.format(), true);
        }
    }

    private static void stopAfterWhenDown() {
        Check.sentence("16: The STOP is armed, also when the machine is DOWN");
        BigLedger x = new BigLedger(2, 1, 3);
        x.stopAfter(5);
        Check.due("armed", x.count(6), 5);
        Check.due("DOWN", x.count(4), 0);
        Check.due("format()", x.format(), false);
        x.stopAfter(6);
        x.stopAfter(-1);
        Check.due("armed no more", x.count(6), -1);
        x.stopAfter(6);
        Check.due("format()", x.format(), true);
        Check.due("armed", x.count(6), 0);
    }

    // Promise 17: recover

    private static void recoverDone() {
        Check.sentence("17: As told: true");
        BigLedger x = stopped();
        Check.due("recover()", x.recover(), true);
        Check.due("up", x.count(4), 1);
        Check.due("BALANCE 0", x.balanceLimb(0, 0), 9);
        Check.due("TOTAL", x.totalLimb(0), 9);
        Check.due("recover(), up already", x.recover(), true);
        Check.due("BALANCE 0", x.balanceLimb(0, 0), 9);
    }

    private static void recoverNotFormatted() {
        Check.sentence("17: false, if the disk is not FORMATTED (the machine is DOWN then)");
        BigLedger x = new BigLedger(3, 1, 4);
        Check.due("recover(), new", x.recover(), false);
        Check.due("DOWN", x.count(4), 0);
        Check.due("format()", x.format(), true);
        for (int stop = 1; stop <= 6; stop++) {
            x.stopAfter(stop);
            Check.due("format(), STOP " + stop, x.format(), false);
            Check.due("recover()", x.recover(), false);
            Check.due("DOWN", x.count(4), 0);
            Check.due("deposit(0)", x.deposit(0), 6);
        }
        Check.due("format()", x.format(), true);
        Check.due("recover()", x.recover(), true);
    }

    private static void recoverStopped() {
        Check.sentence("17: false, if the STOP came");
        for (int stop = 0; stop <= 3; stop++) {
            BigLedger x = Check.funded(3, 1, 4, 9);
            Check.due("deposit(0) of 0", x.deposit(0), 0);
            x.stopAfter(3);
            Check.due("commit()", x.commit(), 6);
            x.stopAfter(stop);
            Check.due("recover(), STOP " + stop, x.recover(), stop == 3);
            Check.due("up", x.count(4), stop == 3 ? 1 : 0);
            Check.due("STOP", x.count(6), stop == 3 ? 0 : -1);
            Check.due("balanceLimb(0, 0)", x.balanceLimb(0, 0), stop == 3 ? 9 : -1);
        }
    }

    // Promise 18: write

    private static void writes(String text) {
        BigInteger value = new BigInteger(text);
        BigLedger x = Check.formatted(2, 20, 3);
        Check.setAmount(x, value);
        Check.due("deposit(1)", x.deposit(1), 0);
        Check.due("write(1) of " + text, x.write(1), text.length());
        Check.due("OUT", Check.out(x), text);
        Check.due("the BALANCE stays", Check.balance(x, 1), value);
        Check.due("the AMOUNT stays", Check.amount(x), value);
        Check.due("touched", x.count(5), 2);
    }

    private static void writeDone() {
        Check.sentence("18: A BALANCE is written in decimals to OUT: how many digits");
        for (String text : new String[] {"7", "42", "1234567890", "2147483647", "2147483648", "2147483649",
            "4611686018427387903", "4611686018427387904", "9223372036854775808", "907060504030201000000000000"}) {
            writes(text);
        }
    }

    private static void writeOfZero() {
        Check.sentence("18: A BALANCE is written in decimals: 0 is one digit");
        BigLedger x = Check.formatted(2, 2, 3);
        Check.due("write(0)", x.write(0), 1);
        Check.due("OUT", Check.out(x), "0");
        Check.setAmount(x, 5L << 31);
        Check.due("deposit, withdraw", x.deposit(1) + x.withdraw(1), 0);
        Check.due("write(1), 0 again", x.write(1), 1);
        Check.due("OUT", Check.out(x), "0");
    }

    private static void writeAtPowersOfTen() {
        Check.sentence("18: how many digits, at each power of ten");
        for (int power = 1; power <= 186; power++) {
            BigInteger value = BigInteger.TEN.pow(power);
            writes(value.toString());
            writes(value.subtract(BigInteger.ONE).toString());
        }
    }

    private static void writeOfTheGreatest() {
        Check.sentence("18: A BALANCE is written in decimals, of any size");
        for (int limbs = 1; limbs <= 20; limbs++) {
            BigLedger x = Check.formatted(1, limbs, 2);
            Check.setAmount(x, Check.most(limbs));
            Check.due("deposit(0)", x.deposit(0), 0);
            String text = Check.most(limbs).toString();
            Check.due("write(0)", x.write(0), text.length());
            Check.due("OUT", Check.out(x), text);
            Check.due("commit()", x.commit(), 0);
            Check.due("write(0), on the disk", x.write(0), text.length());
        }
    }

    private static void writeAnew() {
        Check.sentence("18: A BALANCE is written to OUT, in the place of what was there");
        BigLedger x = Check.funded(3, 2, 4, 31, 98765432109L);
        Check.due("write(1)", x.write(1), 11);
        Check.due("OUT", Check.out(x), "98765432109");
        Check.due("write(0), shorter", x.write(0), 2);
        Check.due("OUT", Check.out(x), "31");
        Check.due("write(1), longer", x.write(1), 11);
        Check.due("OUT", Check.out(x), "98765432109");
        Check.due("write(2), 0", x.write(2), 1);
        Check.due("OUT", Check.out(x), "0");
    }

    private static void writeNoSuchAccount() {
        Check.sentence("18: NONE: no such ACCOUNT (OUT stays)");
        BigLedger x = Check.funded(3, 1, 4, 31);
        for (int account : NOT_OF_THREE) {
            Check.due("write(" + account + ")", x.write(account), -1);
            Check.due("OUT, nothing yet", Check.out(x), "");
        }
        Check.due("write(0)", x.write(0), 2);
        for (int account : NOT_OF_THREE) {
            Check.due("write(" + account + ")", x.write(account), -1);
            Check.due("OUT", Check.out(x), "31");
        }
    }

    private static void writeDown() {
        Check.sentence("18: NONE: DOWN (OUT stays)");
        BigLedger x = new BigLedger(2, 1, 3);
        Check.due("write(0), new", x.write(0), -1);
        Check.due("OUT", Check.out(x), "");
        x = Check.funded(2, 1, 3, 31, 7);
        Check.due("write(0)", x.write(0), 2);
        Check.stop(x);
        Check.due("write(1)", x.write(1), -1);
        Check.due("write(2)", x.write(2), -1);
        Check.due("OUT", Check.out(x), "31");
    }

    private static void outStaysBehindStop() {
        Check.sentence("18: (OUT stays) behind a STOP, recover() and format()");
        BigLedger x = Check.funded(2, 1, 3, 47);
        Check.due("write(0)", x.write(0), 2);
        Check.due("deposit(0)", x.deposit(0), 0);
        x.stopAfter(3);
        Check.due("commit()", x.commit(), 6);
        Check.due("OUT", Check.out(x), "47");
        Check.due("recover()", x.recover(), true);
        Check.due("OUT", Check.out(x), "47");
        Check.due("format()", x.format(), true);
        Check.due("OUT", Check.out(x), "47");
        Check.due("write(0)", x.write(0), 1);
        Check.due("OUT", Check.out(x), "0");
    }

    // Promise 19: octet

    private static void octetDone() {
        Check.sentence("19: Byte k of OUT");
        BigLedger x = Check.funded(1, 2, 2, 9876543210L);
        Check.due("write(0)", x.write(0), 10);
        for (int k = 0; k < 10; k++) {
            Check.due("octet(" + k + ")", Check.octet(x, k), '9' - k);
        }
        Check.due("octet(0) again", Check.octet(x, 0), '9');
    }

    private static void octetBelowZero() {
        Check.sentence("19: NoSuchElementException: there is none such, k being below 0");
        BigLedger x = Check.funded(1, 2, 2, 9876543210L);
        Check.due("write(0)", x.write(0), 10);
        for (int k : new int[] {-1, -2, -10, -HIGH, LOW}) {
            Check.due("octet(" + k + ")", Check.octet(x, k), Check.THROWS);
        }
        Check.due("OUT", Check.out(x), "9876543210");
    }

    private static void octetBeyond() {
        Check.sentence("19: NoSuchElementException: there is none such, beyond the last");
        BigLedger x = Check.formatted(1, 20, 2);
        Check.setAmount(x, Check.most(20));
        Check.due("deposit(0)", x.deposit(0), 0);
        Check.due("write(0)", x.write(0), 187);
        Check.due("octet(186), the last", Check.octet(x, 186), Check.most(20).toString().charAt(186));
        for (int k : new int[] {187, 188, 199, 200, 201, 1000, HIGH}) {
            Check.due("octet(" + k + ")", Check.octet(x, k), Check.THROWS);
        }
    }

    private static void octetOfNothing() {
        Check.sentence("19: NoSuchElementException: there is none such, as long as nothing was written");
        BigLedger x = new BigLedger(1, 1, 2);
        for (int k : new int[] {0, 1, -1, HIGH, LOW}) {
            Check.due("octet(" + k + "), new", Check.octet(x, k), Check.THROWS);
        }
        Check.due("format()", x.format(), true);
        for (int k : new int[] {0, 1, -1, HIGH, LOW}) {
            Check.due("octet(" + k + "), up", Check.octet(x, k), Check.THROWS);
        }
    }

    private static void octetOfShorter() {
        Check.sentence("19: NoSuchElementException: there is none such, behind what is shorter");
        BigLedger x = Check.funded(2, 1, 3, 12345);
        Check.due("write(0), write(1)", x.write(0) + x.write(1), 6);
        Check.due("octet(0)", Check.octet(x, 0), '0');
        for (int k = 1; k < 6; k++) {
            Check.due("octet(" + k + ")", Check.octet(x, k), Check.THROWS);
        }
    }

    private static void octetDown() {
        Check.sentence("19: Byte k of OUT, also when the machine is DOWN");
        BigLedger x = Check.funded(1, 1, 2, 58);
        Check.due("write(0)", x.write(0), 2);
        Check.stop(x);
        Check.due("octet(0)", Check.octet(x, 0), '5');
        Check.due("octet(1)", Check.octet(x, 1), '8');
        Check.due("octet(2)", Check.octet(x, 2), Check.THROWS);
    }

    // Promise 20: count

    private static void countSizes() {
        Check.sentence("20: 0 ACCOUNTS, 1 LIMBS, 2 ROOM, when DOWN and when up");
        BigLedger x = new BigLedger(5, 4, 6);
        for (int time = 0; time < 2; time++) {
            Check.due("count(0)", x.count(0), 5);
            Check.due("count(1)", x.count(1), 4);
            Check.due("count(2)", x.count(2), 6);
            Check.due("format()", x.format(), true);
        }
    }

    private static void countWrites() {
        Check.sentence("20: 3 writes done in all");
        BigLedger x = new BigLedger(2, 1, 3);
        Check.due("none", x.count(3), 0);
        Check.due("format()", x.format(), true);
        Check.due("of format()", x.count(3), 6);
        Check.due("deposit, commit", x.deposit(0) + x.commit(), 0);
        Check.due("of commit()", x.count(3), 12);
        Check.due("deposit(0)", x.deposit(0), 0);
        x.stopAfter(4);
        Check.due("commit()", x.commit(), 6);
        Check.due("up to the STOP, DOWN", x.count(3), 16);
        Check.due("recover()", x.recover(), true);
        Check.due("of recover()", x.count(3), 19);
        Check.due("format()", x.format(), true);
        Check.due("format() does not count anew", x.count(3), 25);
    }

    private static void countUp() {
        Check.sentence("20: 4 whether the machine is up");
        BigLedger x = new BigLedger(2, 1, 3);
        Check.due("new", x.count(4), 0);
        Check.due("format()", x.format(), true);
        Check.due("formatted", x.count(4), 1);
        Check.stop(x);
        Check.due("stopped", x.count(4), 0);
        Check.due("recover()", x.recover(), true);
        Check.due("recovered", x.count(4), 1);
    }

    private static void countTouched() {
        Check.sentence("20: 5 how many are TOUCHED");
        BigLedger x = Check.formatted(24, 1, 25);
        Check.due("none", x.count(5), 0);
        Check.due("transfer(0, 0)", x.transfer(0, 0), 0);
        Check.due("one", x.count(5), 1);
        for (int account = 0; account < 24; account++) {
            Check.due("deposit", x.deposit(account), 0);
            Check.due("with TOTAL", x.count(5), account + 2);
        }
        Check.due("abort()", x.abort(), true);
        Check.due("none", x.count(5), 0);
    }

    private static void countTouchedDown() {
        Check.sentence("20: 5 how many are TOUCHED (0 when DOWN)");
        Check.due("new", new BigLedger(1, 1, 1).count(5), 0);
        BigLedger x = Check.formatted(2, 1, 3);
        Check.due("deposit(0)", x.deposit(0), 0);
        Check.due("up", x.count(5), 2);
        Check.stop(x);
        Check.due("DOWN", x.count(5), 0);
        Check.due("recover(), deposit(1)", x.recover() ? x.deposit(1) : -1, 0);
        x.stopAfter(4);
        Check.due("commit()", x.commit(), 6);
        Check.due("DOWN", x.count(5), 0);
    }

    private static void countStop() {
        Check.sentence("20: 6 further writes until the STOP");
        BigLedger x = Check.formatted(2, 1, 3);
        x.stopAfter(7);
        Check.due("armed", x.count(6), 7);
        Check.due("deposit(0)", x.deposit(0), 0);
        Check.due("no write, no fewer", x.count(6), 7);
        Check.due("commit()", x.commit(), 0);
        Check.due("six fewer", x.count(6), 1);
        x.stopAfter(0);
        Check.due("none", x.count(6), 0);
    }

    private static void countStopNotArmed() {
        Check.sentence("20: 6 (NONE: it is not armed)");
        BigLedger x = new BigLedger(2, 1, 3);
        Check.due("new", x.count(6), -1);
        Check.due("format()", x.format(), true);
        Check.due("formatted", x.count(6), -1);
        Check.stop(x);
        Check.due("the STOP came", x.count(6), -1);
        x.stopAfter(3);
        x.stopAfter(-5);
        Check.due("armed no more", x.count(6), -1);
    }

    private static void countTotal() {
        Check.sentence("20: 7 LIMBS of TOTAL");
        for (int limbs = 1; limbs <= 20; limbs++) {
            BigLedger x = Check.formatted(2, limbs, 3);
            Check.due("of 0", x.count(7), 0);
            Check.setAmount(x, Check.most(limbs));
            Check.due("deposit(0)", x.deposit(0), 0);
            Check.due("of the most", x.count(7), limbs);
            Check.due("deposit(1)", x.deposit(1), 0);
            Check.due("of twice the most", x.count(7), limbs + 1);
            Check.due("withdraw(0)", x.withdraw(0), 0);
            Check.due("of the most", x.count(7), limbs);
        }
    }

    private static void countTotalDown() {
        Check.sentence("20: 7 LIMBS of TOTAL (0 when DOWN)");
        Check.due("new", new BigLedger(1, 1, 1).count(7), 0);
        BigLedger x = stopped();
        Check.due("DOWN", x.count(7), 0);
        Check.due("recover()", x.recover(), true);
        Check.due("up", x.count(7), 1);
    }

    private static void countAmount() {
        Check.sentence("20: 8 LIMBS of the AMOUNT");
        BigLedger x = Check.formatted(1, 20, 2);
        Check.due("of 0", x.count(8), 0);
        for (int limbs = 1; limbs <= 20; limbs++) {
            Check.due("amountLimb", x.amountLimb(limbs == 1 ? 1 : 0), true);
            Check.due("limbs", x.count(8), limbs);
        }
    }

    private static void countAmountDown() {
        Check.sentence("20: 8 LIMBS of the AMOUNT (0 when DOWN)");
        Check.due("new", new BigLedger(1, 1, 1).count(8), 0);
        BigLedger x = Check.formatted(2, 2, 3);
        Check.setAmount(x, 1L << 40);
        Check.due("up", x.count(8), 2);
        Check.stop(x);
        Check.due("DOWN", x.count(8), 0);
        Check.due("recover()", x.recover(), true);
        Check.due("lost", x.count(8), 0);
    }

    private static void countOther() {
        Check.sentence("20: NONE for another what");
        BigLedger up = Check.formatted(2, 1, 3);
        for (BigLedger x : new BigLedger[] {up, new BigLedger(2, 1, 3), stopped()}) {
            for (int what : new int[] {-1, -2, 9, 10, 16, 32, 256, LOW, HIGH}) {
                Check.due("count(" + what + ")", x.count(what), -1);
            }
        }
    }

    private static void none() {
        Check.sentence("The public face: NONE = -1");
        Check.due("NONE", BigLedger.NONE, -1);
    }
}
