import java.math.BigInteger;

/**
 * The sentences of '==== 2. WRITES' that name a boundary case, each with a test of its own.
 * StopsTest has the STOP at every single write.
 */
public final class WritesTest {
    private static final int HIGH = Check.HIGH;

    public static void main(String[] args) {
        writesAreDoneUpToTheStop();
        stopAcrossActs();
        stopNotReached();
        stopArmedNoMore();
        pendingIsLost();
        amountIsLost();
        firstDown();
        firstNotFormatted();
        formatFirstWrite();
        formatEmptiesTheLog();
        formatClears();
        formatLastWrite();
        formatCounts();
        formatWhenDown();
        formatCutWhenDown();
        formatWhenUp();
        commitOfNothing();
        commitOfNothingLeavesTheStop();
        commitCounts();
        commitAheadOfCommitted();
        commitBehindCommitted();
        commitCutAtItsLastWrite();
        neverWas();
        neverWasUnderALaterLog();
        recoverNotFormatted();
        recoverNotFormattedWithCommittedLog();
        recoverCommitted();
        recoverWithoutLog();
        recoverIsUpThen();
        recoverWhenUp();
        recoverCutAndAgain();
        noOtherActWrites();
        Check.finish();
    }

    /** TOTAL and account 0 are 5 on the disk, 2 more is PENDING, and k is 2. */
    private static BigLedger pendingTwo() {
        BigLedger x = Check.funded(2, 1, 3, 5);
        Check.setAmount(x, 2);
        Check.due("deposit(0)", x.deposit(0), 0);
        return x;
    }

    private static void holds(BigLedger x, int balance) {
        Check.due("BALANCE 0", x.balanceLimb(0, 0), balance);
        Check.due("TOTAL", x.totalLimb(0), balance);
    }

    // A STOP

    private static void writesAreDoneUpToTheStop() {
        Check.sentence("so many further writes are done, the next one is not");
        for (int stop = 0; stop < 6; stop++) {
            BigLedger x = pendingTwo();
            int writes = x.count(3);
            x.stopAfter(stop);
            Check.due("commit(), STOP " + stop, x.commit(), 6);
            Check.due("writes", x.count(3), writes + stop);
            Check.due("recover()", x.recover(), true);
            holds(x, stop <= 2 ? 5 : 7);
        }
    }

    private static void stopAcrossActs() {
        Check.sentence("so many further writes are done, by however many acts");
        BigLedger x = new BigLedger(2, 1, 3);
        x.stopAfter(6 + 6 + 3);
        Check.due("format()", x.format(), true);
        Check.due("further writes", x.count(6), 9);
        Check.due("deposit(0), commit()", x.deposit(0) + x.commit(), 0);
        Check.due("further writes", x.count(6), 3);
        Check.due("deposit(0)", x.deposit(0), 0);
        Check.due("commit()", x.commit(), 6);
        Check.due("writes", x.count(3), 15);
        Check.due("armed no more", x.count(6), -1);
        Check.due("DOWN", x.count(4), 0);
    }

    private static void stopNotReached() {
        Check.sentence("the next one is not: while there is no next one, the machine is up");
        BigLedger x = pendingTwo();
        x.stopAfter(6);
        Check.due("commit()", x.commit(), 0);
        Check.due("further writes", x.count(6), 0);
        Check.due("up", x.count(4), 1);
        holds(x, 7);
        Check.due("deposit(0)", x.deposit(0), 0);
        Check.due("commit()", x.commit(), 6);
        Check.due("DOWN", x.count(4), 0);
    }

    private static void stopArmedNoMore() {
        Check.sentence("the machine is DOWN then, the STOP armed no more");
        BigLedger x = pendingTwo();
        x.stopAfter(1);
        Check.due("commit()", x.commit(), 6);
        Check.due("DOWN", x.count(4), 0);
        Check.due("armed no more", x.count(6), -1);
        Check.due("recover()", x.recover(), true);
        Check.due("deposit(0) of 0, commit()", x.deposit(0) + x.commit(), 0);
        Check.due("format()", x.format(), true);
        Check.due("up", x.count(4), 1);
    }

    /** The STOP comes in format(), with the disk as it was, or in commit(), ahead of COMMITTED. */
    private static void stopIn(boolean format, BigLedger x) {
        if (format) {
            Check.stop(x);
        } else {
            x.stopAfter(2);
            Check.due("commit()", x.commit(), 6);
        }
    }

    private static void pendingIsLost() {
        Check.sentence("PENDING and all that is not on the disk are lost");
        for (boolean format : new boolean[] {true, false}) {
            BigLedger x = pendingTwo();
            stopIn(format, x);
            Check.due("touched, DOWN", x.count(5), 0);
            Check.due("recover()", x.recover(), true);
            Check.due("touched, up", x.count(5), 0);
            holds(x, 5);
            int writes = x.count(3);
            Check.due("commit()", x.commit(), 0);
            Check.due("no write", x.count(3), writes);
            holds(x, 5);
        }
    }

    private static void amountIsLost() {
        Check.sentence("the AMOUNT (0 then) is lost");
        for (boolean format : new boolean[] {true, false}) {
            BigLedger x = pendingTwo();
            stopIn(format, x);
            Check.due("limbs, DOWN", x.count(8), 0);
            Check.due("recover()", x.recover(), true);
            Check.due("limbs, up", x.count(8), 0);
            Check.due("amount(0)", x.amount(0), 0);
            Check.due("deposit(0)", x.deposit(0), 0);
            holds(x, 5);
        }
    }

    private static void firstDown() {
        Check.sentence("At first the machine is DOWN");
        BigLedger x = new BigLedger(2, 1, 3);
        Check.due("up", x.count(4), 0);
        Check.due("amountLimb(1)", x.amountLimb(1), false);
        Check.due("deposit(0)", x.deposit(0), 6);
        Check.due("commit()", x.commit(), 6);
        Check.due("balanceSize(0)", x.balanceSize(0), -1);
        Check.due("writes", x.count(3), 0);
        Check.due("STOP", x.count(6), -1);
    }

    private static void firstNotFormatted() {
        Check.sentence("At first the disk is not FORMATTED");
        BigLedger x = new BigLedger(2, 1, 3);
        Check.due("recover()", x.recover(), false);
        Check.due("up", x.count(4), 0);
        Check.due("no write", x.count(3), 0);
    }

    // format()

    private static void formatFirstWrite() {
        Check.sentence("format(): the disk is not FORMATTED (1 write)");
        BigLedger x = pendingTwo();
        x.stopAfter(0);
        Check.due("format(), cut ahead of it", x.format(), false);
        Check.due("recover(), FORMATTED as it was", x.recover(), true);
        holds(x, 5);
        x.stopAfter(1);
        Check.due("format(), cut behind it", x.format(), false);
        Check.due("recover(), not FORMATTED", x.recover(), false);
    }

    private static void formatEmptiesTheLog() {
        Check.sentence("format(): the log is empty (1)");
        BigLedger x = pendingTwo();
        x.stopAfter(3);
        Check.due("commit(), COMMITTED and not home", x.commit(), 6);
        Check.due("format()", x.format(), true);
        int writes = x.count(3);
        Check.due("recover()", x.recover(), true);
        Check.due("no write", x.count(3), writes);
        holds(x, 0);
    }

    private static void formatClears() {
        Check.sentence("format(): each BALANCE and TOTAL are 0 (ACCOUNTS and 1)");
        for (int accounts = 1; accounts <= 24; accounts++) {
            BigLedger x = Check.formatted(accounts, 2, 25);
            Check.setAmount(x, Check.most(2));
            for (int account = 0; account < accounts; account++) {
                Check.due("deposit", x.deposit(account), 0);
            }
            Check.due("commit()", x.commit(), 0);
            Check.due("format()", x.format(), true);
            for (int account = 0; account < accounts; account++) {
                Check.due("BALANCE", x.balanceSize(account), 0);
                Check.due("BALANCE", x.balanceLimb(account, 0), 0);
            }
            Check.due("TOTAL", x.count(7), 0);
            Check.due("TOTAL", x.totalLimb(0), 0);
        }
    }

    private static void formatLastWrite() {
        Check.sentence("format(): it is FORMATTED (1), by the last write");
        for (int accounts = 1; accounts <= 24; accounts++) {
            BigLedger x = new BigLedger(accounts, 1, 3);
            x.stopAfter(accounts + 3);
            Check.due("format(), cut ahead of it", x.format(), false);
            Check.due("recover(), not FORMATTED", x.recover(), false);
            x.stopAfter(accounts + 4);
            Check.due("format(), cut behind it", x.format(), true);
            Check.due("recover()", x.recover(), true);
        }
    }

    private static void formatCounts() {
        Check.sentence("format(): 1, 1, ACCOUNTS and 1, 1 writes");
        for (int accounts = 1; accounts <= 24; accounts++) {
            BigLedger x = new BigLedger(accounts, 1, 1);
            Check.due("format()", x.format(), true);
            Check.due("writes", x.count(3), accounts + 4);
            Check.due("format(), when up", x.format(), true);
            Check.due("writes", x.count(3), 2 * (accounts + 4));
        }
    }

    private static void formatWhenDown() {
        Check.sentence("format(): It is done also when the machine is DOWN; it is up then");
        BigLedger x = new BigLedger(2, 1, 3);
        Check.due("format(), new", x.format(), true);
        Check.due("up", x.count(4), 1);
        Check.stop(x);
        Check.due("format(), behind a STOP", x.format(), true);
        Check.due("up", x.count(4), 1);
        x.stopAfter(1);
        Check.due("format(), cut", x.format(), false);
        Check.due("recover(), not FORMATTED", x.recover(), false);
        Check.due("format(), behind that", x.format(), true);
        Check.due("up", x.count(4), 1);
        Check.due("deposit(0)", x.deposit(0), 0);
    }

    private static void formatCutWhenDown() {
        Check.sentence("format(): the STOP counts its writes also when the machine is DOWN");
        for (int stop = 0; stop < 6; stop++) {
            BigLedger x = new BigLedger(2, 1, 3);
            x.stopAfter(stop);
            Check.due("format(), STOP " + stop, x.format(), false);
            Check.due("writes", x.count(3), stop);
            Check.due("DOWN", x.count(4), 0);
            Check.due("armed no more", x.count(6), -1);
            Check.due("recover()", x.recover(), false);
            Check.due("format() again", x.format(), true);
        }
    }

    private static void formatWhenUp() {
        Check.sentence("format(): PENDING nothing, the AMOUNT 0");
        BigLedger x = pendingTwo();
        Check.due("format()", x.format(), true);
        Check.due("touched", x.count(5), 0);
        Check.due("limbs of the AMOUNT", x.count(8), 0);
        Check.due("amount(0)", x.amount(0), 0);
        holds(x, 0);
        int writes = x.count(3);
        Check.due("commit()", x.commit(), 0);
        Check.due("no write", x.count(3), writes);
        holds(x, 0);
    }

    // commit()

    private static void commitOfNothing() {
        Check.sentence("commit(): none: no write");
        BigLedger x = Check.formatted(2, 1, 3);
        Check.due("commit(), new", x.commit(), 0);
        Check.due("writes", x.count(3), 6);
        Check.due("deposit(0), commit()", x.deposit(0) + x.commit(), 0);
        Check.due("commit() again", x.commit(), 0);
        Check.due("writes", x.count(3), 12);
        Check.due("deposit(0)", x.deposit(0), 0);
        Check.due("abort()", x.abort(), true);
        Check.due("commit() behind abort()", x.commit(), 0);
        Check.due("writes", x.count(3), 12);
    }

    private static void commitOfNothingLeavesTheStop() {
        Check.sentence("commit(): none: no write, so the STOP does not come");
        BigLedger x = Check.formatted(2, 1, 3);
        x.stopAfter(0);
        Check.due("commit()", x.commit(), 0);
        Check.due("up", x.count(4), 1);
        Check.due("still armed", x.count(6), 0);
    }

    private static void commitCounts() {
        Check.sentence("commit(): Else each to the log (k), COMMITTED (1), each home (k), the log is empty (1)");
        for (int k = 1; k <= 25; k++) {
            BigLedger x = Check.formatted(24, 1, 25);
            Check.due("transfer to itself", x.transfer(0, 0), 0);
            for (int account = 0; account + 2 <= k; account++) {
                Check.due("deposit", x.deposit(account), 0);
            }
            Check.due("touched", x.count(5), k);
            Check.due("commit()", x.commit(), 0);
            Check.due("writes", x.count(3), 28 + 2 * k + 2);
        }
    }

    private static void commitAheadOfCommitted() {
        Check.sentence("what a STOP cuts ahead of that never was");
        BigLedger x = pendingTwo();
        x.stopAfter(2);
        Check.due("commit(), all in the log, not COMMITTED", x.commit(), 6);
        int writes = x.count(3);
        Check.due("recover()", x.recover(), true);
        Check.due("no write", x.count(3), writes);
        holds(x, 5);
    }

    private static void commitBehindCommitted() {
        Check.sentence("What is COMMITTED holds");
        BigLedger x = pendingTwo();
        x.stopAfter(3);
        Check.due("commit(), COMMITTED, none home", x.commit(), 6);
        int writes = x.count(3);
        Check.due("recover()", x.recover(), true);
        Check.due("writes", x.count(3), writes + 3);
        holds(x, 7);
    }

    private static void commitCutAtItsLastWrite() {
        Check.sentence("commit(): the log is empty (1): cut there, it is COMMITTED still");
        BigLedger x = pendingTwo();
        x.stopAfter(5);
        Check.due("commit(), each home, the log not empty", x.commit(), 6);
        Check.due("DOWN", x.count(4), 0);
        int writes = x.count(3);
        Check.due("recover()", x.recover(), true);
        Check.due("writes", x.count(3), writes + 3);
        holds(x, 7);
        Check.due("recover() again", x.recover(), true);
        Check.due("no write", x.count(3), writes + 3);
    }

    private static void neverWas() {
        Check.sentence("what a STOP cuts ahead of that never was, for what is done behind it too");
        BigLedger x = Check.funded(3, 1, 4, 5);
        Check.setAmount(x, 2);
        Check.due("deposit(1)", x.deposit(1), 0);
        x.stopAfter(2);
        Check.due("commit(), cut", x.commit(), 6);
        Check.due("recover()", x.recover(), true);
        Check.due("deposit(2) of 0", x.deposit(2), 0);
        Check.due("touched", x.count(5), 2);
        Check.due("commit()", x.commit(), 0);
        Check.due("BALANCE 1", x.balanceSize(1), 0);
        holds(x, 5);
    }

    private static void neverWasUnderALaterLog() {
        Check.sentence("what a STOP cuts ahead of that never was: recover() brings home the later log alone");
        BigLedger x = Check.funded(3, 1, 4, 5);
        Check.setAmount(x, 2);
        Check.due("deposit(1)", x.deposit(1), 0);
        x.stopAfter(2);
        Check.due("commit(), cut", x.commit(), 6);
        Check.due("recover()", x.recover(), true);
        Check.setAmount(x, 1);
        Check.due("transfer(0, 2)", x.transfer(0, 2), 0);
        x.stopAfter(3);
        Check.due("commit(), COMMITTED", x.commit(), 6);
        Check.due("recover()", x.recover(), true);
        Check.due("BALANCE 0", x.balanceLimb(0, 0), 4);
        Check.due("BALANCE 1", x.balanceSize(1), 0);
        Check.due("BALANCE 2", x.balanceLimb(2, 0), 1);
        Check.due("TOTAL", x.totalLimb(0), 5);
    }

    // recover()

    private static void recoverNotFormatted() {
        Check.sentence("recover(): of a disk that is not FORMATTED no write");
        BigLedger x = new BigLedger(2, 1, 3);
        x.stopAfter(0);
        Check.due("recover()", x.recover(), false);
        Check.due("no write", x.count(3), 0);
        Check.due("the STOP did not come", x.count(6), 0);
        Check.due("DOWN", x.count(4), 0);
    }

    private static void recoverNotFormattedWithCommittedLog() {
        Check.sentence("recover(): of a disk that is not FORMATTED no write, even if the log is COMMITTED");
        BigLedger x = pendingTwo();
        x.stopAfter(3);
        Check.due("commit(), COMMITTED", x.commit(), 6);
        x.stopAfter(1);
        Check.due("format(), cut ahead of the log", x.format(), false);
        int writes = x.count(3);
        Check.due("recover()", x.recover(), false);
        Check.due("no write", x.count(3), writes);
        Check.due("DOWN", x.count(4), 0);
    }

    private static void recoverCommitted() {
        Check.sentence("recover(): If the log is COMMITTED: each home (k), the log is empty (1)");
        for (int k = 1; k <= 25; k++) {
            BigLedger x = Check.formatted(24, 1, 25);
            Check.due("transfer to itself", x.transfer(0, 0), 0);
            Check.setAmount(x, 3);
            for (int account = 0; account + 2 <= k; account++) {
                Check.due("deposit", x.deposit(account), 0);
            }
            x.stopAfter(k + 1);
            Check.due("commit()", x.commit(), 6);
            Check.due("recover()", x.recover(), true);
            Check.due("writes", x.count(3), 28 + k + 1 + k + 1);
            for (int account = 0; account < 24; account++) {
                Check.due("BALANCE", x.balanceLimb(account, 0), account + 2 <= k ? 3 : 0);
            }
            Check.due("TOTAL", x.totalLimb(0), 3 * (k - 1));
            Check.due("recover() again", x.recover(), true);
            Check.due("the log was empty", x.count(3), 28 + k + 1 + k + 1);
        }
    }

    private static void recoverWithoutLog() {
        Check.sentence("recover(): else no write");
        BigLedger x = pendingTwo();
        Check.stop(x);
        int writes = x.count(3);
        x.stopAfter(0);
        Check.due("recover()", x.recover(), true);
        Check.due("no write", x.count(3), writes);
        Check.due("the STOP did not come", x.count(6), 0);
        Check.due("up", x.count(4), 1);
    }

    private static void recoverIsUpThen() {
        Check.sentence("recover(): The machine is up then, PENDING nothing, the AMOUNT 0");
        BigLedger x = pendingTwo();
        x.stopAfter(4);
        Check.due("commit()", x.commit(), 6);
        Check.due("recover()", x.recover(), true);
        Check.due("up", x.count(4), 1);
        Check.due("touched", x.count(5), 0);
        Check.due("limbs of the AMOUNT", x.count(8), 0);
        Check.due("amountLimb(1)", x.amountLimb(1), true);
        Check.due("deposit(0)", x.deposit(0), 0);
        holds(x, 8);
    }

    private static void recoverWhenUp() {
        Check.sentence("recover(): It is done also when the machine is up: PENDING is lost");
        BigLedger x = pendingTwo();
        int writes = x.count(3);
        Check.due("recover()", x.recover(), true);
        Check.due("no write", x.count(3), writes);
        Check.due("up", x.count(4), 1);
        Check.due("touched", x.count(5), 0);
        Check.due("limbs of the AMOUNT", x.count(8), 0);
        Check.due("amount(0)", x.amount(0), 0);
        holds(x, 5);
        Check.due("commit()", x.commit(), 0);
        Check.due("no write", x.count(3), writes);
    }

    private static void recoverCutAndAgain() {
        Check.sentence("recover(): cut by the STOP, what is COMMITTED holds");
        for (int stop = 0; stop < 3; stop++) {
            BigLedger x = pendingTwo();
            x.stopAfter(3);
            Check.due("commit()", x.commit(), 6);
            int writes = x.count(3);
            x.stopAfter(stop);
            Check.due("recover(), STOP " + stop, x.recover(), false);
            Check.due("writes", x.count(3), writes + stop);
            Check.due("DOWN", x.count(4), 0);
            Check.due("armed no more", x.count(6), -1);
            Check.due("recover() again", x.recover(), true);
            Check.due("writes", x.count(3), writes + stop + 3);
            holds(x, 7);
        }
    }

    private static void noOtherActWrites() {
        Check.sentence("No other act writes");
        BigLedger x = Check.funded(2, 2, 3, 9, 4);
        int writes = x.count(3);
        x.stopAfter(0);
        Check.due("amountLimb(1)", x.amountLimb(1), true);
        Check.due("amountLimb(-1)", x.amountLimb(-1), false);
        Check.due("clearAmount()", x.clearAmount(), true);
        Check.due("part(0, 1, 2)", x.part(0, 1, 2), 0);
        Check.due("deposit(0)", x.deposit(0), 0);
        Check.due("deposit(2)", x.deposit(2), 1);
        Check.due("withdraw(1)", x.withdraw(1), 0);
        Check.due("withdraw(1)", x.withdraw(1), 2);
        Check.due("transfer(0, 1)", x.transfer(0, 1), 0);
        Check.due("balanceSize(0)", x.balanceSize(0), 1);
        Check.due("balanceLimb(0, 0)", x.balanceLimb(0, 0), 9);
        Check.due("totalLimb(0)", x.totalLimb(0), 13);
        Check.due("amount(0)", x.amount(0), 4);
        Check.due("compare(0, 1)", x.compare(0, 1), 1);
        Check.due("write(0)", x.write(0), 1);
        Check.due("octet(0)", Check.octet(x, 0), '9');
        Check.due("octet(1)", Check.octet(x, 1), Check.THROWS);
        Check.due("abort()", x.abort(), true);
        Check.due("writes", x.count(3), writes);
        Check.due("up", x.count(4), 1);
        Check.due("further writes", x.count(6), 0);
        x.stopAfter(HIGH);
        x.stopAfter(-1);
        Check.due("writes", x.count(3), writes);
        Check.due("TOTAL", Check.total(x), BigInteger.valueOf(13));
    }
}
