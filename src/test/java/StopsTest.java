import java.math.BigInteger;

/** A stop at every write of format(), commit() and recover(): what was committed is there, whole or not at all. */
public final class StopsTest {
    private static final BigInteger BEFORE = new BigInteger("5000000000");
    private static final BigInteger MOVED = new BigInteger("4999999999");

    public static void main(String[] args) {
        Check.sentence("A STOP at each write of format()");
        for (int accounts = 2; accounts <= 24; accounts++) {
            formatCutAtEachWrite(accounts);
        }
        Check.sentence("A STOP at each write of commit()");
        for (int accounts = 2; accounts <= 24; accounts++) {
            commitCutAtEachWrite(accounts);
        }
        commitOfOneCutAtEachWrite();
        recoverCutAtEachWrite();
        recoverCutAgainAndAgain();
        formatOverCommittedLog();
        Check.finish();
    }

    /** Account 0 has BEFORE, on the disk. */
    private static BigLedger started(int accounts) {
        BigLedger x = Check.formatted(accounts, 2, 25);
        Check.setAmount(x, BEFORE);
        Check.due("deposit(0)", x.deposit(0), 0);
        Check.due("commit()", x.commit(), 0);
        return x;
    }

    /** All accounts and TOTAL are touched: MOVED goes from 0 to the last, and 1 is deposited to each. */
    private static int touchAll(BigLedger x, int accounts) {
        Check.setAmount(x, MOVED);
        Check.due("transfer", x.transfer(0, accounts - 1), 0);
        Check.setAmount(x, 1);
        for (int account = 0; account < accounts; account++) {
            Check.due("deposit", x.deposit(account), 0);
        }
        Check.due("touched", x.count(5), accounts + 1);
        return accounts + 1;
    }

    private static void isBefore(BigLedger x, int accounts) {
        Check.due("balance 0", Check.balance(x, 0), BEFORE);
        for (int account = 1; account < accounts; account++) {
            Check.due("balance", x.balanceSize(account), 0);
        }
        Check.due("TOTAL", Check.total(x), BEFORE);
    }

    private static void isAfter(BigLedger x, int accounts) {
        Check.due("balance 0", Check.balance(x, 0), BEFORE.subtract(MOVED).add(BigInteger.ONE));
        for (int account = 1; account < accounts - 1; account++) {
            Check.due("balance", Check.balance(x, account), BigInteger.ONE);
        }
        Check.due("the last balance", Check.balance(x, accounts - 1), MOVED.add(BigInteger.ONE));
        Check.due("TOTAL", Check.total(x), BEFORE.add(BigInteger.valueOf(accounts)));
    }

    private static void isDown(BigLedger x) {
        Check.due("DOWN", x.count(4), 0);
        Check.due("armed no more", x.count(6), -1);
        Check.due("touched", x.count(5), 0);
        Check.due("the AMOUNT", x.count(8), 0);
        Check.due("balanceSize(0)", x.balanceSize(0), -1);
        Check.due("commit()", x.commit(), 6);
    }

    private static void formatCutAtEachWrite(int accounts) {
        int all = accounts + 4;
        for (int stop = 0; stop <= all; stop++) {
            BigLedger x = started(accounts);
            int writes = x.count(3);
            Check.due("deposit(1)", x.deposit(1), 0);
            x.stopAfter(stop);
            Check.due("format(), stop " + stop, x.format(), stop == all);
            Check.due("writes", x.count(3), writes + stop);
            if (stop == all) {
                Check.due("the STOP has not come", x.count(6), 0);
                continue;
            }
            isDown(x);
            Check.due("recover(), stop " + stop, x.recover(), stop == 0);
            Check.due("no write", x.count(3), writes + stop);
            if (stop == 0) {
                isBefore(x, accounts);
                continue;
            }
            isDown(x);
            Check.due("format() again", x.format(), true);
            Check.due("writes", x.count(3), writes + stop + all);
            Check.due("TOTAL", x.count(7), 0);
            Check.due("balance 0", x.balanceSize(0), 0);
        }
    }

    private static void commitCutAtEachWrite(int accounts) {
        int k = accounts + 1;
        for (int stop = 0; stop <= 2 * k + 2; stop++) {
            BigLedger x = started(accounts);
            touchAll(x, accounts);
            int writes = x.count(3);
            x.stopAfter(stop);
            Check.due("commit(), stop " + stop, x.commit(), stop == 2 * k + 2 ? 0 : 6);
            Check.due("writes", x.count(3), writes + stop);
            if (stop == 2 * k + 2) {
                Check.due("the STOP has not come", x.count(6), 0);
                isAfter(x, accounts);
                continue;
            }
            isDown(x);
            boolean committed = stop > k;
            Check.due("recover()", x.recover(), true);
            Check.due("writes", x.count(3), writes + stop + (committed ? k + 1 : 0));
            Check.due("the AMOUNT", x.count(8), 0);
            if (committed) {
                isAfter(x, accounts);
            } else {
                isBefore(x, accounts);
            }
        }
    }

    /** The smallest ledger, and the smallest commit there is: one block, whose balance stays. */
    private static void commitOfOneCutAtEachWrite() {
        Check.sentence("A STOP at each write of commit(), k being 1");
        for (int stop = 0; stop <= 4; stop++) {
            BigLedger x = Check.formatted(1, 1, 1);
            Check.due("transfer(0, 0)", x.transfer(0, 0), 0);
            x.stopAfter(stop);
            Check.due("commit(), stop " + stop, x.commit(), stop == 4 ? 0 : 6);
            Check.due("writes", x.count(3), 5 + stop);
            Check.due("recover()", x.recover(), true);
            Check.due("writes", x.count(3), 5 + stop + (stop == 2 || stop == 3 ? 2 : 0));
            Check.due("balance", x.balanceSize(0), 0);
            Check.due("touched", x.count(5), 0);
        }
    }

    private static void recoverCutAtEachWrite() {
        Check.sentence("A STOP at each write of recover(), behind one at each write of commit()");
        int accounts = 5;
        int k = accounts + 1;
        for (int first = k + 1; first < 2 * k + 2; first++) {
            for (int second = 0; second <= k + 1; second++) {
                BigLedger x = started(accounts);
                touchAll(x, accounts);
                x.stopAfter(first);
                Check.due("commit()", x.commit(), 6);
                int writes = x.count(3);
                x.stopAfter(second);
                Check.due("recover(), stop " + second, x.recover(), second == k + 1);
                Check.due("writes", x.count(3), writes + second);
                if (second <= k) {
                    isDown(x);
                    Check.due("recover() again", x.recover(), true);
                    Check.due("writes", x.count(3), writes + second + k + 1);
                }
                isAfter(x, accounts);
                x.stopAfter(-1);
                Check.due("withdraw(1) of 0", x.withdraw(1), 0);
                Check.due("commit()", x.commit(), 0);
                isAfter(x, accounts);
            }
        }
    }

    private static void recoverCutAgainAndAgain() {
        Check.sentence("STOPS at all writes of recover(), one behind the other");
        BigLedger x = started(3);
        int k = touchAll(x, 3);
        x.stopAfter(k + 1);
        Check.due("commit()", x.commit(), 6);
        int writes = x.count(3);
        for (int stop = 0; stop <= k; stop++) {
            x.stopAfter(stop);
            Check.due("recover(), stop " + stop, x.recover(), false);
            writes += stop;
            Check.due("writes", x.count(3), writes);
            isDown(x);
        }
        Check.due("recover()", x.recover(), true);
        isAfter(x, 3);
        // What a stop cut ahead of COMMITTED must not come back with a later, smaller commit.
        Check.setAmount(x, 1);
        Check.due("withdraw(2)", x.withdraw(2), 0);
        x.stopAfter(2);
        Check.due("commit()", x.commit(), 6);
        Check.due("recover()", x.recover(), true);
        isAfter(x, 3);
        Check.due("transfer(1, 1) of 0", x.transfer(1, 1), 0);
        x.stopAfter(2);
        Check.due("commit()", x.commit(), 6);
        Check.due("recover()", x.recover(), true);
        isAfter(x, 3);
    }

    private static void formatOverCommittedLog() {
        Check.sentence("A STOP at each write of format(), the log being COMMITTED");
        for (int stop = 0; stop <= 7; stop++) {
            BigLedger x = started(3);
            int k = touchAll(x, 3);
            x.stopAfter(k + 1);
            Check.due("commit()", x.commit(), 6);
            int writes = x.count(3);
            x.stopAfter(stop);
            Check.due("format(), stop " + stop, x.format(), stop == 7);
            x.stopAfter(-1);
            Check.due("recover()", x.recover(), stop == 0 || stop == 7);
            Check.due("writes", x.count(3), writes + stop + (stop == 0 ? k + 1 : 0));
            if (stop == 0) {
                isAfter(x, 3);
                continue;
            }
            Check.due("format()", x.format(), true);
            Check.due("recover()", x.recover(), true);
            Check.due("TOTAL", x.count(7), 0);
            Check.due("balance 0", x.balanceSize(0), 0);
        }
    }
}
