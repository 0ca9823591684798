import java.math.BigInteger;

/** The sentences of 'What it is' and of 'Terms' that name a boundary case, each with a test of its own. */
public final class TermsTest {
    private static final int HIGH = Check.HIGH;

    public static void main(String[] args) {
        call512AfterManyFormats();
        call512AfterManyDigits();
        call512AfterManyCommits();
        call512AfterManyStops();
        accountsFromZero();
        accountsToTheLast();
        balancesFromZeroOn();
        balancesBelowTheBound();
        totalIsTheSum();
        totalMayPassTheBoundOfABalance();
        limbsToTheBase();
        limbsLowestFirst();
        noLimbOfZeroAtTheTop();
        zeroHasNoLimb();
        limbsOfZeroBelowTheTopStand();
        amountAtFirst();
        amountCleared();
        amountStays();
        pendingSinceCommit();
        pendingSinceAbort();
        pendingIsSeen();
        pendingIsSeenByActs();
        touchesWhereABalanceStays();
        touchesEachOnce();
        touchesTotal();
        transferTouchesNoTotal();
        refusedTouchesNothing();
        totalTouchedBehindATransfer();
        roomOfEachSize();
        roomForTransfers();
        roomOfOne();
        roomIsFreeAgain();
        roomFullAndTouchedAlready();
        Check.finish();
    }

    // What it is

    private static void call512AfterManyFormats() {
        Check.sentence("An object is used for at most 512 calls: 511 of format()");
        BigLedger x = new BigLedger(24, 20, 25);
        for (int call = 1; call <= 511; call++) {
            Check.due("format(), call " + call, x.format(), true);
        }
        Check.due("call 512: writes done in all", x.count(3), 511 * 28);
    }

    private static void call512AfterManyDigits() {
        Check.sentence("An object is used for at most 512 calls: most of write()");
        String digits = Check.most(20).toString();
        BigLedger x = new BigLedger(1, 20, 2);
        x.format();
        for (int limb = 0; limb < 20; limb++) {
            x.amountLimb(HIGH);
        }
        x.deposit(0);
        for (int call = 23; call <= 511; call++) {
            Check.due("write(0), call " + call, x.write(0), digits.length());
        }
        Check.due("call 512: the last digit", Check.octet(x, 186), digits.charAt(186));
    }

    private static void call512AfterManyCommits() {
        Check.sentence("An object is used for at most 512 calls: deposits and commits");
        BigLedger x = new BigLedger(2, 1, 2);
        x.format();
        x.amountLimb(1);
        for (int call = 3; call <= 512; call += 2) {
            Check.due("deposit(1), call " + call, x.deposit(1), 0);
            Check.due("commit(), call " + (call + 1), x.commit(), 0);
        }
    }

    private static void call512AfterManyStops() {
        Check.sentence("An object is used for at most 512 calls: stops");
        BigLedger x = new BigLedger(1, 1, 2);
        x.format();
        x.amountLimb(5);
        x.deposit(0);
        x.stopAfter(3);
        Check.due("commit(), cut behind COMMITTED", x.commit(), 6);
        for (int call = 6; call <= 509; call += 2) {
            x.stopAfter(2);
            Check.due("recover(), cut, call " + (call + 1), x.recover(), false);
        }
        Check.due("call 510: writes", x.count(3), 5 + 3 + 252 * 2);
        Check.due("call 511: recover()", x.recover(), true);
        Check.due("call 512: what was committed", x.balanceLimb(0, 0), 5);
    }

    // Terms: ACCOUNTS, BALANCES, TOTAL, LIMBS

    private static void accountsFromZero() {
        Check.sentence("ACCOUNTS 0 .. : the first is 0");
        for (int accounts = 1; accounts <= 24; accounts++) {
            BigLedger x = Check.formatted(accounts, 1, 25);
            Check.due("balanceSize(0)", x.balanceSize(0), 0);
            Check.due("deposit(0)", x.deposit(0), 0);
            Check.due("balanceSize(-1)", x.balanceSize(-1), -1);
            Check.due("deposit(-1)", x.deposit(-1), 1);
        }
    }

    private static void accountsToTheLast() {
        Check.sentence("ACCOUNTS .. (ACCOUNTS - 1): the last one, and none beyond");
        for (int accounts = 1; accounts <= 24; accounts++) {
            BigLedger x = Check.formatted(accounts, 1, 25);
            Check.setAmount(x, accounts);
            Check.due("deposit, the last", x.deposit(accounts - 1), 0);
            Check.due("balance, the last", x.balanceLimb(accounts - 1, 0), accounts);
            Check.due("deposit beyond", x.deposit(accounts), 1);
            Check.due("balance beyond", x.balanceLimb(accounts, 0), -1);
        }
    }

    private static void balancesFromZeroOn() {
        Check.sentence("BALANCES, whole numbers from 0 on");
        BigLedger x = Check.funded(2, 2, 3, 1);
        Check.setAmount(x, 1);
        Check.due("withdraw to 0", x.withdraw(0), 0);
        Check.due("balance", x.balanceSize(0), 0);
        Check.due("withdraw below 0", x.withdraw(0), 2);
        Check.due("transfer below 0", x.transfer(0, 1), 2);
        Check.due("balance", x.balanceSize(0), 0);
    }

    private static void balancesBelowTheBound() {
        Check.sentence("BALANCES below 2^(31 LIMBS)");
        for (int limbs = 1; limbs <= 20; limbs++) {
            BigLedger x = Check.formatted(2, limbs, 3);
            BigInteger most = Check.most(limbs);
            Check.setAmount(x, most);
            Check.due("deposit up to one below", x.deposit(0), 0);
            Check.due("balance", Check.balance(x, 0), most);
            Check.setAmount(x, 1);
            Check.due("deposit of 1 more", x.deposit(0), 3);
            Check.due("deposit(1)", x.deposit(1), 0);
            Check.due("transfer of 1 more", x.transfer(1, 0), 3);
            Check.due("commit()", x.commit(), 0);
            Check.due("deposit of 1 more, committed", x.deposit(0), 3);
            Check.due("balance", Check.balance(x, 0), most);
        }
    }

    private static void totalIsTheSum() {
        Check.sentence("TOTAL is the sum of all");
        BigLedger x = Check.formatted(24, 2, 25);
        BigInteger sum = BigInteger.ZERO;
        for (int account = 0; account < 24; account++) {
            BigInteger value = BigInteger.valueOf(0x3fffffffffffL << account % 3);
            Check.setAmount(x, value);
            Check.due("deposit", x.deposit(account), 0);
            sum = sum.add(value);
            Check.due("TOTAL", Check.total(x), sum);
        }
        Check.due("commit()", x.commit(), 0);
        Check.due("TOTAL, committed", Check.total(x), sum);
        Check.due("withdraw", x.withdraw(23), 0);
        Check.due("TOTAL", Check.total(x), sum.subtract(Check.amount(x)));
        Check.due("abort()", x.abort(), true);
        Check.due("TOTAL", Check.total(x), sum);
    }

    private static void totalMayPassTheBoundOfABalance() {
        Check.sentence("TOTAL is the sum of all: it may need a limb more than LIMBS");
        for (int limbs = 1; limbs <= 20; limbs++) {
            BigLedger x = Check.formatted(24, limbs, 25);
            Check.setAmount(x, Check.most(limbs));
            for (int account = 0; account < 24; account++) {
                Check.due("deposit of the most", x.deposit(account), 0);
            }
            BigInteger sum = Check.most(limbs).multiply(BigInteger.valueOf(24));
            Check.due("limbs of TOTAL", x.count(7), limbs + 1);
            Check.due("TOTAL", Check.total(x), sum);
            Check.due("commit()", x.commit(), 0);
            Check.due("recover()", x.recover(), true);
            Check.due("TOTAL, on the disk", Check.total(x), sum);
        }
    }

    private static void limbsToTheBase() {
        Check.sentence("LIMBS are those to the base 2^31");
        BigLedger x = Check.funded(2, 2, 3, HIGH);
        Check.due("2^31 - 1 has one limb", x.balanceSize(0), 1);
        Check.due("which is", x.balanceLimb(0, 0), HIGH);
        Check.setAmount(x, 1);
        Check.due("deposit(0)", x.deposit(0), 0);
        Check.due("2^31 has two limbs", x.balanceSize(0), 2);
        Check.due("limb 0", x.balanceLimb(0, 0), 0);
        Check.due("limb 1", x.balanceLimb(0, 1), 1);
    }

    private static void limbsLowestFirst() {
        Check.sentence("LIMBS: the lowest first");
        BigLedger x = Check.formatted(1, 4, 2);
        Check.setAmount(x, Check.power(3).add(Check.power(2).shiftLeft(1)).add(Check.power(1).shiftLeft(2)).add(BigInteger.TEN));
        Check.due("deposit(0)", x.deposit(0), 0);
        int[] due = {10, 4, 2, 1};
        for (int i = 0; i < 4; i++) {
            Check.due("balanceLimb(0, " + i + ")", x.balanceLimb(0, i), due[i]);
            Check.due("totalLimb(" + i + ")", x.totalLimb(i), due[i]);
            Check.due("amount(" + i + ")", x.amount(i), due[i]);
        }
    }

    private static void noLimbOfZeroAtTheTop() {
        Check.sentence("LIMBS: none of 0 at the top");
        for (int limbs = 1; limbs <= 20; limbs++) {
            BigLedger x = Check.formatted(2, 20, 3);
            Check.setAmount(x, Check.most(20));
            Check.due("deposit(0)", x.deposit(0), 0);
            Check.setAmount(x, Check.most(20).subtract(Check.power(limbs - 1)));
            Check.due("withdraw(0)", x.withdraw(0), 0);
            Check.due("limbs of the BALANCE", x.balanceSize(0), limbs);
            Check.due("limbs of TOTAL", x.count(7), limbs);
            Check.due("part(0, 1, 1)", x.part(0, 1, 1), 0);
            Check.due("limbs of the AMOUNT", x.count(8), limbs);
            Check.due("part(0, 1, 2)", x.part(0, 1, 2), 0);
            Check.due("limbs of the half", x.count(8), limbs - 1);
        }
    }

    private static void zeroHasNoLimb() {
        Check.sentence("LIMBS: none of 0 at the top, so 0 has none");
        BigLedger x = Check.formatted(2, 3, 3);
        Check.due("BALANCE", x.balanceSize(0), 0);
        Check.due("TOTAL", x.count(7), 0);
        Check.due("AMOUNT", x.count(8), 0);
        Check.setAmount(x, Check.most(3));
        Check.due("deposit, transfer, withdraw", x.deposit(0) + x.transfer(0, 1) + x.withdraw(1), 0);
        Check.due("BALANCE, paid", x.balanceSize(0), 0);
        Check.due("BALANCE, withdrawn", x.balanceSize(1), 0);
        Check.due("TOTAL, withdrawn", x.count(7), 0);
        Check.due("clearAmount()", x.clearAmount(), true);
        Check.due("AMOUNT, cleared", x.count(8), 0);
    }

    private static void limbsOfZeroBelowTheTopStand() {
        Check.sentence("LIMBS: none of 0 at the top, but below it");
        BigLedger x = Check.formatted(1, 20, 2);
        Check.setAmount(x, Check.power(19));
        Check.due("deposit(0)", x.deposit(0), 0);
        Check.due("BALANCE", x.balanceSize(0), 20);
        Check.due("TOTAL", x.count(7), 20);
        Check.due("AMOUNT", x.count(8), 20);
        for (int i = 0; i < 19; i++) {
            Check.due("limb " + i, x.balanceLimb(0, i), 0);
        }
        Check.due("limb 19", x.balanceLimb(0, 19), 1);
    }

    // Terms: the AMOUNT

    private static void amountAtFirst() {
        Check.sentence("The AMOUNT: at first 0");
        BigLedger x = Check.formatted(1, 2, 2);
        Check.due("limbs", x.count(8), 0);
        Check.due("amount(0)", x.amount(0), 0);
        Check.due("deposit(0)", x.deposit(0), 0);
        Check.due("BALANCE", x.balanceSize(0), 0);
    }

    private static void amountCleared() {
        Check.sentence("The AMOUNT: when it is cleared, 0");
        BigLedger x = Check.formatted(1, 20, 2);
        Check.setAmount(x, Check.most(20));
        Check.due("clearAmount()", x.clearAmount(), true);
        Check.due("limbs", x.count(8), 0);
        for (int i = 0; i < 21; i++) {
            Check.due("amount(" + i + ")", x.amount(i), 0);
        }
        Check.due("amountLimb(3)", x.amountLimb(3), true);
        Check.due("AMOUNT", Check.amount(x), BigInteger.valueOf(3));
    }

    private static void amountStays() {
        Check.sentence("The AMOUNT is used and stays");
        BigLedger x = Check.formatted(2, 2, 3);
        Check.setAmount(x, 5L << 31);
        Check.due("deposit, transfer, withdraw", x.deposit(0) + x.transfer(0, 1) + x.withdraw(1), 0);
        Check.due("AMOUNT", Check.amount(x), BigInteger.valueOf(5L << 31));
        Check.due("abort()", x.abort(), true);
        Check.due("AMOUNT", Check.amount(x), BigInteger.valueOf(5L << 31));
        Check.due("deposit, commit", x.deposit(0) + x.commit(), 0);
        Check.due("AMOUNT", Check.amount(x), BigInteger.valueOf(5L << 31));
        Check.due("write(0)", x.write(0), 11);
        Check.due("AMOUNT", Check.amount(x), BigInteger.valueOf(5L << 31));
    }

    // Terms: PENDING

    private static void pendingSinceCommit() {
        Check.sentence("PENDING is what was done since the latest commit()");
        BigLedger x = Check.formatted(3, 1, 4);
        Check.setAmount(x, 1);
        Check.due("deposit(0), commit()", x.deposit(0) + x.commit(), 0);
        Check.due("touched", x.count(5), 0);
        Check.due("deposit(1)", x.deposit(1), 0);
        Check.due("touched", x.count(5), 2);
        Check.due("abort()", x.abort(), true);
        Check.due("BALANCE 0", x.balanceLimb(0, 0), 1);
        Check.due("BALANCE 1", x.balanceLimb(1, 0), 0);
    }

    private static void pendingSinceAbort() {
        Check.sentence("PENDING is what was done since the latest abort()");
        BigLedger x = Check.formatted(3, 1, 4);
        Check.setAmount(x, 1);
        Check.due("deposit(0)", x.deposit(0), 0);
        Check.due("abort()", x.abort(), true);
        Check.due("deposit(1)", x.deposit(1), 0);
        Check.due("touched", x.count(5), 2);
        int writes = x.count(3);
        Check.due("commit()", x.commit(), 0);
        Check.due("writes", x.count(3), writes + 6);
        Check.due("BALANCE 0", x.balanceLimb(0, 0), 0);
        Check.due("BALANCE 1", x.balanceLimb(1, 0), 1);
        Check.due("TOTAL", x.totalLimb(0), 1);
    }

    private static void pendingIsSeen() {
        Check.sentence("PENDING is seen by all that is asked");
        BigLedger x = Check.funded(3, 2, 4, 7, 7);
        Check.setAmount(x, 8L << 31);
        Check.due("deposit(0)", x.deposit(0), 0);
        Check.due("balanceSize(0)", x.balanceSize(0), 2);
        Check.due("balanceLimb(0, 1)", x.balanceLimb(0, 1), 8);
        Check.due("totalLimb(0)", x.totalLimb(0), 14);
        Check.due("totalLimb(1)", x.totalLimb(1), 8);
        Check.due("limbs of TOTAL", x.count(7), 2);
        Check.due("compare(0, 1)", x.compare(0, 1), 1);
        Check.due("compare(1, 0)", x.compare(1, 0), -1);
        Check.due("write(0)", x.write(0), 11);
        Check.due("OUT", Check.out(x), String.valueOf((8L << 31) + 7));
        Check.due("part(0, 1, 8)", x.part(0, 1, 8), 0);
        Check.due("AMOUNT", Check.amount(x), Check.power(1));
    }

    private static void pendingIsSeenByActs() {
        Check.sentence("PENDING is seen by the acts that come behind");
        BigLedger x = Check.formatted(2, 1, 3);
        Check.setAmount(x, HIGH);
        Check.due("deposit(0)", x.deposit(0), 0);
        Check.due("deposit(0), too great with it", x.deposit(0), 3);
        Check.due("transfer(0, 1)", x.transfer(0, 1), 0);
        Check.due("transfer(0, 1), nothing left", x.transfer(0, 1), 2);
        Check.due("withdraw(0), nothing left", x.withdraw(0), 2);
        Check.due("deposit(0), room for it again", x.deposit(0), 0);
        Check.due("transfer(0, 1), too great with it", x.transfer(0, 1), 3);
        Check.due("withdraw(1)", x.withdraw(1), 0);
        Check.due("withdraw(1), nothing left", x.withdraw(1), 2);
    }

    // Terms: TOUCHES

    private static void touchesWhereABalanceStays() {
        Check.sentence("TOUCHES the ACCOUNTS told in it (also where a BALANCE stays)");
        BigLedger x = Check.funded(4, 1, 25, 6);
        Check.due("transfer of 0", x.transfer(1, 2), 0);
        Check.due("both", x.count(5), 2);
        Check.due("transfer to itself", x.transfer(3, 3), 0);
        Check.due("one more", x.count(5), 3);
        Check.due("commit()", x.commit(), 0);
        Check.due("writes", x.count(3), 8 + 6 + 8);
        Check.setAmount(x, 6);
        Check.due("there", x.transfer(0, 1), 0);
        Check.due("and back", x.transfer(1, 0), 0);
        Check.due("both", x.count(5), 2);
        Check.due("abort()", x.abort(), true);
        Check.due("withdraw, deposit", x.withdraw(0) + x.deposit(0), 0);
        Check.due("it and TOTAL", x.count(5), 2);
    }

    private static void touchesEachOnce() {
        Check.sentence("TOUCHES the ACCOUNTS told in it: each counts once");
        BigLedger x = Check.formatted(3, 2, 25);
        Check.setAmount(x, 4);
        for (int time = 0; time < 5; time++) {
            Check.due("deposit(2)", x.deposit(2), 0);
            Check.due("touched", x.count(5), 2);
        }
        Check.due("transfer(2, 1)", x.transfer(2, 1), 0);
        Check.due("touched", x.count(5), 3);
        Check.due("withdraw(1)", x.withdraw(1), 0);
        Check.due("touched", x.count(5), 3);
    }

    private static void touchesTotal() {
        Check.sentence("and TOTAL too, if it has a deposit or withdrawal that was done (of 0, too)");
        BigLedger x = Check.funded(2, 1, 3, 9);
        Check.due("deposit of 0", x.deposit(1), 0);
        Check.due("ACCOUNT and TOTAL", x.count(5), 2);
        Check.due("abort()", x.abort(), true);
        Check.due("withdrawal of 0", x.withdraw(1), 0);
        Check.due("ACCOUNT and TOTAL", x.count(5), 2);
        int writes = x.count(3);
        Check.due("commit()", x.commit(), 0);
        Check.due("writes", x.count(3), writes + 6);
        Check.setAmount(x, 9);
        Check.due("withdrawal", x.withdraw(0), 0);
        Check.due("ACCOUNT and TOTAL", x.count(5), 2);
    }

    private static void transferTouchesNoTotal() {
        Check.sentence("and TOTAL too, if it has a deposit or withdrawal: a transfer does not");
        BigLedger x = Check.funded(2, 1, 3, 9);
        Check.setAmount(x, 9);
        int writes = x.count(3);
        Check.due("transfer(0, 1)", x.transfer(0, 1), 0);
        Check.due("two ACCOUNTS", x.count(5), 2);
        Check.due("commit()", x.commit(), 0);
        Check.due("writes", x.count(3), writes + 6);
        Check.due("transfer(1, 1)", x.transfer(1, 1), 0);
        Check.due("one ACCOUNT", x.count(5), 1);
        Check.due("TOTAL", x.totalLimb(0), 9);
    }

    private static void refusedTouchesNothing() {
        Check.sentence("and TOTAL too, if it has a deposit or withdrawal that was done: one refused does not");
        BigLedger x = Check.funded(2, 1, 25, HIGH, 1);
        Check.setAmount(x, 2);
        Check.due("deposit(0)", x.deposit(0), 3);
        Check.due("withdraw(1)", x.withdraw(1), 2);
        Check.due("deposit(2)", x.deposit(2), 1);
        Check.due("withdraw(-1)", x.withdraw(-1), 1);
        Check.due("touched", x.count(5), 0);
        Check.due("transfer(1, 1)", x.transfer(1, 1), 2);
        Check.due("transfer(1, 0)", x.transfer(1, 0), 2);
        Check.due("transfer(0, 9)", x.transfer(0, 9), 1);
        Check.due("touched", x.count(5), 0);
        int writes = x.count(3);
        Check.due("commit()", x.commit(), 0);
        Check.due("no write", x.count(3), writes);
    }

    private static void totalTouchedBehindATransfer() {
        Check.sentence("and TOTAL too, if it has a deposit or withdrawal, among other acts");
        BigLedger x = Check.funded(3, 1, 25, 9);
        Check.setAmount(x, 9);
        Check.due("transfer(0, 1)", x.transfer(0, 1), 0);
        Check.due("deposit(0)", x.deposit(0), 0);
        Check.due("one more", x.count(5), 3);
        Check.due("TOTAL", x.totalLimb(0), 18);
        Check.due("commit()", x.commit(), 0);
        Check.due("recover()", x.recover(), true);
        Check.due("TOTAL, on the disk", x.totalLimb(0), 18);
    }

    // Terms: ROOM

    private static void roomOfEachSize() {
        Check.sentence("ROOM: it may TOUCH so many at most");
        for (int room = 1; room <= 25; room++) {
            BigLedger x = Check.formatted(24, 1, room);
            for (int account = 0; account < 24; account++) {
                Check.due("deposit, ROOM " + room, x.deposit(account), account + 2 <= room ? 0 : 4);
            }
            Check.due("touched", x.count(5), room == 1 ? 0 : room);
            int writes = x.count(3);
            Check.due("commit()", x.commit(), 0);
            Check.due("writes", x.count(3), writes + (room == 1 ? 0 : 2 * room + 2));
        }
    }

    private static void roomForTransfers() {
        Check.sentence("ROOM: it may TOUCH so many at most, by transfers");
        for (int room = 1; room <= 25; room++) {
            BigLedger x = Check.formatted(24, 1, room);
            for (int account = 0; account < 24; account++) {
                Check.due("transfer to itself, ROOM " + room, x.transfer(account, account), account < room ? 0 : 4);
            }
            Check.due("touched", x.count(5), Math.min(room, 24));
        }
        BigLedger x = Check.formatted(3, 1, 2);
        Check.due("transfer(0, 1), ROOM is full", x.transfer(0, 1), 0);
        Check.due("transfer(1, 2), one more", x.transfer(1, 2), 4);
        Check.due("transfer(2, 0), one more", x.transfer(2, 0), 4);
        Check.due("abort()", x.abort(), true);
        Check.due("transfer(2, 2)", x.transfer(2, 2), 0);
        Check.due("transfer(0, 1), two more and room for one", x.transfer(0, 1), 4);
        Check.due("touched", x.count(5), 1);
    }

    private static void roomOfOne() {
        Check.sentence("ROOM: of 1 there is none for a deposit or a withdrawal, as TOTAL needs it too");
        BigLedger x = Check.formatted(2, 1, 1);
        Check.due("deposit of 0", x.deposit(0), 4);
        Check.due("withdrawal of 0", x.withdraw(0), 4);
        Check.due("transfer to another", x.transfer(0, 1), 4);
        Check.due("touched", x.count(5), 0);
        Check.due("transfer to itself", x.transfer(1, 1), 0);
        Check.due("touched", x.count(5), 1);
        Check.due("commit()", x.commit(), 0);
        Check.due("writes", x.count(3), 6 + 4);
    }

    private static void roomIsFreeAgain() {
        Check.sentence("ROOM: nothing is TOUCHED behind commit(), abort(), recover() and format()");
        BigLedger x = Check.formatted(3, 1, 2);
        Check.due("deposit(0)", x.deposit(0), 0);
        Check.due("deposit(1), full", x.deposit(1), 4);
        Check.due("commit()", x.commit(), 0);
        Check.due("deposit(1) behind commit()", x.deposit(1), 0);
        Check.due("abort()", x.abort(), true);
        Check.due("deposit(2) behind abort()", x.deposit(2), 0);
        Check.due("recover()", x.recover(), true);
        Check.due("deposit(1) behind recover()", x.deposit(1), 0);
        Check.due("format()", x.format(), true);
        Check.due("deposit(0) behind format()", x.deposit(0), 0);
        Check.due("deposit(1), full", x.deposit(1), 4);
    }

    private static void roomFullAndTouchedAlready() {
        Check.sentence("ROOM: what is TOUCHED already needs no more of it");
        BigLedger x = Check.formatted(3, 1, 3);
        Check.setAmount(x, 5);
        Check.due("deposit(0), deposit(1)", x.deposit(0) + x.deposit(1), 0);
        Check.due("full", x.count(5), 3);
        Check.due("deposit(1)", x.deposit(1), 0);
        Check.due("withdraw(0)", x.withdraw(0), 0);
        Check.due("transfer(1, 0)", x.transfer(1, 0), 0);
        Check.due("transfer(0, 0)", x.transfer(0, 0), 0);
        Check.due("deposit(2)", x.deposit(2), 4);
        Check.due("full", x.count(5), 3);
    }
}
