import java.math.BigInteger;

/** Promises 1 to 10, sentence by sentence: ordinary inputs, the edges that the document names, and wrong inputs. */
public final class Promises1To10Test {
    private static final int LOW = Check.LOW;
    private static final int HIGH = Check.HIGH;
    private static final int[] NOT_OF_THREE = {-1, 3, 4, 24, LOW, HIGH, 32, -32};

    public static void main(String[] args) {
        sizesAreThese();
        sizesTooSmall();
        sizesTooLarge();
        smallestLedger();
        largestLedger();
        formatDone();
        formatStopped();
        amountLimbDone();
        amountLimbOfZero();
        amountLimbBelowZero();
        amountLimbTooMany();
        amountLimbDown();
        clearAmountDone();
        clearAmountDown();
        depositDone();
        depositCarries();
        depositDown();
        depositNoSuchAccount();
        depositTooGreat();
        depositNoRoom();
        withdrawDone();
        withdrawAll();
        withdrawBorrows();
        withdrawDown();
        withdrawNoSuchAccount();
        withdrawTooMuch();
        withdrawNoRoom();
        transferDone();
        transferAll();
        transferToTheSame();
        transferDown();
        transferNoSuchAccount();
        transferTooMuch();
        transferTooGreat();
        transferNoRoom();
        partIsCut();
        partNoneAndWhole();
        partOfTheGreatest();
        partOfNothing();
        partBecomesTheAmount();
        partDown();
        partNoSuchAccount();
        partBelowZero();
        partAboveWhole();
        partOfNoDivisor();
        commitDone();
        commitTheGreatest();
        commitDown();
        commitStopped();
        abortDone();
        abortOfNothing();
        abortKeepsTheCommitted();
        abortDown();
        Check.finish();
    }

    private static void sizes(BigLedger x, int accounts, int limbs, int room) {
        Check.due("ACCOUNTS", x.count(0), accounts);
        Check.due("LIMBS", x.count(1), limbs);
        Check.due("ROOM", x.count(2), room);
    }

    /** 9 is on the disk in account 0, and the machine is DOWN. */
    private static BigLedger stopped() {
        BigLedger x = Check.funded(3, 1, 4, 9);
        Check.stop(x);
        return x;
    }

    /** Up again, what stopped() had on the disk is there, and no more. */
    private static void isAsStopped(BigLedger x) {
        Check.due("still DOWN", x.count(4), 0);
        Check.due("touched", x.count(5), 0);
        Check.due("recover()", x.recover(), true);
        Check.due("BALANCE 0", x.balanceLimb(0, 0), 9);
        Check.due("BALANCE 1", x.balanceSize(1), 0);
        Check.due("TOTAL", x.totalLimb(0), 9);
        Check.due("limbs of the AMOUNT", x.count(8), 0);
    }

    // Promise 1: A new object

    private static void sizesAreThese() {
        Check.sentence("1: ACCOUNTS, LIMBS, ROOM are these");
        for (int accounts = 1; accounts <= 24; accounts++) {
            sizes(new BigLedger(accounts, 7, 9), accounts, 7, 9);
        }
        for (int limbs = 1; limbs <= 20; limbs++) {
            sizes(new BigLedger(5, limbs, 9), 5, limbs, 9);
        }
        for (int room = 1; room <= 25; room++) {
            sizes(new BigLedger(5, 7, room), 5, 7, room);
        }
    }

    private static void sizesTooSmall() {
        Check.sentence("1: but 1 if less");
        for (int less : new int[] {0, -1, -24, LOW}) {
            sizes(new BigLedger(less, 7, 9), 1, 7, 9);
            sizes(new BigLedger(5, less, 9), 5, 1, 9);
            sizes(new BigLedger(5, 7, less), 5, 7, 1);
            sizes(new BigLedger(less, less, less), 1, 1, 1);
        }
    }

    private static void sizesTooLarge() {
        Check.sentence("1: and 24, 20, 25 if more");
        for (int more : new int[] {26, 100, HIGH}) {
            sizes(new BigLedger(more, 7, 9), 24, 7, 9);
            sizes(new BigLedger(5, more, 9), 5, 20, 9);
            sizes(new BigLedger(5, 7, more), 5, 7, 25);
            sizes(new BigLedger(more, more, more), 24, 20, 25);
        }
        sizes(new BigLedger(25, 21, 26), 24, 20, 25);
    }

    private static void smallestLedger() {
        Check.sentence("1: but 1 if less, and it works so");
        for (int less : new int[] {1, 0, LOW}) {
            BigLedger x = Check.formatted(less, less, less);
            Check.due("writes", x.count(3), 5);
            Check.due("BALANCE 0", x.balanceSize(0), 0);
            Check.due("no ACCOUNT 1", x.balanceSize(1), -1);
            Check.due("one limb", x.amountLimb(1), true);
            Check.due("no second limb", x.amountLimb(0), false);
            Check.due("no ROOM for two", x.deposit(0), 4);
            Check.due("clearAmount()", x.clearAmount(), true);
            Check.due("ROOM for one", x.transfer(0, 0), 0);
            Check.due("commit()", x.commit(), 0);
            Check.due("writes", x.count(3), 9);
        }
    }

    private static void largestLedger() {
        Check.sentence("1: and 24, 20, 25 if more, and it works so");
        BigLedger x = Check.formatted(HIGH, HIGH, HIGH);
        BigInteger most = Check.most(20);
        Check.setAmount(x, most);
        Check.due("no limb more", x.amountLimb(0), false);
        for (int account = 0; account < 24; account++) {
            Check.due("deposit of the most", x.deposit(account), 0);
        }
        Check.due("all are touched", x.count(5), 25);
        Check.due("no ACCOUNT 24", x.deposit(24), 1);
        Check.due("commit()", x.commit(), 0);
        Check.due("writes", x.count(3), 28 + 52);
        Check.due("TOTAL", Check.total(x), most.multiply(BigInteger.valueOf(24)));
        Check.due("BALANCE 23", Check.balance(x, 23), most);
        Check.due("withdraw(23)", x.withdraw(23), 0);
        Check.due("BALANCE 23", x.balanceSize(23), 0);
        Check.due("TOTAL", Check.total(x), most.multiply(BigInteger.valueOf(23)));
    }

    // Promise 2: format

    private static void formatDone() {
        Check.sentence("2: An empty ledger: true");
        BigLedger x = Check.funded(3, 2, 4, 5, HIGH, 1L << 40);
        Check.due("format()", x.format(), true);
        for (int account = 0; account < 3; account++) {
            Check.due("BALANCE", x.balanceSize(account), 0);
        }
        Check.due("TOTAL", x.count(7), 0);
        Check.due("up", x.count(4), 1);
        Check.due("recover()", x.recover(), true);
        Check.due("BALANCE 2", x.balanceSize(2), 0);
        Check.due("TOTAL", x.count(7), 0);
    }

    private static void formatStopped() {
        Check.sentence("2: false, if the STOP came (the machine is DOWN then)");
        for (int stop = 0; stop <= 7; stop++) {
            BigLedger x = Check.funded(3, 2, 4, 5);
            x.stopAfter(stop);
            Check.due("format(), STOP " + stop, x.format(), stop == 7);
            Check.due("up", x.count(4), stop == 7 ? 1 : 0);
            Check.due("balanceSize(1)", x.balanceSize(1), stop == 7 ? 0 : -1);
        }
    }

    // Promise 3: amountLimb

    private static void amountLimbDone() {
        Check.sentence("3: The AMOUNT becomes 2^31 times as great and limb more: true");
        BigLedger x = Check.formatted(1, 20, 2);
        BigInteger value = BigInteger.ZERO;
        for (int i = 0; i < 20; i++) {
            int limb = i == 0 ? 1 : i % 3 == 0 ? HIGH : i % 3 == 1 ? 0 : 1 << i;
            Check.due("amountLimb(" + limb + ")", x.amountLimb(limb), true);
            value = value.shiftLeft(31).add(BigInteger.valueOf(limb));
            Check.due("AMOUNT", Check.amount(x), value);
            Check.due("limbs", x.count(8), i + 1);
        }
    }

    private static void amountLimbOfZero() {
        Check.sentence("3: 2^31 times 0 and 0 more is 0, however often");
        BigLedger x = Check.formatted(1, 1, 1);
        for (int i = 0; i < 30; i++) {
            Check.due("amountLimb(0)", x.amountLimb(0), true);
            Check.due("limbs", x.count(8), 0);
        }
        Check.due("amountLimb(HIGH)", x.amountLimb(HIGH), true);
        Check.due("amount(0)", x.amount(0), HIGH);
    }

    private static void amountLimbBelowZero() {
        Check.sentence("3: false, if limb is below 0");
        BigLedger x = Check.formatted(1, 3, 2);
        for (int limb : new int[] {-1, -2, -HIGH, LOW}) {
            Check.due("amountLimb(" + limb + ") of 0", x.amountLimb(limb), false);
            Check.due("limbs", x.count(8), 0);
        }
        Check.due("amountLimb(6)", x.amountLimb(6), true);
        for (int limb : new int[] {-1, -2, -HIGH, LOW}) {
            Check.due("amountLimb(" + limb + ") of 6", x.amountLimb(limb), false);
            Check.due("AMOUNT", Check.amount(x), BigInteger.valueOf(6));
        }
    }

    private static void amountLimbTooMany() {
        Check.sentence("3: false, if the AMOUNT would have more than LIMBS");
        for (int limbs = 1; limbs <= 20; limbs++) {
            BigLedger x = Check.formatted(1, limbs, 2);
            for (int i = 0; i < limbs; i++) {
                Check.due("amountLimb, up to LIMBS", x.amountLimb(i == 0 ? 1 : 0), true);
            }
            for (int limb : new int[] {0, 1, HIGH}) {
                Check.due("amountLimb(" + limb + "), one more than LIMBS", x.amountLimb(limb), false);
            }
            Check.due("limbs", x.count(8), limbs);
            Check.due("AMOUNT", Check.amount(x), Check.power(limbs - 1));
        }
    }

    private static void amountLimbDown() {
        Check.sentence("3: false, if the machine is DOWN");
        Check.due("amountLimb(1), new", new BigLedger(1, 1, 1).amountLimb(1), false);
        BigLedger x = stopped();
        Check.due("amountLimb(1)", x.amountLimb(1), false);
        Check.due("amountLimb(0)", x.amountLimb(0), false);
        Check.due("limbs", x.count(8), 0);
        isAsStopped(x);
    }

    // Promise 4: clearAmount

    private static void clearAmountDone() {
        Check.sentence("4: The AMOUNT is 0: true");
        BigLedger x = Check.formatted(2, 3, 3);
        Check.due("clearAmount(), 0 already", x.clearAmount(), true);
        Check.setAmount(x, Check.most(3));
        Check.due("deposit(0)", x.deposit(0), 0);
        Check.due("clearAmount(), full", x.clearAmount(), true);
        Check.due("limbs", x.count(8), 0);
        Check.due("amount(0)", x.amount(0), 0);
        Check.due("amount(2)", x.amount(2), 0);
        Check.due("PENDING stays", Check.balance(x, 0), Check.most(3));
        Check.due("amountLimb(2)", x.amountLimb(2), true);
        Check.due("AMOUNT", Check.amount(x), BigInteger.TWO);
    }

    private static void clearAmountDown() {
        Check.sentence("4: false if the machine is DOWN");
        Check.due("clearAmount(), new", new BigLedger(1, 1, 1).clearAmount(), false);
        BigLedger x = stopped();
        Check.due("clearAmount()", x.clearAmount(), false);
        isAsStopped(x);
    }

    // Promise 5: deposit

    private static void depositDone() {
        Check.sentence("5: The AMOUNT comes to a BALANCE: 0");
        BigLedger x = Check.funded(3, 2, 4, 1, 2, 3);
        Check.setAmount(x, 70);
        Check.due("deposit(1)", x.deposit(1), 0);
        Check.due("BALANCE 0", x.balanceLimb(0, 0), 1);
        Check.due("BALANCE 1", x.balanceLimb(1, 0), 72);
        Check.due("BALANCE 2", x.balanceLimb(2, 0), 3);
        Check.due("TOTAL", x.totalLimb(0), 76);
        Check.due("deposit(1) again", x.deposit(1), 0);
        Check.due("BALANCE 1", x.balanceLimb(1, 0), 142);
        Check.due("TOTAL", x.totalLimb(0), 146);
    }

    private static void depositCarries() {
        Check.sentence("5: The AMOUNT comes to a BALANCE: a carry runs through all limbs");
        for (int limbs = 2; limbs <= 20; limbs++) {
            BigLedger x = Check.formatted(2, limbs, 3);
            Check.setAmount(x, Check.most(limbs - 1));
            Check.due("deposit(0)", x.deposit(0), 0);
            Check.setAmount(x, 1);
            Check.due("deposit(0) of 1", x.deposit(0), 0);
            Check.due("BALANCE", Check.balance(x, 0), Check.power(limbs - 1));
            Check.due("TOTAL", Check.total(x), Check.power(limbs - 1));
        }
    }

    private static void depositDown() {
        Check.sentence("5: 6");
        Check.due("deposit(0), new", new BigLedger(1, 1, 1).deposit(0), 6);
        BigLedger x = stopped();
        Check.due("deposit(0)", x.deposit(0), 6);
        isAsStopped(x);
    }

    private static void depositNoSuchAccount() {
        Check.sentence("5: 1");
        BigLedger x = Check.formatted(3, 1, 4);
        for (int account : NOT_OF_THREE) {
            Check.due("deposit(" + account + ")", x.deposit(account), 1);
        }
        Check.due("touched", x.count(5), 0);
    }

    private static void depositTooGreat() {
        Check.sentence("5: 3");
        for (int limbs = 1; limbs <= 20; limbs++) {
            BigLedger x = Check.formatted(2, limbs, 3);
            BigInteger most = Check.most(limbs);
            Check.setAmount(x, most.subtract(BigInteger.TEN));
            Check.due("deposit(0)", x.deposit(0), 0);
            Check.setAmount(x, 11);
            Check.due("deposit up to 2^(31 LIMBS)", x.deposit(0), 3);
            Check.setAmount(x, 10);
            Check.due("deposit up to one below", x.deposit(0), 0);
            Check.setAmount(x, most);
            Check.due("deposit of the most to the most", x.deposit(0), 3);
            Check.due("BALANCE", Check.balance(x, 0), most);
            Check.due("TOTAL", Check.total(x), most);
            Check.setAmount(x, 0);
            Check.due("deposit of 0 to the most", x.deposit(0), 0);
        }
    }

    private static void depositNoRoom() {
        Check.sentence("5: 4");
        BigLedger x = Check.formatted(4, 1, 3);
        Check.due("deposit(0), deposit(3)", x.deposit(0) + x.deposit(3), 0);
        Check.due("deposit(1), ROOM is full", x.deposit(1), 4);
        Check.due("touched", x.count(5), 3);
        Check.due("abort()", x.abort(), true);
        Check.due("transfer(0, 1)", x.transfer(0, 1), 0);
        Check.due("deposit(2), ROOM for one of two", x.deposit(2), 4);
        Check.due("deposit(1), ROOM for TOTAL", x.deposit(1), 0);
        Check.due("touched", x.count(5), 3);
    }

    // Promise 6: withdraw

    private static void withdrawDone() {
        Check.sentence("6: The AMOUNT goes from a BALANCE: 0");
        BigLedger x = Check.funded(3, 2, 4, 10, 20, 30);
        Check.setAmount(x, 7);
        Check.due("withdraw(1)", x.withdraw(1), 0);
        Check.due("BALANCE 0", x.balanceLimb(0, 0), 10);
        Check.due("BALANCE 1", x.balanceLimb(1, 0), 13);
        Check.due("BALANCE 2", x.balanceLimb(2, 0), 30);
        Check.due("TOTAL", x.totalLimb(0), 53);
        Check.due("withdraw(1) again", x.withdraw(1), 0);
        Check.due("BALANCE 1", x.balanceLimb(1, 0), 6);
        Check.due("TOTAL", x.totalLimb(0), 46);
    }

    private static void withdrawAll() {
        Check.sentence("6: The AMOUNT goes from a BALANCE: all of it, and 0 of 0");
        for (int limbs = 1; limbs <= 20; limbs++) {
            BigLedger x = Check.formatted(2, limbs, 3);
            Check.setAmount(x, Check.most(limbs));
            Check.due("deposit(1)", x.deposit(1), 0);
            Check.due("withdraw(1)", x.withdraw(1), 0);
            Check.due("BALANCE", x.balanceSize(1), 0);
            Check.due("TOTAL", x.count(7), 0);
            Check.due("clearAmount()", x.clearAmount(), true);
            Check.due("withdraw(1) of 0", x.withdraw(1), 0);
        }
    }

    private static void withdrawBorrows() {
        Check.sentence("6: The AMOUNT goes from a BALANCE: a borrow runs through all limbs");
        for (int limbs = 2; limbs <= 20; limbs++) {
            BigLedger x = Check.formatted(2, limbs, 3);
            Check.setAmount(x, Check.power(limbs - 1));
            Check.due("deposit(0)", x.deposit(0), 0);
            Check.setAmount(x, 1);
            Check.due("withdraw(0) of 1", x.withdraw(0), 0);
            Check.due("BALANCE", Check.balance(x, 0), Check.most(limbs - 1));
            Check.due("TOTAL", Check.total(x), Check.most(limbs - 1));
        }
    }

    private static void withdrawDown() {
        Check.sentence("6: 6");
        Check.due("withdraw(0), new", new BigLedger(1, 1, 1).withdraw(0), 6);
        BigLedger x = stopped();
        Check.due("withdraw(0)", x.withdraw(0), 6);
        isAsStopped(x);
    }

    private static void withdrawNoSuchAccount() {
        Check.sentence("6: 1");
        BigLedger x = Check.formatted(3, 1, 4);
        for (int account : NOT_OF_THREE) {
            Check.due("withdraw(" + account + ")", x.withdraw(account), 1);
        }
        Check.due("touched", x.count(5), 0);
    }

    private static void withdrawTooMuch() {
        Check.sentence("6: 2");
        for (int limbs = 1; limbs <= 20; limbs++) {
            BigLedger x = Check.formatted(2, limbs, 3);
            BigInteger value = Check.most(limbs).subtract(BigInteger.ONE);
            Check.setAmount(x, value);
            Check.due("withdraw from an empty one", x.withdraw(0), 2);
            Check.due("deposit(0)", x.deposit(0), 0);
            Check.setAmount(x, value.add(BigInteger.ONE));
            Check.due("withdraw one more than all", x.withdraw(0), 2);
            Check.due("BALANCE", Check.balance(x, 0), value);
            Check.due("TOTAL", Check.total(x), value);
        }
    }

    private static void withdrawNoRoom() {
        Check.sentence("6: 4");
        BigLedger x = Check.formatted(4, 1, 3);
        Check.due("withdraw(0), withdraw(3)", x.withdraw(0) + x.withdraw(3), 0);
        Check.due("withdraw(1), ROOM is full", x.withdraw(1), 4);
        Check.due("touched", x.count(5), 3);
        Check.due("abort()", x.abort(), true);
        Check.due("transfer(0, 1)", x.transfer(0, 1), 0);
        Check.due("withdraw(2), ROOM for one of two", x.withdraw(2), 4);
        Check.due("withdraw(1), ROOM for TOTAL", x.withdraw(1), 0);
        Check.due("touched", x.count(5), 3);
    }

    // Promise 7: transfer

    private static void transferDone() {
        Check.sentence("7: The AMOUNT goes from one BALANCE to another one: 0");
        BigLedger x = Check.funded(3, 2, 4, 10, 20, 30);
        Check.setAmount(x, 7);
        Check.due("transfer(2, 0)", x.transfer(2, 0), 0);
        Check.due("BALANCE 0", x.balanceLimb(0, 0), 17);
        Check.due("BALANCE 1", x.balanceLimb(1, 0), 20);
        Check.due("BALANCE 2", x.balanceLimb(2, 0), 23);
        Check.due("TOTAL", x.totalLimb(0), 60);
        Check.due("touched", x.count(5), 2);
        Check.due("commit()", x.commit(), 0);
        Check.due("BALANCE 0", x.balanceLimb(0, 0), 17);
        Check.due("BALANCE 2", x.balanceLimb(2, 0), 23);
    }

    private static void transferAll() {
        Check.sentence("7: The AMOUNT goes from one BALANCE to another one: all of it, and 0 of 0");
        for (int limbs = 1; limbs <= 20; limbs++) {
            BigLedger x = Check.formatted(2, limbs, 3);
            Check.setAmount(x, Check.most(limbs));
            Check.due("deposit(0)", x.deposit(0), 0);
            Check.due("transfer(0, 1)", x.transfer(0, 1), 0);
            Check.due("BALANCE 0", x.balanceSize(0), 0);
            Check.due("BALANCE 1", Check.balance(x, 1), Check.most(limbs));
            Check.due("TOTAL", Check.total(x), Check.most(limbs));
            Check.due("clearAmount()", x.clearAmount(), true);
            Check.due("transfer(0, 1) of 0, to the most", x.transfer(0, 1), 0);
        }
    }

    private static void transferToTheSame() {
        Check.sentence("7: (to the same one: nothing is changed but that it is TOUCHED)");
        for (int limbs = 1; limbs <= 20; limbs++) {
            BigLedger x = Check.formatted(2, limbs, 2);
            Check.setAmount(x, Check.most(limbs));
            Check.due("deposit(1), commit()", x.deposit(1) + x.commit(), 0);
            int writes = x.count(3);
            Check.due("transfer(1, 1) of all", x.transfer(1, 1), 0);
            Check.due("BALANCE", Check.balance(x, 1), Check.most(limbs));
            Check.due("TOTAL", Check.total(x), Check.most(limbs));
            Check.due("AMOUNT", Check.amount(x), Check.most(limbs));
            Check.due("touched", x.count(5), 1);
            Check.due("commit()", x.commit(), 0);
            Check.due("writes", x.count(3), writes + 4);
            Check.due("BALANCE", Check.balance(x, 1), Check.most(limbs));
        }
    }

    private static void transferDown() {
        Check.sentence("7: 6");
        Check.due("transfer(0, 0), new", new BigLedger(1, 1, 1).transfer(0, 0), 6);
        BigLedger x = stopped();
        Check.due("transfer(0, 1)", x.transfer(0, 1), 6);
        Check.due("transfer(0, 0)", x.transfer(0, 0), 6);
        isAsStopped(x);
    }

    private static void transferNoSuchAccount() {
        Check.sentence("7: 1");
        BigLedger x = Check.funded(3, 1, 4, 10);
        for (int account : NOT_OF_THREE) {
            Check.due("transfer(0, " + account + ")", x.transfer(0, account), 1);
            Check.due("transfer(" + account + ", 0)", x.transfer(account, 0), 1);
            Check.due("transfer to the same, no such", x.transfer(account, account), 1);
        }
        Check.due("touched", x.count(5), 0);
        Check.due("BALANCE 0", x.balanceLimb(0, 0), 10);
    }

    private static void transferTooMuch() {
        Check.sentence("7: 2");
        for (int limbs = 1; limbs <= 20; limbs++) {
            BigLedger x = Check.formatted(2, limbs, 3);
            BigInteger value = Check.most(limbs).subtract(BigInteger.ONE);
            Check.setAmount(x, value);
            Check.due("deposit(0)", x.deposit(0), 0);
            Check.due("transfer from an empty one", x.transfer(1, 0), 2);
            Check.setAmount(x, value.add(BigInteger.ONE));
            Check.due("transfer of one more than all", x.transfer(0, 1), 2);
            Check.due("of one more than all to the same", x.transfer(0, 0), 2);
            Check.due("BALANCE 0", Check.balance(x, 0), value);
            Check.due("BALANCE 1", x.balanceSize(1), 0);
        }
    }

    private static void transferTooGreat() {
        Check.sentence("7: 3");
        for (int limbs = 1; limbs <= 20; limbs++) {
            BigLedger x = Check.formatted(2, limbs, 3);
            Check.setAmount(x, Check.most(limbs).subtract(BigInteger.ONE));
            Check.due("deposit(1)", x.deposit(1), 0);
            Check.setAmount(x, 2);
            Check.due("deposit(0)", x.deposit(0), 0);
            Check.due("transfer up to 2^(31 LIMBS)", x.transfer(0, 1), 3);
            Check.setAmount(x, 1);
            Check.due("transfer up to one below", x.transfer(0, 1), 0);
            Check.due("transfer of 1 more", x.transfer(0, 1), 3);
            Check.due("BALANCE 0", Check.balance(x, 0), BigInteger.ONE);
            Check.due("BALANCE 1", Check.balance(x, 1), Check.most(limbs));
        }
    }

    private static void transferNoRoom() {
        Check.sentence("7: 4");
        BigLedger x = Check.formatted(4, 1, 3);
        Check.due("transfer(0, 1), transfer(2, 2)", x.transfer(0, 1) + x.transfer(2, 2), 0);
        Check.due("transfer(3, 0), ROOM is full", x.transfer(3, 0), 4);
        Check.due("transfer(0, 3), ROOM is full", x.transfer(0, 3), 4);
        Check.due("transfer(3, 3), ROOM is full", x.transfer(3, 3), 4);
        Check.due("touched", x.count(5), 3);
        Check.due("abort()", x.abort(), true);
        Check.due("deposit(0)", x.deposit(0), 0);
        Check.due("transfer(1, 2), ROOM for one of two", x.transfer(1, 2), 4);
        Check.due("transfer(1, 0), ROOM for one", x.transfer(1, 0), 0);
        Check.due("touched", x.count(5), 3);
    }

    // Promise 8: part

    private static void parts(BigLedger x, int account, int[][] cases) {
        for (int[] c : cases) {
            Check.due("part(" + account + ", " + c[0] + ", " + c[1] + ")", x.part(account, c[0], c[1]), 0);
            Check.due("AMOUNT behind part " + c[0] + " / " + c[1], Check.amount(x).longValue(), c[2]);
        }
    }

    private static void partIsCut() {
        Check.sentence("8: The part p / q of a BALANCE (cut)");
        BigLedger x = Check.funded(2, 1, 3, 100, HIGH);
        parts(x, 0, new int[][] {{1, 3, 33}, {2, 3, 66}, {1, 100, 1}, {1, 101, 0}, {99, 101, 98}, {100, 101, 99},
            {HIGH - 1, HIGH, 99}, {1, HIGH, 0}, {1, 2, 50}, {1, 7, 14}, {6, 7, 85}});
        parts(x, 1, new int[][] {{1, 2, HIGH / 2}, {HIGH - 1, HIGH, HIGH - 1}, {1, HIGH, 1}, {1, HIGH - 1, 1},
            {HIGH - 2, HIGH - 1, HIGH - 2}});
    }

    private static void partNoneAndWhole() {
        Check.sentence("8: The part p / q of a BALANCE, p being 0 or q");
        BigLedger x = Check.funded(2, 1, 3, 100, HIGH);
        parts(x, 0, new int[][] {{1, 1, 100}, {0, 1, 0}, {3, 3, 100}, {0, 3, 0}, {HIGH, HIGH, 100}, {0, HIGH, 0}});
        parts(x, 1, new int[][] {{1, 1, HIGH}, {0, 1, 0}, {HIGH, HIGH, HIGH}, {0, HIGH, 0}});
    }

    private static void partOfTheGreatest() {
        Check.sentence("8: The part p / q of a BALANCE, of any size");
        for (int limbs = 1; limbs <= 20; limbs++) {
            BigLedger x = Check.formatted(1, limbs, 2);
            BigInteger value = Check.most(limbs);
            Check.setAmount(x, value);
            Check.due("deposit(0)", x.deposit(0), 0);
            int[][] cases = {{1, 3}, {2, 3}, {HIGH - 1, HIGH}, {HIGH, HIGH}, {1, HIGH}, {999, 1000}, {0, 5},
                {123456789, 987654321}, {1 << 30, HIGH}, {1, 1 << 30}};
            for (int[] c : cases) {
                Check.due("part " + c[0] + " / " + c[1], x.part(0, c[0], c[1]), 0);
                BigInteger due = value.multiply(BigInteger.valueOf(c[0])).divide(BigInteger.valueOf(c[1]));
                Check.due("AMOUNT behind part " + c[0] + " / " + c[1], Check.amount(x), due);
                Check.due("limbs", x.count(8), Check.size(due));
            }
        }
    }

    private static void partOfNothing() {
        Check.sentence("8: The part p / q of a BALANCE of 0");
        BigLedger x = Check.formatted(2, 2, 3);
        parts(x, 1, new int[][] {{1, 1, 0}, {0, 1, 0}, {1, 2, 0}, {HIGH, HIGH, 0}, {1, HIGH, 0}});
        Check.due("limbs", x.count(8), 0);
    }

    private static void partBecomesTheAmount() {
        Check.sentence("8: becomes the AMOUNT");
        BigLedger x = Check.funded(2, 3, 3, 77);
        Check.setAmount(x, Check.most(3));
        Check.due("part(0, 1, 7)", x.part(0, 1, 7), 0);
        Check.due("AMOUNT", Check.amount(x), BigInteger.valueOf(11));
        Check.due("BALANCE 0", x.balanceLimb(0, 0), 77);
        Check.due("touched", x.count(5), 0);
        Check.due("transfer(0, 1)", x.transfer(0, 1), 0);
        Check.due("BALANCE 1", x.balanceLimb(1, 0), 11);
        Check.due("part(0, 1, 6), of what is PENDING", x.part(0, 1, 6), 0);
        Check.due("AMOUNT", Check.amount(x), BigInteger.valueOf(11));
    }

    private static void partDown() {
        Check.sentence("8: 6");
        Check.due("part(0, 1, 1), new", new BigLedger(1, 1, 1).part(0, 1, 1), 6);
        BigLedger x = stopped();
        Check.due("part(0, 1, 1)", x.part(0, 1, 1), 6);
        Check.due("limbs of the AMOUNT", x.count(8), 0);
        isAsStopped(x);
    }

    private static void partNoSuchAccount() {
        Check.sentence("8: 1");
        BigLedger x = Check.formatted(3, 1, 4);
        Check.setAmount(x, 77);
        for (int account : NOT_OF_THREE) {
            Check.due("part(" + account + ", 1, 2)", x.part(account, 1, 2), 1);
        }
        Check.due("AMOUNT", x.amount(0), 77);
    }

    private static void noParts(int[][] cases) {
        BigLedger x = Check.funded(2, 1, 3, 100);
        Check.setAmount(x, 77);
        for (int[] c : cases) {
            Check.due("part(0, " + c[0] + ", " + c[1] + ")", x.part(0, c[0], c[1]), 5);
            Check.due("AMOUNT", x.amount(0), 77);
        }
    }

    private static void partBelowZero() {
        Check.sentence("8: 5 (p below 0)");
        noParts(new int[][] {{-1, 1}, {-1, 2}, {LOW, 1}, {LOW, HIGH}, {-HIGH, HIGH}});
    }

    private static void partAboveWhole() {
        Check.sentence("8: 5 (p above q)");
        noParts(new int[][] {{2, 1}, {3, 2}, {HIGH, 1}, {HIGH, HIGH - 1}});
    }

    private static void partOfNoDivisor() {
        Check.sentence("8: 5 (q below 1)");
        noParts(new int[][] {{0, 0}, {1, 0}, {-1, 0}, {0, -1}, {-1, -1}, {-2, -1}, {-1, -2}, {LOW, LOW}, {HIGH, LOW},
            {0, LOW}, {LOW, 0}});
    }

    // Promise 9: commit

    private static void commitDone() {
        Check.sentence("9: PENDING is on the disk: 0");
        BigLedger x = Check.funded(3, 2, 4, 10, 20);
        Check.setAmount(x, 4);
        Check.due("deposit, withdraw, transfer", x.deposit(0) + x.withdraw(1) + x.transfer(1, 2), 0);
        Check.due("commit()", x.commit(), 0);
        Check.due("touched", x.count(5), 0);
        Check.due("up", x.count(4), 1);
        Check.stop(x);
        Check.due("recover()", x.recover(), true);
        Check.due("BALANCE 0", x.balanceLimb(0, 0), 14);
        Check.due("BALANCE 1", x.balanceLimb(1, 0), 12);
        Check.due("BALANCE 2", x.balanceLimb(2, 0), 4);
        Check.due("TOTAL", x.totalLimb(0), 30);
    }

    private static void commitTheGreatest() {
        Check.sentence("9: PENDING is on the disk, of any size");
        for (int limbs = 1; limbs <= 20; limbs++) {
            BigLedger x = Check.formatted(2, limbs, 3);
            Check.setAmount(x, Check.most(limbs));
            Check.due("deposits, commit()", x.deposit(0) + x.deposit(1) + x.commit(), 0);
            Check.stop(x);
            Check.due("recover()", x.recover(), true);
            Check.due("BALANCE 0", Check.balance(x, 0), Check.most(limbs));
            Check.due("BALANCE 1", Check.balance(x, 1), Check.most(limbs));
            Check.due("TOTAL", Check.total(x), Check.most(limbs).shiftLeft(1));
            Check.setAmount(x, 1);
            Check.due("withdraw, commit()", x.withdraw(0) + x.commit(), 0);
            Check.stop(x);
            Check.due("recover()", x.recover(), true);
            Check.due("BALANCE 0", Check.balance(x, 0), Check.most(limbs).subtract(BigInteger.ONE));
        }
    }

    private static void commitDown() {
        Check.sentence("9: 6");
        Check.due("commit(), new", new BigLedger(1, 1, 1).commit(), 6);
        BigLedger x = stopped();
        int writes = x.count(3);
        Check.due("commit()", x.commit(), 6);
        Check.due("no write", x.count(3), writes);
        isAsStopped(x);
    }

    private static void commitStopped() {
        Check.sentence("9: 6 (also if the STOP came)");
        for (int stop = 0; stop <= 6; stop++) {
            BigLedger x = Check.formatted(3, 2, 4);
            Check.due("deposit(1)", x.deposit(1), 0);
            x.stopAfter(stop);
            Check.due("commit(), STOP " + stop, x.commit(), stop == 6 ? 0 : 6);
            Check.due("up", x.count(4), stop == 6 ? 1 : 0);
            Check.due("touched", x.count(5), 0);
            Check.due("commit() again", x.commit(), stop == 6 ? 0 : 6);
        }
    }

    // Promise 10: abort

    private static void abortDone() {
        Check.sentence("10: PENDING is dropped: true");
        BigLedger x = Check.funded(3, 2, 4, 5, 6, 7);
        Check.setAmount(x, 3);
        Check.due("deposit, withdraw, transfer", x.deposit(0) + x.withdraw(1) + x.transfer(2, 0), 0);
        Check.due("abort()", x.abort(), true);
        for (int account = 0; account < 3; account++) {
            Check.due("BALANCE", x.balanceLimb(account, 0), 5 + account);
        }
        Check.due("TOTAL", x.totalLimb(0), 18);
        Check.due("touched", x.count(5), 0);
        Check.due("the AMOUNT stays", x.amount(0), 3);
        Check.due("deposit(0) behind it", x.deposit(0), 0);
        Check.due("BALANCE 0", x.balanceLimb(0, 0), 8);
        Check.due("TOTAL", x.totalLimb(0), 21);
    }

    private static void abortOfNothing() {
        Check.sentence("10: PENDING is dropped: true, also of nothing");
        BigLedger x = Check.formatted(2, 1, 3);
        Check.due("abort(), new", x.abort(), true);
        Check.due("abort() again", x.abort(), true);
        Check.due("deposit, commit", x.deposit(0) + x.commit(), 0);
        Check.due("abort() behind commit()", x.abort(), true);
        Check.due("up", x.count(4), 1);
    }

    private static void abortKeepsTheCommitted() {
        Check.sentence("10: PENDING is dropped, and not what was committed");
        BigLedger x = Check.formatted(2, 2, 3);
        Check.setAmount(x, 1L << 33);
        Check.due("deposit, commit, deposit", x.deposit(0) + x.commit() + x.deposit(0), 0);
        Check.due("abort()", x.abort(), true);
        Check.due("BALANCE 0", Check.balance(x, 0), BigInteger.valueOf(1L << 33));
        Check.due("TOTAL", Check.total(x), BigInteger.valueOf(1L << 33));
    }

    private static void abortDown() {
        Check.sentence("10: false if the machine is DOWN");
        Check.due("abort(), new", new BigLedger(1, 1, 1).abort(), false);
        BigLedger x = stopped();
        Check.due("abort()", x.abort(), false);
        isAsStopped(x);
    }
}
