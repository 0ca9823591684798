import java.math.BigInteger;

/** Each promise by its number: ordinary inputs, the edges that the document names, and wrong inputs. */
public final class PromisesTest {
    private static final int LOW = Integer.MIN_VALUE;
    private static final int HIGH = Integer.MAX_VALUE;
    private static final int[] NOT_OF_THREE = {-1, 3, 4, 24, LOW, HIGH};

    public static void main(String[] args) {
        newObject();
        sizesAtTheirEnds();
        format();
        amountLimb();
        clearAmount();
        deposit();
        depositTooGreat();
        withdraw();
        transfer();
        transferToItself();
        orderOfAnswers();
        roomCountsWhatIsTouched();
        refusedChangesNothing();
        part();
        partOfGreatBalance();
        commit();
        abort();
        balanceSize();
        balanceLimb();
        totalLimb();
        amount();
        compare();
        stopAfter();
        recover();
        write();
        writeWhenDown();
        octet();
        count();
        allWhenDown();
        Check.due("NONE", BigLedger.NONE, -1);
        Check.finish();
    }

    private static BigLedger funded(int accounts, int limbs, int room, long... balances) {
        BigLedger x = Check.formatted(accounts, limbs, room);
        for (int i = 0; i < balances.length; i++) {
            Check.setAmount(x, balances[i]);
            Check.due("deposit", x.deposit(i), 0);
        }
        Check.due("commit()", x.commit(), 0);
        Check.due("clearAmount()", x.clearAmount(), true);
        return x;
    }

    private static void sizes(BigLedger x, int accounts, int limbs, int room) {
        Check.due("count(0)", x.count(0), accounts);
        Check.due("count(1)", x.count(1), limbs);
        Check.due("count(2)", x.count(2), room);
    }

    // Promise 1

    private static void newObject() {
        sizes(new BigLedger(3, 2, 4), 3, 2, 4);
        sizes(new BigLedger(1, 1, 1), 1, 1, 1);
        sizes(new BigLedger(0, 0, 0), 1, 1, 1);
        sizes(new BigLedger(-1, -7, -9), 1, 1, 1);
        sizes(new BigLedger(LOW, LOW, LOW), 1, 1, 1);
        sizes(new BigLedger(24, 20, 25), 24, 20, 25);
        sizes(new BigLedger(25, 21, 26), 24, 20, 25);
        sizes(new BigLedger(HIGH, HIGH, HIGH), 24, 20, 25);
        BigLedger x = new BigLedger(2, 2, 2);
        Check.due("new: writes", x.count(3), 0);
        Check.due("new: up", x.count(4), 0);
        Check.due("new: touched", x.count(5), 0);
        Check.due("new: stop", x.count(6), -1);
        Check.due("new: total", x.count(7), 0);
        Check.due("new: amount", x.count(8), 0);
        Check.due("new: octet(0)", Check.octet(x, 0), Check.THROWS);
        Check.due("new: recover()", x.recover(), false);
    }

    private static void sizesAtTheirEnds() {
        BigLedger x = Check.formatted(HIGH, HIGH, HIGH);
        BigInteger most = Check.power(20).subtract(BigInteger.ONE);
        Check.setAmount(x, most);
        for (int account = 0; account < 24; account++) {
            Check.due("deposit of the most", x.deposit(account), 0);
        }
        Check.due("all are touched", x.count(5), 25);
        Check.due("deposit(24)", x.deposit(24), 1);
        Check.due("TOTAL has a limb more", x.count(7), 21);
        Check.due("commit()", x.commit(), 0);
        Check.due("writes", x.count(3), 28 + 52);
        Check.due("TOTAL", Check.total(x), most.multiply(BigInteger.valueOf(24)));
        Check.due("balance 23", Check.balance(x, 23), most);
        Check.due("digits of the most", x.write(23), 187);
        Check.due("OUT", Check.out(x), most.toString());
        Check.due("withdraw", x.withdraw(0), 0);
        Check.due("balance 0", x.balanceSize(0), 0);
        Check.due("TOTAL", Check.total(x), most.multiply(BigInteger.valueOf(23)));
    }

    // Promise 2

    private static void format() {
        for (int accounts = 1; accounts <= 24; accounts++) {
            BigLedger x = Check.formatted(accounts, 2, 3);
            Check.due("writes of format()", x.count(3), accounts + 4);
            Check.due("up", x.count(4), 1);
        }
        BigLedger x = funded(2, 2, 3, 5, 6);
        int writes = x.count(3);
        Check.setAmount(x, 4);
        Check.due("deposit(0)", x.deposit(0), 0);
        Check.due("format()", x.format(), true);
        Check.due("writes", x.count(3), writes + 6);
        Check.due("PENDING is nothing", x.count(5), 0);
        Check.due("the AMOUNT is 0", x.count(8), 0);
        Check.due("balance 0", x.balanceSize(0), 0);
        Check.due("balance 1", x.balanceSize(1), 0);
        Check.due("TOTAL", x.count(7), 0);
        Check.due("recover()", x.recover(), true);
        Check.due("balance 1", x.balanceSize(1), 0);
    }

    // Promise 3

    private static void amountLimb() {
        BigLedger x = Check.formatted(2, 3, 3);
        Check.due("amountLimb(0)", x.amountLimb(0), true);
        Check.due("0 has no limb", x.count(8), 0);
        Check.due("amountLimb(1)", x.amountLimb(1), true);
        Check.due("amountLimb(-1)", x.amountLimb(-1), false);
        Check.due("amountLimb(LOW)", x.amountLimb(LOW), false);
        Check.due("amountLimb(0)", x.amountLimb(0), true);
        Check.due("amountLimb(HIGH)", x.amountLimb(HIGH), true);
        Check.due("three limbs", x.count(8), 3);
        Check.due("amountLimb(0), a limb too many", x.amountLimb(0), false);
        Check.due("amountLimb(1), a limb too many", x.amountLimb(1), false);
        Check.due("the AMOUNT stays", Check.amount(x), Check.power(2).add(BigInteger.valueOf(HIGH)));
        for (int i = 0; i < 30; i++) {
            BigLedger y = Check.formatted(1, 1, 1);
            Check.due("amountLimb(0) of 0", y.amountLimb(0) && y.amountLimb(0) && y.amountLimb(i), true);
            Check.due("amount(0)", y.amount(0), i);
        }
    }

    // Promise 4

    private static void clearAmount() {
        BigLedger x = Check.formatted(2, 3, 3);
        Check.setAmount(x, Check.power(2).add(BigInteger.TEN));
        Check.due("deposit(0)", x.deposit(0), 0);
        Check.due("clearAmount()", x.clearAmount(), true);
        Check.due("limbs", x.count(8), 0);
        Check.due("amount(0)", x.amount(0), 0);
        Check.due("amount(2)", x.amount(2), 0);
        Check.due("balance stays", Check.balance(x, 0), Check.power(2).add(BigInteger.TEN));
        Check.due("clearAmount()", x.clearAmount(), true);
    }

    // Promise 5

    private static void deposit() {
        BigLedger x = Check.formatted(3, 2, 4);
        Check.setAmount(x, HIGH);
        Check.due("deposit(2)", x.deposit(2), 0);
        Check.due("deposit(2)", x.deposit(2), 0);
        Check.due("carried", x.balanceLimb(2, 0), HIGH - 1);
        Check.due("carried", x.balanceLimb(2, 1), 1);
        Check.due("TOTAL", Check.total(x), BigInteger.valueOf(2L * HIGH));
        Check.due("touched", x.count(5), 2);
        Check.due("the AMOUNT stays", x.amount(0), HIGH);
        Check.due("no write", x.count(3), 7);
        for (int account : NOT_OF_THREE) {
            Check.due("deposit(" + account + ")", x.deposit(account), 1);
        }
        Check.due("abort()", x.abort(), true);
        Check.due("clearAmount()", x.clearAmount(), true);
        Check.due("deposit of 0", x.deposit(1), 0);
        Check.due("touches account and TOTAL", x.count(5), 2);
    }

    private static void depositTooGreat() {
        for (int limbs = 1; limbs <= 20; limbs++) {
            BigLedger x = Check.formatted(2, limbs, 3);
            BigInteger most = Check.power(limbs).subtract(BigInteger.ONE);
            Check.setAmount(x, most);
            Check.due("deposit of the most", x.deposit(0), 0);
            Check.due("deposit of the most again", x.deposit(0), 3);
            Check.setAmount(x, 1);
            Check.due("deposit of 1 more", x.deposit(0), 3);
            Check.due("balance stays", Check.balance(x, 0), most);
            Check.due("TOTAL stays", Check.total(x), most);
            Check.due("deposit of 1 elsewhere", x.deposit(1), 0);
            Check.due("TOTAL may be 2^(31 LIMBS)", Check.total(x), Check.power(limbs));
            Check.setAmount(x, 0);
            Check.due("deposit of 0", x.deposit(0), 0);
        }
    }

    // Promise 6

    private static void withdraw() {
        BigLedger x = funded(3, 3, 4, 10);
        Check.setAmount(x, Check.power(2));
        Check.due("withdraw more", x.withdraw(0), 2);
        Check.due("deposit(0)", x.deposit(0), 0);
        Check.setAmount(x, 11);
        Check.due("withdraw with a borrow", x.withdraw(0), 0);
        BigInteger left = Check.power(2).subtract(BigInteger.ONE);
        Check.due("balance", Check.balance(x, 0), left);
        Check.due("size", x.balanceSize(0), 2);
        Check.due("TOTAL", Check.total(x), left);
        Check.setAmount(x, Check.power(2));
        Check.due("withdraw one more than all", x.withdraw(0), 2);
        Check.due("balance", Check.balance(x, 0), left);
        Check.setAmount(x, left);
        Check.due("withdraw all", x.withdraw(0), 0);
        Check.due("size", x.balanceSize(0), 0);
        Check.due("TOTAL", x.count(7), 0);
        for (int account : NOT_OF_THREE) {
            Check.due("withdraw(" + account + ")", x.withdraw(account), 1);
        }
        Check.due("commit()", x.commit(), 0);
        Check.due("clearAmount()", x.clearAmount(), true);
        Check.due("withdraw of 0 from 0", x.withdraw(2), 0);
        Check.due("touches account and TOTAL", x.count(5), 2);
    }

    // Promise 7

    private static void transfer() {
        BigLedger x = funded(3, 1, 4, HIGH, 5, 0);
        Check.setAmount(x, 5);
        Check.due("transfer(1, 2)", x.transfer(1, 2), 0);
        Check.due("balance 1", x.balanceSize(1), 0);
        Check.due("balance 2", x.balanceLimb(2, 0), 5);
        Check.due("TOTAL stays", Check.total(x), BigInteger.valueOf(HIGH + 5L));
        Check.due("TOTAL is not touched", x.count(5), 2);
        Check.due("transfer(1, 2), nothing there", x.transfer(1, 2), 2);
        Check.due("transfer(2, 0), too great", x.transfer(2, 0), 3);
        Check.due("transfer(1, 0), 2 ahead of 3", x.transfer(1, 0), 2);
        Check.due("nothing touched by that", x.count(5), 2);
        Check.setAmount(x, HIGH);
        Check.due("transfer(0, 1) of all", x.transfer(0, 1), 0);
        Check.due("balance 0", x.balanceSize(0), 0);
        Check.due("balance 1", x.balanceLimb(1, 0), HIGH);
        for (int account : NOT_OF_THREE) {
            Check.due("transfer(0, " + account + ")", x.transfer(0, account), 1);
            Check.due("transfer(" + account + ", 0)", x.transfer(account, 0), 1);
            Check.due("transfer to itself, no such", x.transfer(account, account), 1);
        }
        Check.due("commit()", x.commit(), 0);
        Check.due("clearAmount()", x.clearAmount(), true);
        Check.due("transfer of 0", x.transfer(0, 2), 0);
        Check.due("both touched", x.count(5), 2);
    }

    private static void transferToItself() {
        BigLedger x = funded(2, 1, 4, HIGH, 3);
        Check.setAmount(x, HIGH);
        Check.due("transfer(0, 0)", x.transfer(0, 0), 0);
        Check.due("balance stays", x.balanceLimb(0, 0), HIGH);
        Check.due("touched", x.count(5), 1);
        Check.due("transfer(1, 1) of more", x.transfer(1, 1), 2);
        Check.due("touched", x.count(5), 1);
        int writes = x.count(3);
        Check.due("commit()", x.commit(), 0);
        Check.due("writes", x.count(3), writes + 4);
        Check.due("balance stays", x.balanceLimb(0, 0), HIGH);
    }

    // The order of ==== 3. ANSWERS

    private static void orderOfAnswers() {
        BigLedger x = new BigLedger(2, 1, 1);
        Check.due("6 ahead of 1", x.deposit(9), 6);
        Check.due("6 ahead of 1", x.withdraw(9), 6);
        Check.due("6 ahead of 1", x.transfer(9, 9), 6);
        Check.due("6 ahead of 1", x.part(9, 1, 0), 6);
        Check.due("format()", x.format(), true);
        Check.due("1 ahead of 5", x.part(9, 1, 0), 1);
        Check.setAmount(x, 1);
        Check.due("1 ahead of 2", x.withdraw(2), 1);
        Check.due("1 ahead of 2", x.transfer(0, 2), 1);
        Check.due("2 ahead of 4", x.withdraw(0), 2);
        Check.due("2 ahead of 4", x.transfer(0, 1), 2);
        Check.due("4", x.deposit(0), 4);
        // Balances stand only where ROOM is 2 at least, so 3 ahead of 4 is asked there.
        BigLedger y = Check.formatted(3, 1, 2);
        Check.setAmount(y, HIGH);
        for (int account = 0; account < 3; account++) {
            Check.due("deposit", y.deposit(account), 0);
            Check.due("commit()", y.commit(), 0);
        }
        Check.setAmount(y, 0);
        Check.due("transfer(0, 0)", y.transfer(0, 0), 0);
        Check.setAmount(y, 1);
        Check.due("3 ahead of 4", y.deposit(1), 3);
        Check.due("3 ahead of 4", y.transfer(1, 2), 3);
        Check.due("4", y.withdraw(1), 4);
        Check.setAmount(y, 0);
        Check.due("4, of 0 too", y.deposit(1), 4);
        Check.due("4, of 0 too", y.transfer(1, 2), 4);
    }

    private static void roomCountsWhatIsTouched() {
        for (int room = 1; room <= 25; room++) {
            BigLedger x = Check.formatted(24, 1, room);
            for (int account = 0; account < 24; account++) {
                Check.due("deposit, ROOM " + room, x.deposit(account), account + 2 <= room ? 0 : 4);
            }
            Check.due("touched", x.count(5), room == 1 ? 0 : Math.min(room, 25));
            Check.due("one touched already", x.withdraw(0), room == 1 ? 4 : 0);
            int writes = x.count(3);
            int k = x.count(5);
            Check.due("commit()", x.commit(), 0);
            Check.due("writes", x.count(3), writes + (k == 0 ? 0 : 2 * k + 2));
        }
        BigLedger y = Check.formatted(3, 1, 2);
        Check.due("transfer(0, 1)", y.transfer(0, 1), 0);
        Check.due("transfer(1, 0), both touched", y.transfer(1, 0), 0);
        Check.due("transfer(1, 2), one more", y.transfer(1, 2), 4);
        Check.due("transfer(2, 2), one more", y.transfer(2, 2), 4);
        Check.due("deposit(0), TOTAL more", y.deposit(0), 4);
        Check.due("withdraw(0), TOTAL more", y.withdraw(0), 4);
        Check.due("abort()", y.abort(), true);
        Check.due("withdraw(2)", y.withdraw(2), 0);
        Check.due("deposit(2)", y.deposit(2), 0);
        Check.due("touched", y.count(5), 2);
    }

    private static void refusedChangesNothing() {
        BigLedger x = funded(3, 1, 25, 7, HIGH, 0);
        Check.setAmount(x, 8);
        int writes = x.count(3);
        Check.due("withdraw(0)", x.withdraw(0), 2);
        Check.due("transfer(0, 2)", x.transfer(0, 2), 2);
        Check.due("deposit(1)", x.deposit(1), 3);
        Check.due("deposit(3)", x.deposit(3), 1);
        Check.due("transfer(1, 3)", x.transfer(1, 3), 1);
        Check.due("part(0, 2, 1)", x.part(0, 2, 1), 5);
        Check.due("touched", x.count(5), 0);
        Check.due("the AMOUNT", x.amount(0), 8);
        Check.due("balance 0", x.balanceLimb(0, 0), 7);
        Check.due("balance 1", x.balanceLimb(1, 0), HIGH);
        Check.due("balance 2", x.balanceLimb(2, 0), 0);
        Check.due("TOTAL", Check.total(x), BigInteger.valueOf(HIGH + 7L));
        Check.due("commit()", x.commit(), 0);
        Check.due("writes", x.count(3), writes);
    }

    // Promise 8

    private static void part() {
        BigLedger x = funded(3, 1, 4, 100, HIGH, 0);
        int[][] cases = {
            {0, 1, 3, 33}, {0, 2, 3, 66}, {0, 3, 3, 100}, {0, 0, 3, 0}, {0, 0, 1, 0}, {0, 1, 1, 100},
            {0, 1, 101, 0}, {0, 99, 101, 98}, {0, HIGH, HIGH, 100}, {0, HIGH - 1, HIGH, 99}, {0, 0, HIGH, 0},
            {1, HIGH, HIGH, HIGH}, {1, HIGH - 1, HIGH, HIGH - 1}, {1, 1, HIGH, 1}, {1, 1, 2, HIGH / 2},
            {2, 1, 1, 0}, {2, 1, 7, 0},
        };
        for (int[] c : cases) {
            Check.due("part", x.part(c[0], c[1], c[2]), 0);
            Check.due("part " + c[1] + " / " + c[2], x.amount(0), c[3]);
            Check.due("limbs", x.count(8), c[3] == 0 ? 0 : 1);
        }
        Check.setAmount(x, 77);
        int[][] wrong = {{-1, 2}, {3, 2}, {0, 0}, {0, -1}, {-2, -1}, {-1, -2}, {1, 0}, {LOW, HIGH}, {HIGH, LOW}, {LOW, LOW}};
        for (int[] w : wrong) {
            Check.due("part(0, " + w[0] + ", " + w[1] + ")", x.part(0, w[0], w[1]), 5);
        }
        for (int account : NOT_OF_THREE) {
            Check.due("part(" + account + ", 1, 2)", x.part(account, 1, 2), 1);
        }
        Check.due("the AMOUNT stays", x.amount(0), 77);
        Check.due("deposit(2)", x.deposit(2), 0);
        Check.due("part sees PENDING", x.part(2, 1, 7), 0);
        Check.due("amount(0)", x.amount(0), 11);
        Check.due("the balance stays", x.balanceLimb(2, 0), 77);
        Check.due("part touches nothing", x.count(5), 2);
    }

    private static void partOfGreatBalance() {
        BigLedger x = Check.formatted(1, 20, 2);
        BigInteger value = Check.power(20).subtract(BigInteger.valueOf(12345));
        Check.setAmount(x, value);
        Check.due("deposit(0)", x.deposit(0), 0);
        int[][] parts = {{1, 3}, {2, 3}, {HIGH - 1, HIGH}, {HIGH, HIGH}, {1, HIGH}, {999, 1000}, {0, 5}, {123456789, 987654321}};
        for (int[] c : parts) {
            Check.due("part", x.part(0, c[0], c[1]), 0);
            BigInteger want = value.multiply(BigInteger.valueOf(c[0])).divide(BigInteger.valueOf(c[1]));
            Check.due("part " + c[0] + " / " + c[1], Check.amount(x), want);
        }
    }

    // Promise 9

    private static void commit() {
        BigLedger x = Check.formatted(3, 2, 4);
        Check.due("commit() of nothing", x.commit(), 0);
        Check.due("no write", x.count(3), 7);
        Check.setAmount(x, 9);
        Check.due("deposit(1)", x.deposit(1), 0);
        Check.due("commit()", x.commit(), 0);
        Check.due("writes", x.count(3), 13);
        Check.due("touched", x.count(5), 0);
        Check.due("the AMOUNT stays", x.amount(0), 9);
        Check.due("up", x.count(4), 1);
        Check.due("abort()", x.abort(), true);
        Check.due("balance 1", x.balanceLimb(1, 0), 9);
        Check.due("TOTAL", x.totalLimb(0), 9);
        Check.due("recover()", x.recover(), true);
        Check.due("no write", x.count(3), 13);
        Check.due("balance 1", x.balanceLimb(1, 0), 9);
        Check.due("TOTAL", x.totalLimb(0), 9);
        Check.setAmount(x, 1);
        Check.due("deposit(0)", x.deposit(0), 0);
        x.stopAfter(0);
        Check.due("commit(), the STOP came", x.commit(), 6);
        Check.due("commit(), DOWN", x.commit(), 6);
    }

    // Promise 10

    private static void abort() {
        BigLedger x = funded(3, 2, 4, 5, 6, 7);
        Check.setAmount(x, 3);
        Check.due("deposit(0)", x.deposit(0), 0);
        Check.due("withdraw(1)", x.withdraw(1), 0);
        Check.due("transfer(2, 0)", x.transfer(2, 0), 0);
        int writes = x.count(3);
        Check.due("abort()", x.abort(), true);
        for (int account = 0; account < 3; account++) {
            Check.due("balance", x.balanceLimb(account, 0), 5 + account);
        }
        Check.due("TOTAL", x.totalLimb(0), 18);
        Check.due("touched", x.count(5), 0);
        Check.due("the AMOUNT stays", x.amount(0), 3);
        Check.due("no write", x.count(3), writes);
        Check.due("deposit(0) behind it", x.deposit(0), 0);
        Check.due("balance 0", x.balanceLimb(0, 0), 8);
        Check.due("TOTAL", x.totalLimb(0), 21);
        Check.due("abort()", x.abort(), true);
        Check.due("abort() of nothing", x.abort(), true);
    }

    // Promise 11

    private static void balanceSize() {
        BigLedger x = Check.formatted(3, 20, 4);
        Check.due("of 0", x.balanceSize(0), 0);
        for (int limbs = 1; limbs <= 20; limbs++) {
            Check.setAmount(x, Check.power(limbs - 1));
            Check.due("deposit(1)", x.deposit(1), 0);
            Check.due("balanceSize(1)", x.balanceSize(1), limbs);
            Check.due("abort()", x.abort(), true);
            Check.due("balanceSize(1)", x.balanceSize(1), 0);
        }
        for (int account : NOT_OF_THREE) {
            Check.due("balanceSize(" + account + ")", x.balanceSize(account), -1);
        }
    }

    // Promise 12

    private static void balanceLimb() {
        BigLedger x = Check.formatted(3, 3, 4);
        x.amountLimb(3);
        x.amountLimb(0);
        x.amountLimb(5);
        Check.due("deposit(2)", x.deposit(2), 0);
        Check.due("limb 0", x.balanceLimb(2, 0), 5);
        Check.due("limb 1", x.balanceLimb(2, 1), 0);
        Check.due("limb 2", x.balanceLimb(2, 2), 3);
        for (int i : new int[] {3, 4, 20, 21, 1000, HIGH}) {
            Check.due("beyond", x.balanceLimb(2, i), 0);
        }
        Check.due("limb -1", x.balanceLimb(2, -1), -1);
        Check.due("limb LOW", x.balanceLimb(2, LOW), -1);
        for (int account : NOT_OF_THREE) {
            Check.due("balanceLimb(" + account + ", 0)", x.balanceLimb(account, 0), -1);
        }
    }

    // Promise 13

    private static void totalLimb() {
        BigLedger x = Check.formatted(3, 1, 4);
        Check.due("totalLimb(0)", x.totalLimb(0), 0);
        Check.setAmount(x, HIGH);
        for (int account = 0; account < 3; account++) {
            Check.due("deposit", x.deposit(account), 0);
        }
        Check.due("totalLimb(0)", x.totalLimb(0), HIGH - 2);
        Check.due("totalLimb(1)", x.totalLimb(1), 2);
        for (int i : new int[] {2, 3, 21, 22, HIGH}) {
            Check.due("beyond", x.totalLimb(i), 0);
        }
        Check.due("totalLimb(-1)", x.totalLimb(-1), -1);
        Check.due("totalLimb(LOW)", x.totalLimb(LOW), -1);
        Check.due("transfer of 0", x.clearAmount() && x.transfer(0, 1) == 0, true);
        Check.due("totalLimb(1)", x.totalLimb(1), 2);
    }

    // Promise 14

    private static void amount() {
        BigLedger x = Check.formatted(3, 2, 4);
        Check.due("amount(0)", x.amount(0), 0);
        x.amountLimb(4);
        x.amountLimb(6);
        Check.due("amount(0)", x.amount(0), 6);
        Check.due("amount(1)", x.amount(1), 4);
        for (int i : new int[] {2, 3, 21, HIGH}) {
            Check.due("beyond", x.amount(i), 0);
        }
        Check.due("amount(-1)", x.amount(-1), -1);
        Check.due("amount(LOW)", x.amount(LOW), -1);
    }

    // Promise 15

    private static void compare() {
        BigLedger x = Check.formatted(4, 2, 5);
        BigInteger[] values = {BigInteger.TEN, Check.power(1), Check.power(1).add(BigInteger.ONE), BigInteger.TEN};
        for (int account = 0; account < 4; account++) {
            Check.setAmount(x, values[account]);
            Check.due("deposit", x.deposit(account), 0);
        }
        for (int one = 0; one < 4; one++) {
            for (int other = 0; other < 4; other++) {
                Check.due("compare", x.compare(one, other), values[one].compareTo(values[other]));
            }
        }
        for (int account : new int[] {-1, 4, LOW, HIGH}) {
            Check.due("compare(0, " + account + ")", x.compare(0, account), -2);
            Check.due("compare(" + account + ", 0)", x.compare(account, 0), -2);
            Check.due("compare, both no such", x.compare(account, account), -2);
        }
    }

    // Promise 16

    private static void stopAfter() {
        BigLedger x = new BigLedger(2, 1, 3);
        x.stopAfter(7);
        Check.due("armed when DOWN", x.count(6), 7);
        Check.due("format()", x.format(), true);
        Check.due("one left", x.count(6), 1);
        x.stopAfter(0);
        Check.due("armed anew", x.count(6), 0);
        x.stopAfter(-1);
        Check.due("armed no more", x.count(6), -1);
        x.stopAfter(5);
        x.stopAfter(LOW);
        Check.due("armed no more", x.count(6), -1);
        x.stopAfter(HIGH);
        Check.setAmount(x, 2);
        Check.due("deposit(0)", x.deposit(0), 0);
        Check.due("no write, no count", x.count(6), HIGH);
        Check.due("commit()", x.commit(), 0);
        Check.due("six writes less", x.count(6), HIGH - 6);
        x.stopAfter(0);
        Check.due("deposit(0)", x.deposit(0), 0);
        Check.due("abort()", x.abort(), true);
        Check.due("commit() of nothing", x.commit(), 0);
        Check.due("recover() of an empty log", x.recover(), true);
        Check.due("still armed", x.count(6), 0);
        Check.due("format()", x.format(), false);
        Check.due("armed no more behind the STOP", x.count(6), -1);
        Check.due("recover()", x.recover(), true);
        Check.due("the write was not done", x.balanceLimb(0, 0), 2);
        Check.due("format()", x.format(), true);
    }

    // Promise 17

    private static void recover() {
        BigLedger x = new BigLedger(2, 1, 3);
        x.stopAfter(0);
        Check.due("recover(), not FORMATTED", x.recover(), false);
        Check.due("no write, so no STOP", x.count(6), 0);
        Check.due("DOWN", x.count(4), 0);
        x.stopAfter(-1);
        Check.due("format()", x.format(), true);
        Check.setAmount(x, 6);
        Check.due("deposit(0)", x.deposit(0), 0);
        Check.due("recover() when up", x.recover(), true);
        Check.due("PENDING is lost", x.balanceSize(0), 0);
        Check.due("TOTAL", x.count(7), 0);
        Check.due("touched", x.count(5), 0);
        Check.due("the AMOUNT", x.count(8), 0);
        Check.due("no write", x.count(3), 6);
        Check.setAmount(x, 6);
        Check.due("deposit(0)", x.deposit(0), 0);
        x.stopAfter(3);
        Check.due("commit() cut behind COMMITTED", x.commit(), 6);
        Check.due("recover()", x.recover(), true);
        Check.due("each home, the log empty", x.count(3), 6 + 3 + 3);
        Check.due("up", x.count(4), 1);
        Check.due("balance 0", x.balanceLimb(0, 0), 6);
        Check.due("TOTAL", x.totalLimb(0), 6);
        Check.due("recover() again", x.recover(), true);
        Check.due("the log was empty", x.count(3), 12);
    }

    // Promise 18

    private static void write() {
        BigLedger x = Check.formatted(3, 20, 4);
        Check.due("write of 0", x.write(0), 1);
        Check.due("OUT", Check.out(x), "0");
        for (String text : new String[] {"1", "9", "10", "99", "100", "1000000000", "2147483647", "2147483648",
            "9223372036854775808", "100000000000000000000000000000000000000000", "907060504030201000000000000"}) {
            Check.setAmount(x, new BigInteger(text));
            Check.due("deposit(1)", x.deposit(1), 0);
            Check.due("write(1)", x.write(1), text.length());
            Check.due("OUT", Check.out(x), text);
            Check.due("the balance stays", Check.balance(x, 1), new BigInteger(text));
            Check.due("abort()", x.abort(), true);
        }
        Check.setAmount(x, 31);
        Check.due("deposit(2)", x.deposit(2), 0);
        Check.due("write(2)", x.write(2), 2);
        for (int account : NOT_OF_THREE) {
            Check.due("write(" + account + ")", x.write(account), -1);
            Check.due("OUT stays", Check.out(x), "31");
        }
        Check.due("write(0)", x.write(0), 1);
        Check.due("OUT is written anew", Check.out(x), "0");
        Check.setAmount(x, 205);
        Check.due("deposit(1)", x.deposit(1), 0);
        Check.due("write(2), not the latest one", x.write(2), 2);
        Check.due("OUT", Check.out(x), "31");
        Check.due("write(1)", x.write(1), 3);
        Check.due("OUT", Check.out(x), "205");
        Check.due("no write to the disk", x.count(3), 7);
        Check.due("write touches nothing", x.count(5), 3);
    }

    private static void writeWhenDown() {
        BigLedger x = funded(2, 1, 3, 47);
        Check.due("write(0)", x.write(0), 2);
        Check.due("format()", x.format(), true);
        Check.due("OUT stays", Check.out(x), "47");
        Check.due("deposit(0)", x.deposit(0), 0);
        x.stopAfter(0);
        Check.due("commit()", x.commit(), 6);
        Check.due("write(0), DOWN", x.write(0), -1);
        Check.due("OUT stays", Check.out(x), "47");
        Check.due("recover()", x.recover(), true);
        Check.due("OUT stays", Check.out(x), "47");
    }

    // Promise 19

    private static void octet() {
        BigLedger x = funded(2, 2, 3, 9876543210L);
        Check.due("octet(0), nothing written", Check.octet(x, 0), Check.THROWS);
        Check.due("write(0)", x.write(0), 10);
        for (int k = 0; k < 10; k++) {
            Check.due("octet(" + k + ")", Check.octet(x, k), '9' - k);
        }
        for (int k : new int[] {-1, 10, 11, 19, 20, 200, LOW, HIGH}) {
            Check.due("octet(" + k + ")", Check.octet(x, k), Check.THROWS);
        }
        Check.due("write(1)", x.write(1), 1);
        Check.due("octet(0)", Check.octet(x, 0), '0');
        Check.due("octet(1)", Check.octet(x, 1), Check.THROWS);
    }

    // Promise 20

    private static void count() {
        BigLedger x = Check.formatted(5, 4, 6);
        sizes(x, 5, 4, 6);
        Check.due("writes", x.count(3), 9);
        Check.due("up", x.count(4), 1);
        Check.due("stop", x.count(6), -1);
        Check.setAmount(x, Check.power(3));
        Check.due("limbs of the AMOUNT", x.count(8), 4);
        Check.due("deposit(0)", x.deposit(0), 0);
        Check.due("limbs of TOTAL", x.count(7), 4);
        Check.due("touched", x.count(5), 2);
        for (int what : new int[] {-1, 9, 10, LOW, HIGH}) {
            Check.due("count(" + what + ")", x.count(what), -1);
        }
        x.stopAfter(3);
        Check.due("stop", x.count(6), 3);
        Check.due("commit()", x.commit(), 6);
        Check.due("writes", x.count(3), 12);
        Check.due("up", x.count(4), 0);
        Check.due("touched", x.count(5), 0);
        Check.due("stop", x.count(6), -1);
        Check.due("limbs of TOTAL, DOWN", x.count(7), 0);
        Check.due("limbs of the AMOUNT, DOWN", x.count(8), 0);
        sizes(x, 5, 4, 6);
        Check.due("count(9), DOWN", x.count(9), -1);
    }

    private static void allWhenDown() {
        BigLedger stopped = funded(2, 1, 3, 8);
        stopped.stopAfter(0);
        Check.due("format()", stopped.format(), false);
        for (BigLedger x : new BigLedger[] {new BigLedger(2, 1, 3), stopped}) {
            Check.due("amountLimb(1)", x.amountLimb(1), false);
            Check.due("clearAmount()", x.clearAmount(), false);
            Check.due("deposit(0)", x.deposit(0), 6);
            Check.due("withdraw(0)", x.withdraw(0), 6);
            Check.due("transfer(0, 1)", x.transfer(0, 1), 6);
            Check.due("part(0, 1, 2)", x.part(0, 1, 2), 6);
            Check.due("commit()", x.commit(), 6);
            Check.due("abort()", x.abort(), false);
            Check.due("balanceSize(0)", x.balanceSize(0), -1);
            Check.due("balanceLimb(0, 0)", x.balanceLimb(0, 0), -1);
            Check.due("totalLimb(0)", x.totalLimb(0), -1);
            Check.due("amount(0)", x.amount(0), -1);
            Check.due("compare(0, 1)", x.compare(0, 1), -2);
            Check.due("write(0)", x.write(0), -1);
            Check.due("octet(0)", Check.octet(x, 0), Check.THROWS);
            Check.due("up", x.count(4), 0);
        }
        Check.due("recover()", stopped.recover(), true);
        Check.due("balance 0", stopped.balanceLimb(0, 0), 8);
    }
}
