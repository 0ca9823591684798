import java.util.NoSuchElementException;

/**
 * A ledger of balances of any size on a disk that may stop at any write.
 * The document's promises are named where a method keeps them.
 */
public final class BigLedger {
    public static final int NONE = -1;

    private static final int MOST_ACCOUNTS = 24;
    private static final int MOST_LIMBS = 20;
    private static final int MOST_ROOM = 25;

    private static final int DONE = 0;
    private static final int NO_ACCOUNT = 1;
    private static final int MORE_THAN_BALANCE = 2;
    private static final int TOO_GREAT = 3;
    private static final int NO_ROOM = 4;
    private static final int NO_PART = 5;
    private static final int DOWN = 6;

    private static final int NOT_COMPARABLE = -2;

    private static final int LIMB_BITS = 31;
    private static final long LIMB_MASK = 0x7fffffffL;

    /** 2^31 has ten decimals, so a number never has more than ten for each limb. */
    private static final int MOST_DIGITS_OF_A_LIMB = 10;

    private final int accounts;
    private final int limbs;
    private final int room;
    private final Disk disk;

    /** PENDING: the numbers of the touched blocks; what stands for the others is stale. */
    private final Natural[] pending;
    /** The set of the blocks that are TOUCHED, block b as bit b: there are 25 at most. */
    private int touched;
    private final Natural amount;
    private boolean up;

    /** Used again by each call that reckons, so that no call makes an object. */
    private final Natural scratch;

    /** OUT, its last digit first: that is the order in which division yields them. */
    private final byte[] outBackwards;
    private int outLength;

    /** Promise 1. */
    public BigLedger(int accounts, int limbs, int room) {
        this.accounts = within(accounts, MOST_ACCOUNTS);
        this.limbs = within(limbs, MOST_LIMBS);
        this.room = within(room, MOST_ROOM);
        int blocks = this.accounts + 1;
        // TOTAL may need a limb more than a balance; so may a sum or a product on its way.
        int width = this.limbs + 1;
        disk = new Disk(blocks, width);
        pending = naturals(blocks, width);
        amount = new Natural(width);
        scratch = new Natural(width);
        outBackwards = new byte[this.limbs * MOST_DIGITS_OF_A_LIMB];
    }

    private static int within(int wanted, int most) {
        return Math.max(1, Math.min(wanted, most));
    }

    private static Natural[] naturals(int howMany, int width) {
        Natural[] row = new Natural[howMany];
        for (int i = 0; i < row.length; i++) {
            row[i] = new Natural(width);
        }
        return row;
    }

    /** Promise 2. */
    public boolean format() {
        loseMemory();
        up = disk.layOut();
        return up;
    }

    /** Promise 3. */
    public boolean amountLimb(int limb) {
        if (!up || limb < 0 || amount.size >= limbs) {
            return false;
        }
        amount.append(limb);
        return true;
    }

    /** Promise 4. */
    public boolean clearAmount() {
        if (!up) {
            return false;
        }
        amount.setZero();
        return true;
    }

    /** Promise 5. */
    public int deposit(int account) {
        if (!up) {
            return DOWN;
        }
        if (!isAccount(account)) {
            return NO_ACCOUNT;
        }
        if (wouldBeTooGreat(account)) {
            return TOO_GREAT;
        }
        if (!hasRoomFor(account, totalBlock())) {
            return NO_ROOM;
        }
        touch(account).increase(amount);
        touch(totalBlock()).increase(amount);
        return DONE;
    }

    /** Promise 6. */
    public int withdraw(int account) {
        if (!up) {
            return DOWN;
        }
        if (!isAccount(account)) {
            return NO_ACCOUNT;
        }
        if (isAmountAbove(account)) {
            return MORE_THAN_BALANCE;
        }
        if (!hasRoomFor(account, totalBlock())) {
            return NO_ROOM;
        }
        touch(account).decrease(amount);
        touch(totalBlock()).decrease(amount);
        return DONE;
    }

    /** Promise 7. */
    public int transfer(int from, int to) {
        if (!up) {
            return DOWN;
        }
        if (!isAccount(from) || !isAccount(to)) {
            return NO_ACCOUNT;
        }
        if (isAmountAbove(from)) {
            return MORE_THAN_BALANCE;
        }
        // An account that pays itself grows at no time, so it can't become too great.
        if (from != to && wouldBeTooGreat(to)) {
            return TOO_GREAT;
        }
        if (!hasRoomFor(from, to)) {
            return NO_ROOM;
        }
        touch(from).decrease(amount);
        touch(to).increase(amount);
        return DONE;
    }

    /** Promise 8. */
    public int part(int account, int p, int q) {
        if (!up) {
            return DOWN;
        }
        if (!isAccount(account)) {
            return NO_ACCOUNT;
        }
        if (p < 0 || p > q || q < 1) {
            return NO_PART;
        }
        amount.setTo(seen(account));
        amount.multiply(p);
        amount.divide(q);
        return DONE;
    }

    /** Promise 9. */
    public int commit() {
        if (!up) {
            return DOWN;
        }
        if (!disk.bringThroughLog(touched, pending)) {
            up = false;
            loseMemory();
            return DOWN;
        }
        dropPending();
        return DONE;
    }

    /** Promise 10. */
    public boolean abort() {
        if (!up) {
            return false;
        }
        dropPending();
        return true;
    }

    /** Promise 11. */
    public int balanceSize(int account) {
        if (!up || !isAccount(account)) {
            return NONE;
        }
        return seen(account).size;
    }

    /** Promise 12. */
    public int balanceLimb(int account, int i) {
        if (!up || !isAccount(account) || i < 0) {
            return NONE;
        }
        return seen(account).limbAt(i);
    }

    /** Promise 13. */
    public int totalLimb(int i) {
        if (!up || i < 0) {
            return NONE;
        }
        return seen(totalBlock()).limbAt(i);
    }

    /** Promise 14. */
    public int amount(int i) {
        if (!up || i < 0) {
            return NONE;
        }
        return amount.limbAt(i);
    }

    /** Promise 15. */
    public int compare(int one, int other) {
        if (!up || !isAccount(one) || !isAccount(other)) {
            return NOT_COMPARABLE;
        }
        return seen(one).standingTo(seen(other));
    }

    /** Promise 16. */
    public void stopAfter(int writes) {
        disk.writesUntilStop = writes < 0 ? NONE : writes;
    }

    /** Promise 17. */
    public boolean recover() {
        loseMemory();
        up = disk.formatted && disk.bringLogHome();
        return up;
    }

    /** Promise 18. */
    public int write(int account) {
        if (!up || !isAccount(account)) {
            return NONE;
        }
        scratch.setTo(seen(account));
        int digits = 0;
        // 0 has a digit too.
        while (digits < outBackwards.length && (digits == 0 || scratch.size > 0)) {
            outBackwards[digits] = (byte) ('0' + scratch.divide(10));
            digits++;
        }
        outLength = digits;
        return outLength;
    }

    /** Promise 19. */
    public int octet(int k) throws NoSuchElementException {
        if (k < 0 || k >= outLength) {
            throw new NoSuchElementException("OUT has no such byte");
        }
        return outBackwards[outLength - 1 - k];
    }

    /** Promise 20. */
    public int count(int what) {
        switch (what) {
            case 0:
                return accounts;
            case 1:
                return limbs;
            case 2:
                return room;
            case 3:
                return disk.writesDone;
            case 4:
                return up ? 1 : 0;
            case 5:
                return Integer.bitCount(touched);
            case 6:
                return disk.writesUntilStop;
            case 7:
                return up ? seen(totalBlock()).size : 0;
            case 8:
                return amount.size;
            default:
                return NONE;
        }
    }

    private boolean isAccount(int account) {
        return account >= 0 && account < accounts;
    }

    /** TOTAL is held as one block more behind those of the accounts. */
    private int totalBlock() {
        return accounts;
    }

    /** Whether block is in a set of blocks. */
    private static boolean has(int set, int block) {
        return (set & 1 << block) != 0;
    }

    private Natural seen(int block) {
        return has(touched, block) ? pending[block] : disk.home[block];
    }

    private Natural touch(int block) {
        if (!has(touched, block)) {
            pending[block].setTo(disk.home[block]);
            touched |= 1 << block;
        }
        return pending[block];
    }

    private boolean hasRoomFor(int one, int other) {
        return Integer.bitCount(touched | 1 << one | 1 << other) <= room;
    }

    private boolean isAmountAbove(int account) {
        return amount.standingTo(seen(account)) > 0;
    }

    private boolean wouldBeTooGreat(int account) {
        scratch.setTo(seen(account));
        scratch.increase(amount);
        return scratch.size > limbs;
    }

    private void dropPending() {
        touched = 0;
    }

    /** OUT is no part of the machine's memory: what has been written out stays (promise 18). */
    private void loseMemory() {
        dropPending();
        amount.setZero();
    }

    /** What is on the disk, and the STOP; each method that writes answers false if the STOP came. */
    private static final class Disk {
        private final Natural[] home;
        private final Natural[] log;
        /** The set of the blocks that are COMMITTED in the log; none: the log is empty. */
        private int committed;
        private boolean formatted;
        private int writesDone;
        private int writesUntilStop;

        Disk(int blocks, int width) {
            home = naturals(blocks, width);
            log = naturals(blocks, width);
            writesUntilStop = NONE;
        }

        boolean layOut() {
            return writeFormatted(false) && writeLogState(0) && clearHomes() && writeFormatted(true);
        }

        boolean bringThroughLog(int blocks, Natural[] values) {
            if (blocks == 0) {
                return true;
            }
            return writeBlocks(log, blocks, values) && writeLogState(blocks) && bringLogHome();
        }

        boolean bringLogHome() {
            if (committed == 0) {
                return true;
            }
            return writeBlocks(home, committed, log) && writeLogState(0);
        }

        /** Each write asks here first, and is done only when the answer is true. */
        private boolean passStop() {
            if (writesUntilStop == 0) {
                writesUntilStop = NONE;
                return false;
            }
            if (writesUntilStop > 0) {
                writesUntilStop--;
            }
            writesDone++;
            return true;
        }

        private boolean writeFormatted(boolean value) {
            if (!passStop()) {
                return false;
            }
            formatted = value;
            return true;
        }

        /** One write tells which blocks the log holds: by it they are COMMITTED all or none. */
        private boolean writeLogState(int blocks) {
            if (!passStop()) {
                return false;
            }
            committed = blocks;
            return true;
        }

        private boolean writeBlocks(Natural[] place, int blocks, Natural[] values) {
            for (int block = 0; block < place.length && block < values.length; block++) {
                if (has(blocks, block)) {
                    if (!passStop()) {
                        return false;
                    }
                    place[block].setTo(values[block]);
                }
            }
            return true;
        }

        private boolean clearHomes() {
            for (int block = 0; block < home.length; block++) {
                if (!passStop()) {
                    return false;
                }
                home[block].setZero();
            }
            return true;
        }
    }

    /**
     * A whole number from 0 on, of a fixed width; all numbers of a ledger have the same one.
     * The limbs from size on are 0.
     */
    private static final class Natural {
        private final int[] limbs;
        private int size;

        Natural(int width) {
            limbs = new int[width];
        }

        int limbAt(int i) {
            return i >= 0 && i < size ? limbs[i] : 0;
        }

        void setZero() {
            for (int i = 0; i < limbs.length; i++) {
                limbs[i] = 0;
            }
            size = 0;
        }

        void setTo(Natural other) {
            for (int i = 0; i < limbs.length; i++) {
                limbs[i] = other.limbAt(i);
            }
            measure();
        }

        /** 2^31 times as great and limb more; the caller knows that it fits. */
        void append(int limb) {
            for (int i = limbs.length - 1; i > 0; i--) {
                limbs[i] = limbs[i - 1];
            }
            limbs[0] = limb;
            measure();
        }

        /** The caller knows that the sum fits. */
        void increase(Natural other) {
            long carry = 0;
            for (int i = 0; i < limbs.length; i++) {
                long sum = carry + limbs[i] + other.limbAt(i);
                limbs[i] = (int) (sum & LIMB_MASK);
                carry = sum >>> LIMB_BITS;
            }
            measure();
        }

        /** The caller knows that other is not greater. */
        void decrease(Natural other) {
            long borrow = 0;
            for (int i = 0; i < limbs.length; i++) {
                long difference = (long) limbs[i] - other.limbAt(i) - borrow;
                limbs[i] = (int) (difference & LIMB_MASK);
                borrow = difference < 0 ? 1 : 0;
            }
            measure();
        }

        /** The caller knows that the product fits. */
        void multiply(int factor) {
            long carry = 0;
            for (int i = 0; i < limbs.length; i++) {
                long product = (long) limbs[i] * factor + carry;
                limbs[i] = (int) (product & LIMB_MASK);
                carry = product >>> LIMB_BITS;
            }
            measure();
        }

        /** Becomes the quotient, cut, and answers the remainder; a divisor below 1 changes nothing. */
        int divide(int divisor) {
            if (divisor < 1) {
                return 0;
            }
            long remainder = 0;
            for (int i = limbs.length - 1; i >= 0; i--) {
                long dividend = (remainder << LIMB_BITS) + limbs[i];
                limbs[i] = (int) (dividend / divisor);
                remainder = dividend % divisor;
            }
            measure();
            return (int) remainder;
        }

        /** -1, 0 or 1. */
        int standingTo(Natural other) {
            for (int i = limbs.length - 1; i >= 0; i--) {
                int difference = Integer.compare(limbs[i], other.limbAt(i));
                if (difference != 0) {
                    return difference;
                }
            }
            return 0;
        }

        private void measure() {
            size = limbs.length;
            while (size > 0 && limbs[size - 1] == 0) {
                size--;
            }
        }
    }
}
