import java.math.BigInteger;
import java.util.Random;
import java.util.TreeMap;

/** Runs of 512 calls, the same ones each time, whose every answer is compared with that of a plain model. */
public final class ModelTest {
    private static final int RUNS = 4000;
    private static final int CALLS = 512;

    /**
     * The document's words in whole numbers. It has no blocks and no log: it reckons how many writes an act
     * asks for, and what holds when fewer are done.
     */
    private static final class Model {
        private static final int TOTAL = -1;

        final int accounts;
        final int limbs;
        final int room;
        boolean up;
        boolean formatted;
        /** What is COMMITTED, whether it is home or not, and how many of it recover() must bring home. */
        BigInteger[] held;
        int notHome;
        TreeMap<Integer, BigInteger> pending = new TreeMap<>();
        BigInteger amount = BigInteger.ZERO;
        int writes;
        int stop = -1;
        String out = "";

        Model(int accounts, int limbs, int room) {
            this.accounts = Math.min(Math.max(accounts, 1), 24);
            this.limbs = Math.min(Math.max(limbs, 1), 20);
            this.room = Math.min(Math.max(room, 1), 25);
        }

        /** How many of so many writes are done; the machine is DOWN if not all. */
        int writesDone(int wanted) {
            if (stop < 0 || stop >= wanted) {
                writes += wanted;
                stop = stop < 0 ? -1 : stop - wanted;
                return wanted;
            }
            int done = stop;
            writes += done;
            stop = -1;
            up = false;
            forget();
            return done;
        }

        void forget() {
            pending.clear();
            amount = BigInteger.ZERO;
        }

        boolean known(int account) {
            return account >= 0 && account < accounts;
        }

        BigInteger balance(int account) {
            return pending.getOrDefault(account, held[account]);
        }

        BigInteger total() {
            BigInteger sum = BigInteger.ZERO;
            for (int account = 0; account < accounts; account++) {
                sum = sum.add(balance(account));
            }
            return sum;
        }

        int touchedWith(int one, int other) {
            TreeMap<Integer, BigInteger> copy = new TreeMap<>(pending);
            copy.put(one, BigInteger.ZERO);
            copy.put(other, BigInteger.ZERO);
            return copy.size();
        }

        boolean fits(BigInteger value) {
            return value.bitLength() <= 31 * limbs;
        }

        boolean format() {
            forget();
            int done = writesDone(accounts + 4);
            if (done >= 1) {
                formatted = done == accounts + 4;
            }
            if (formatted && done > 0) {
                held = new BigInteger[accounts];
                java.util.Arrays.fill(held, BigInteger.ZERO);
                notHome = 0;
                up = true;
                return true;
            }
            return false;
        }

        int deposit(int account) {
            if (!up) return 6;
            if (!known(account)) return 1;
            BigInteger sum = balance(account).add(amount);
            if (!fits(sum)) return 3;
            if (touchedWith(account, TOTAL) > room) return 4;
            pending.put(account, sum);
            pending.put(TOTAL, BigInteger.ZERO);
            return 0;
        }

        int withdraw(int account) {
            if (!up) return 6;
            if (!known(account)) return 1;
            if (balance(account).compareTo(amount) < 0) return 2;
            if (touchedWith(account, TOTAL) > room) return 4;
            pending.put(account, balance(account).subtract(amount));
            pending.put(TOTAL, BigInteger.ZERO);
            return 0;
        }

        int transfer(int from, int to) {
            if (!up) return 6;
            if (!known(from) || !known(to)) return 1;
            if (balance(from).compareTo(amount) < 0) return 2;
            if (from != to && !fits(balance(to).add(amount))) return 3;
            if (touchedWith(from, to) > room) return 4;
            pending.put(from, balance(from).subtract(amount));
            pending.put(to, balance(to).add(amount));
            return 0;
        }

        int part(int account, int p, int q) {
            if (!up) return 6;
            if (!known(account)) return 1;
            if (p < 0 || p > q || q < 1) return 5;
            amount = balance(account).multiply(BigInteger.valueOf(p)).divide(BigInteger.valueOf(q));
            return 0;
        }

        int commit() {
            if (!up) return 6;
            int k = pending.size();
            if (k == 0) return 0;
            BigInteger[] next = held.clone();
            for (int account = 0; account < accounts; account++) {
                next[account] = balance(account);
            }
            int done = writesDone(2 * k + 2);
            if (done > k) {
                held = next;
                notHome = done == 2 * k + 2 ? 0 : k;
            }
            pending.clear();
            return done == 2 * k + 2 ? 0 : 6;
        }

        boolean recover() {
            forget();
            up = formatted;
            if (formatted && notHome > 0 && writesDone(notHome + 1) == notHome + 1) {
                notHome = 0;
            }
            return up;
        }

        boolean amountLimb(int limb) {
            if (!up || limb < 0) return false;
            BigInteger next = amount.shiftLeft(31).add(BigInteger.valueOf(limb));
            if (!fits(next)) return false;
            amount = next;
            return true;
        }

        boolean clearAmount() {
            if (up) amount = BigInteger.ZERO;
            return up;
        }

        boolean abort() {
            if (up) pending.clear();
            return up;
        }

        static int size(BigInteger value) {
            return (value.bitLength() + 30) / 31;
        }

        static int limb(BigInteger value, int i) {
            return i >= 30 ? 0 : Check.limb(value, i);
        }

        int balanceSize(int account) {
            return up && known(account) ? size(balance(account)) : -1;
        }

        int balanceLimb(int account, int i) {
            return up && known(account) && i >= 0 ? limb(balance(account), i) : -1;
        }

        int totalLimb(int i) {
            return up && i >= 0 ? limb(total(), i) : -1;
        }

        int amount(int i) {
            return up && i >= 0 ? limb(amount, i) : -1;
        }

        int compare(int one, int other) {
            return up && known(one) && known(other) ? balance(one).compareTo(balance(other)) : -2;
        }

        int write(int account) {
            if (!up || !known(account)) return -1;
            out = balance(account).toString();
            return out.length();
        }

        int octet(int k) {
            return k >= 0 && k < out.length() ? out.charAt(k) : Check.THROWS;
        }

        int count(int what) {
            int[] answers = {accounts, limbs, room, writes, up ? 1 : 0, pending.size(), stop,
                up ? size(total()) : 0, size(amount)};
            return what >= 0 && what < answers.length ? answers[what] : -1;
        }
    }

    private final Random random;
    private final Model m;
    private final BigLedger x;
    private final String run;

    private ModelTest(int run) {
        random = new Random(run);
        boolean small = run % 4 != 0;
        int accounts = random.nextInt(small ? 5 : 28) - 1;
        int limbs = random.nextInt(small ? 4 : 24) - 1;
        int room = random.nextInt(small ? 8 : 30) - 1;
        m = new Model(accounts, limbs, room);
        x = new BigLedger(accounts, limbs, room);
        this.run = "run " + run + ": ";
    }

    public static void main(String[] args) {
        for (int run = 0; run < RUNS && Check.wrongSoFar() == 0; run++) {
            new ModelTest(run).play();
        }
        Check.finish();
    }

    private void play() {
        for (int call = 0; call < CALLS && Check.wrongSoFar() == 0; call++) {
            int kind = random.nextInt(100);
            if (kind < 55) {
                act(kind);
            } else if (kind < 72) {
                turn(kind);
            } else {
                ask(kind);
            }
        }
    }

    private void due(String call, long got, long want) {
        Check.due(run + call, got, want);
    }

    private void due(String call, boolean got, boolean want) {
        Check.due(run + call, got, want);
    }

    private int anyNumber() {
        int[] odd = {Integer.MIN_VALUE, Integer.MAX_VALUE, -1, 0, 1, 1 << 30, Integer.MAX_VALUE - 1, 31, 32};
        return random.nextInt(3) == 0 ? random.nextInt() : odd[random.nextInt(odd.length)];
    }

    private int account() {
        int kind = random.nextInt(40);
        return kind == 0 ? anyNumber() : kind == 1 ? m.accounts : random.nextInt(m.accounts);
    }

    private int limbIndex() {
        return random.nextInt(20) == 0 ? anyNumber() : random.nextInt(m.limbs + 3) - 1;
    }

    private void act(int kind) {
        int a = account();
        int b = random.nextInt(6) == 0 ? a : account();
        if (kind < 12) {
            due("deposit(" + a + ")", x.deposit(a), m.deposit(a));
        } else if (kind < 20) {
            due("withdraw(" + a + ")", x.withdraw(a), m.withdraw(a));
        } else if (kind < 30) {
            due("transfer(" + a + ", " + b + ")", x.transfer(a, b), m.transfer(a, b));
        } else if (kind < 38) {
            int q = random.nextInt(3) == 0 ? anyNumber() : 1 + random.nextInt(1000);
            int p = random.nextInt(5) == 0 ? anyNumber() : q < 1 ? 0 : random.nextInt(q);
            due("part(" + a + ", " + p + ", " + q + ")", x.part(a, p, q), m.part(a, p, q));
        } else if (kind < 51) {
            int limb = random.nextInt(3) == 0 ? anyNumber() : random.nextInt(Integer.MAX_VALUE);
            due("amountLimb(" + limb + ")", x.amountLimb(limb), m.amountLimb(limb));
        } else {
            due("clearAmount()", x.clearAmount(), m.clearAmount());
        }
    }

    private void turn(int kind) {
        if (kind < 61) {
            due("commit()", x.commit(), m.commit());
        } else if (kind < 62) {
            due("abort()", x.abort(), m.abort());
        } else if (kind < 66) {
            due("recover()", x.recover(), m.recover());
        } else if (kind < 68) {
            if (!m.formatted || random.nextInt(6) == 0) {
                due("format()", x.format(), m.format());
            }
        } else {
            int writes = random.nextInt(8) == 0 ? anyNumber() : random.nextInt(2 * m.accounts + 8) - 2;
            x.stopAfter(writes);
            m.stop = Math.max(writes, -1);
        }
    }

    private void ask(int kind) {
        int a = account();
        int i = limbIndex();
        if (kind < 75) {
            due("balanceSize(" + a + ")", x.balanceSize(a), m.balanceSize(a));
        } else if (kind < 79) {
            due("balanceLimb(" + a + ", " + i + ")", x.balanceLimb(a, i), m.balanceLimb(a, i));
        } else if (kind < 82) {
            due("totalLimb(" + i + ")", x.totalLimb(i), m.totalLimb(i));
        } else if (kind < 85) {
            due("amount(" + i + ")", x.amount(i), m.amount(i));
        } else if (kind < 88) {
            int b = account();
            due("compare(" + a + ", " + b + ")", x.compare(a, b), m.compare(a, b));
        } else if (kind < 90) {
            due("write(" + a + ")", x.write(a), m.write(a));
        } else if (kind < 94) {
            int k = random.nextInt(8) == 0 ? anyNumber() : random.nextInt(m.out.length() + 2) - 1;
            due("octet(" + k + ")", Check.octet(x, k), m.octet(k));
        } else {
            int what = random.nextInt(20) == 0 ? anyNumber() : random.nextInt(11) - 1;
            due("count(" + what + ")", x.count(what), m.count(what));
        }
    }
}
