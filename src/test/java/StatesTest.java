import java.util.ArrayDeque;
import java.util.ArrayList;
import java.util.Arrays;
import java.util.HashSet;
import java.util.List;
import java.util.Set;
import java.util.TreeMap;
import java.util.function.ToIntFunction;

/**
 * Small ledgers: from each state that few calls reach, each call of a list, with its answer and all that can be asked
 * behind it. What is due comes from a machine that writes block by block, as '==== 2. WRITES' tells it; the model of
 * ModelTest has no blocks, so that the two are not wrong in the same way.
 */
public final class StatesTest {
    private static final int PLACES = 20000;
    private static final int HIGH = Check.HIGH;

    /** The write at which the STOP came was not done. */
    private static final class Stopped extends RuntimeException {
        private static final long serialVersionUID = 1;
    }

    /** The document's machine for balances of one limb; TOTAL is the block behind those of the accounts. */
    private static final class Machine {
        final int accounts;
        final int room;
        final long[] home;
        boolean formatted;
        boolean committed;
        TreeMap<Integer, Long> log = new TreeMap<>();
        int writes;
        int stop = -1;

        boolean up;
        TreeMap<Integer, Long> pending = new TreeMap<>();
        long amount;
        String out = "";

        Machine(int accounts, int room) {
            this.accounts = accounts;
            this.room = room;
            home = new long[accounts + 1];
        }

        Machine copy() {
            Machine other = new Machine(accounts, room);
            System.arraycopy(home, 0, other.home, 0, home.length);
            other.formatted = formatted;
            other.committed = committed;
            other.log = new TreeMap<>(log);
            other.writes = writes;
            other.stop = stop;
            other.up = up;
            other.pending = new TreeMap<>(pending);
            other.amount = amount;
            other.out = out;
            return other;
        }

        /** All but how many writes were done: two states that differ in it alone are one. */
        String key() {
            return Arrays.toString(home) + formatted + committed + log + stop + up + pending + amount + ' ' + out;
        }

        void write(Runnable change) {
            if (stop == 0) {
                throw new Stopped();
            }
            stop = stop < 0 ? -1 : stop - 1;
            writes++;
            change.run();
        }

        /** Whether all writes of an act were done; if not, the machine is DOWN. */
        boolean passes(Runnable act) {
            try {
                act.run();
                return true;
            } catch (Stopped e) {
                stop = -1;
                start(false);
                return false;
            }
        }

        void start(boolean isUp) {
            up = isUp;
            pending.clear();
            amount = 0;
        }

        int format() {
            boolean done = passes(() -> {
                write(() -> formatted = false);
                write(() -> committed = false);
                for (int i = 0; i <= accounts; i++) {
                    int block = i;
                    write(() -> home[block] = 0);
                }
                write(() -> formatted = true);
            });
            start(done);
            return done ? 1 : 0;
        }

        void bringHome() {
            log.forEach((block, value) -> write(() -> home[block] = value));
            write(() -> committed = false);
        }

        int commit() {
            if (!up) return 6;
            if (pending.isEmpty()) return 0;
            // A log that is not COMMITTED is empty, whatever blocks an earlier stop left there.
            log.clear();
            boolean done = passes(() -> {
                pending.forEach((block, value) -> write(() -> log.put(block, value)));
                write(() -> committed = true);
                bringHome();
            });
            pending.clear();
            return done ? 0 : 6;
        }

        int recover() {
            boolean done = formatted && (!committed || passes(this::bringHome));
            start(done);
            return done ? 1 : 0;
        }

        int abort() {
            if (up) pending.clear();
            return up ? 1 : 0;
        }

        long seen(int block) {
            return pending.containsKey(block) ? pending.get(block) : home[block];
        }

        boolean known(int account) {
            return account >= 0 && account < accounts;
        }

        /** What stands if the act is done; it is done if it fits in ROOM. */
        int take(TreeMap<Integer, Long> next) {
            if (next.size() > room) return 4;
            pending = next;
            return 0;
        }

        int change(int account, long by) {
            if (!up) return 6;
            if (!known(account)) return 1;
            long balance = seen(account) + by;
            if (balance < 0) return 2;
            if (balance > HIGH) return 3;
            TreeMap<Integer, Long> next = new TreeMap<>(pending);
            next.put(account, balance);
            next.put(accounts, seen(accounts) + by);
            return take(next);
        }

        int transfer(int from, int to) {
            if (!up) return 6;
            if (!known(from) || !known(to)) return 1;
            if (amount > seen(from)) return 2;
            long moved = from == to ? 0 : amount;
            if (seen(to) + moved > HIGH) return 3;
            TreeMap<Integer, Long> next = new TreeMap<>(pending);
            next.put(from, seen(from) - moved);
            next.put(to, seen(to) + moved);
            return take(next);
        }

        int part(int account, int p, int q) {
            if (!up) return 6;
            if (!known(account)) return 1;
            if (p < 0 || p > q || q < 1) return 5;
            amount = seen(account) * p / q;
            return 0;
        }

        int amountLimb(int limb) {
            if (!up || limb < 0 || amount > 0) return 0;
            amount = limb;
            return 1;
        }

        int clearAmount() {
            if (up) amount = 0;
            return up ? 1 : 0;
        }

        int stopAfter(int count) {
            stop = Math.max(count, -1);
            return 0;
        }

        int write(int account) {
            if (!up || !known(account)) return -1;
            out = Long.toString(seen(account));
            return out.length();
        }

        static int size(long value) {
            return value == 0 ? 0 : value <= HIGH ? 1 : 2;
        }

        /** As Check.state() asks it of a ledger. */
        String state() {
            StringBuilder text = new StringBuilder("counts " + accounts + " 1 " + room + ' ' + writes);
            long total = up ? seen(accounts) : 0;
            text.append(up ? " 1 " : " 0 ").append(pending.size()).append(' ').append(stop);
            text.append(' ').append(size(total)).append(' ').append(size(amount)).append(", balances");
            for (int account = 0; account < accounts; account++) {
                text.append(up ? " " + size(seen(account)) + ':' + seen(account) : " -1:0");
            }
            text.append(", TOTAL ").append(total).append(", AMOUNT ").append(amount);
            text.append(' ').append(up ? amount : -1).append(", OUT ").append(out);
            return text.toString();
        }
    }

    /** One call, on the ledger and on the machine. */
    private static final class Call {
        final String name;
        final ToIntFunction<BigLedger> ledger;
        final ToIntFunction<Machine> machine;

        Call(String name, ToIntFunction<BigLedger> ledger, ToIntFunction<Machine> machine) {
            this.name = name;
            this.ledger = ledger;
            this.machine = machine;
        }
    }

    /**
     * A state, the one it came from, and the calls that led there. One state that comes from two others is two places,
     * as a ledger may carry from the former what the machine does not: a log, say, that format() did not empty.
     */
    private static final class Place {
        final Machine machine;
        final List<Call> calls;
        final String state;
        final String before;

        Place(Machine machine, List<Call> calls, Place from) {
            this.machine = machine;
            this.calls = calls;
            state = machine.key();
            before = from == null ? "" : from.state.equals(state) ? from.before : from.state;
        }

        String key() {
            return before + " -> " + state;
        }
    }

    private static final List<Call> CALLS = calls();

    private static List<Call> calls() {
        List<Call> all = new ArrayList<>();
        all.add(new Call("format()", x -> x.format() ? 1 : 0, Machine::format));
        all.add(new Call("recover()", x -> x.recover() ? 1 : 0, Machine::recover));
        all.add(new Call("commit()", BigLedger::commit, Machine::commit));
        all.add(new Call("abort()", x -> x.abort() ? 1 : 0, Machine::abort));
        all.add(new Call("clearAmount()", x -> x.clearAmount() ? 1 : 0, Machine::clearAmount));
        all.add(new Call("part(0, 1, 2)", x -> x.part(0, 1, 2), m -> m.part(0, 1, 2)));
        all.add(new Call("part(0, 2, 1)", x -> x.part(0, 2, 1), m -> m.part(0, 2, 1)));
        for (int limb : new int[] {-1, 3, HIGH}) {
            all.add(new Call("amountLimb(" + limb + ")", x -> x.amountLimb(limb) ? 1 : 0, m -> m.amountLimb(limb)));
        }
        for (int writes : new int[] {-1, 0, 1, 3, 5}) {
            all.add(new Call("stopAfter(" + writes + ")", x -> stopAfter(x, writes), m -> m.stopAfter(writes)));
        }
        for (int account : new int[] {0, 1, 2}) {
            all.add(new Call("deposit(" + account + ")", x -> x.deposit(account), m -> m.change(account, m.amount)));
            all.add(new Call("withdraw(" + account + ")", x -> x.withdraw(account), m -> m.change(account, -m.amount)));
            all.add(new Call("transfer(0, " + account + ")", x -> x.transfer(0, account), m -> m.transfer(0, account)));
            all.add(new Call("transfer(" + account + ", 0)", x -> x.transfer(account, 0), m -> m.transfer(account, 0)));
            all.add(new Call("write(" + account + ")", x -> x.write(account), m -> m.write(account)));
        }
        return all;
    }

    private static int stopAfter(BigLedger x, int writes) {
        x.stopAfter(writes);
        return 0;
    }

    public static void main(String[] args) {
        for (int accounts = 1; accounts <= 2; accounts++) {
            for (int room = 1; room <= accounts + 1; room++) {
                Check.sentence("Each call in the states of " + accounts + " ACCOUNTS, ROOM " + room);
                walk(accounts, room);
            }
        }
        Check.finish();
    }

    private static void walk(int accounts, int room) {
        Set<String> known = new HashSet<>();
        ArrayDeque<Place> next = new ArrayDeque<>();
        next.add(new Place(new Machine(accounts, room), List.of(), null));
        for (int places = 0; places < PLACES && !next.isEmpty() && Check.wrongSoFar() == 0; places++) {
            Place place = next.remove();
            for (Call call : CALLS) {
                Place behind = step(place, call);
                if (known.add(behind.key())) {
                    next.add(behind);
                }
            }
        }
    }

    private static Place step(Place place, Call call) {
        Machine machine = place.machine.copy();
        BigLedger x = new BigLedger(machine.accounts, 1, machine.room);
        StringBuilder run = new StringBuilder();
        for (Call before : place.calls) {
            before.ledger.applyAsInt(x);
            run.append(before.name).append(", ");
        }
        run.append(call.name);
        Check.due(run.toString(), call.ledger.applyAsInt(x), call.machine.applyAsInt(machine));
        Check.due("what stands behind " + run, Check.state(x), machine.state());
        List<Call> calls = new ArrayList<>(place.calls);
        calls.add(call);
        return new Place(machine, calls, place);
    }
}
