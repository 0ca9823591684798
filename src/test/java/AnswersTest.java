import java.util.function.ToIntFunction;

/** The sentences of '==== 3. ANSWERS' that name a boundary case, each with a test of its own. */
public final class AnswersTest {
    private static final int HIGH = Check.HIGH;

    public static void main(String[] args) {
        downFirst();
        noSuchAccountAheadOfTooMuch();
        noSuchAccountAheadOfTooGreat();
        noSuchAccountAheadOfRoom();
        noSuchAccountAheadOfPart();
        tooMuchAheadOfTooGreat();
        tooMuchAheadOfRoom();
        tooGreatAheadOfRoom();
        roomLast();
        nothingChangedByNoSuchAccount();
        nothingChangedByTooMuch();
        nothingChangedByTooGreat();
        nothingChangedByRoom();
        nothingChangedByPart();
        nothingChangedWhenDown();
        refusedAndThenDone();
        Check.finish();
    }

    // The first of 6, 1, 2, 3, 4

    private static void downFirst() {
        Check.sentence("the first of these: 6 ahead of all others");
        BigLedger stopped = Check.funded(2, 1, 1);
        Check.stop(stopped);
        for (BigLedger x : new BigLedger[] {new BigLedger(2, 1, 1), stopped}) {
            Check.due("deposit, no such", x.deposit(2), 6);
            Check.due("deposit, no ROOM", x.deposit(0), 6);
            Check.due("withdraw, no such", x.withdraw(-1), 6);
            Check.due("withdraw, no ROOM", x.withdraw(0), 6);
            Check.due("transfer, no such", x.transfer(2, -1), 6);
            Check.due("transfer, no ROOM", x.transfer(0, 1), 6);
            Check.due("part, no such", x.part(2, 1, 1), 6);
            Check.due("part, p above q", x.part(0, 2, 1), 6);
            Check.due("part, both", x.part(2, 2, 0), 6);
        }
    }

    /** ROOM is full with account 0 and TOTAL; account 1 has the most there can be, account 2 has 0; the AMOUNT is 1. */
    private static BigLedger fullRoom() {
        BigLedger x = Check.funded(3, 1, 2, 1, HIGH);
        Check.due("deposit(0) of 0", x.deposit(0), 0);
        Check.due("touched", x.count(5), 2);
        Check.setAmount(x, 1);
        return x;
    }

    private static void noSuchAccountAheadOfTooMuch() {
        Check.sentence("the first of these: 1 ahead of 2");
        BigLedger x = Check.formatted(3, 1, 25);
        Check.setAmount(x, 1);
        Check.due("withdraw, no such", x.withdraw(3), 1);
        Check.due("transfer of more, to none such", x.transfer(2, 3), 1);
        Check.due("transfer of more, to none such", x.transfer(2, -1), 1);
        Check.due("transfer, from none such", x.transfer(3, 2), 1);
        Check.due("transfer to itself, no such", x.transfer(3, 3), 1);
        Check.due("that were of more", x.transfer(2, 1), 2);
    }

    private static void noSuchAccountAheadOfTooGreat() {
        Check.sentence("the first of these: 1 ahead of 3");
        BigLedger x = Check.funded(2, 1, 25, HIGH);
        Check.setAmount(x, HIGH);
        Check.due("deposit, no such", x.deposit(2), 1);
        Check.due("transfer from none such to the greatest", x.transfer(2, 0), 1);
        Check.due("transfer from none such to the greatest", x.transfer(-1, 0), 1);
        Check.due("that would be too great", x.deposit(0), 3);
    }

    private static void noSuchAccountAheadOfRoom() {
        Check.sentence("the first of these: 1 ahead of 4");
        BigLedger x = fullRoom();
        Check.due("deposit", x.deposit(3), 1);
        Check.due("withdraw", x.withdraw(3), 1);
        Check.due("transfer, to none such", x.transfer(1, 3), 1);
        Check.due("transfer, from none such", x.transfer(-1, 2), 1);
        Check.due("that had no ROOM", x.deposit(2), 4);
    }

    private static void noSuchAccountAheadOfPart() {
        Check.sentence("the first of these: 1 ahead of 5");
        BigLedger x = Check.formatted(2, 1, 25);
        Check.due("p above q", x.part(2, 2, 1), 1);
        Check.due("p below 0", x.part(-1, -1, 1), 1);
        Check.due("q below 1", x.part(2, 0, 0), 1);
        Check.due("that is no part", x.part(1, 0, 0), 5);
    }

    private static void tooMuchAheadOfTooGreat() {
        Check.sentence("the first of these: 2 ahead of 3");
        BigLedger x = Check.funded(3, 1, 25, 4, HIGH);
        Check.setAmount(x, 5);
        Check.due("transfer of more to the greatest", x.transfer(0, 1), 2);
        Check.due("transfer of more from an empty one", x.transfer(2, 1), 2);
        Check.setAmount(x, 4);
        Check.due("of all", x.transfer(0, 1), 3);
    }

    private static void tooMuchAheadOfRoom() {
        Check.sentence("the first of these: 2 ahead of 4");
        BigLedger x = fullRoom();
        Check.due("withdraw", x.withdraw(2), 2);
        Check.due("transfer", x.transfer(2, 0), 2);
        Check.due("transfer to itself", x.transfer(2, 2), 2);
        Check.due("that had no ROOM", x.withdraw(1), 4);
        BigLedger y = Check.formatted(2, 1, 1);
        Check.setAmount(y, 1);
        Check.due("withdraw, ROOM 1", y.withdraw(0), 2);
        Check.due("transfer, ROOM 1", y.transfer(0, 1), 2);
    }

    private static void tooGreatAheadOfRoom() {
        Check.sentence("the first of these: 3 ahead of 4");
        BigLedger x = fullRoom();
        Check.due("deposit", x.deposit(1), 3);
        Check.due("transfer", x.transfer(0, 1), 3);
        Check.due("that had no ROOM", x.transfer(0, 2), 4);
    }

    private static void roomLast() {
        Check.sentence("the first of these: 4 where no other holds");
        BigLedger x = fullRoom();
        Check.due("deposit(2)", x.deposit(2), 4);
        Check.due("withdraw(1)", x.withdraw(1), 4);
        Check.due("transfer(1, 2)", x.transfer(1, 2), 4);
        Check.due("transfer(0, 2)", x.transfer(0, 2), 4);
        Check.due("transfer(1, 0)", x.transfer(1, 0), 4);
        Check.due("transfer(1, 1)", x.transfer(1, 1), 4);
        Check.setAmount(x, 0);
        Check.due("deposit(2) of 0", x.deposit(2), 4);
        Check.due("withdraw(2) of 0", x.withdraw(2), 4);
        Check.due("transfer(1, 2) of 0", x.transfer(1, 2), 4);
    }

    // With these nothing is changed

    /** The call is refused by this answer, and all that can be asked is as it was before. */
    private static void refused(BigLedger x, String before, String call, ToIntFunction<BigLedger> act, int answer) {
        Check.due(call, act.applyAsInt(x), answer);
        Check.due("what stands behind " + call, Check.state(x), before);
    }

    /** OUT is written, the STOP armed, 3 PENDING to account 2; account 0 has 7, account 1 the most; the AMOUNT is 8. */
    private static BigLedger busy(int room) {
        BigLedger x = Check.funded(4, 1, room, 7, HIGH);
        Check.due("write(0)", x.write(0), 1);
        Check.setAmount(x, 3);
        Check.due("deposit(2)", x.deposit(2), 0);
        Check.setAmount(x, 8);
        x.stopAfter(50);
        return x;
    }

    /** Only account 2 and TOTAL go to the disk, 2 * 2 + 2 writes. */
    private static void onlyTheDoneIsCommitted(BigLedger x) {
        int writes = x.count(3);
        Check.due("commit()", x.commit(), 0);
        Check.due("writes", x.count(3), writes + 6);
        Check.due("recover()", x.recover(), true);
        Check.due("BALANCE 0", x.balanceLimb(0, 0), 7);
        Check.due("BALANCE 1", x.balanceLimb(1, 0), HIGH);
        Check.due("BALANCE 2", x.balanceLimb(2, 0), 3);
        Check.due("BALANCE 3", x.balanceLimb(3, 0), 0);
        Check.due("TOTAL", Check.total(x).longValue(), HIGH + 10L);
    }

    private static void nothingChangedByNoSuchAccount() {
        Check.sentence("With these nothing is changed: 1");
        BigLedger x = busy(25);
        String before = Check.state(x);
        refused(x, before, "deposit(4)", y -> y.deposit(4), 1);
        refused(x, before, "withdraw(-1)", y -> y.withdraw(-1), 1);
        refused(x, before, "transfer(1, 4)", y -> y.transfer(1, 4), 1);
        refused(x, before, "transfer(4, 0)", y -> y.transfer(4, 0), 1);
        refused(x, before, "part(4, 1, 1)", y -> y.part(4, 1, 1), 1);
        onlyTheDoneIsCommitted(x);
    }

    private static void nothingChangedByTooMuch() {
        Check.sentence("With these nothing is changed: 2");
        BigLedger x = busy(25);
        String before = Check.state(x);
        refused(x, before, "withdraw(0)", y -> y.withdraw(0), 2);
        refused(x, before, "withdraw(2)", y -> y.withdraw(2), 2);
        refused(x, before, "transfer(0, 3)", y -> y.transfer(0, 3), 2);
        refused(x, before, "transfer(2, 0)", y -> y.transfer(2, 0), 2);
        refused(x, before, "transfer(3, 3)", y -> y.transfer(3, 3), 2);
        onlyTheDoneIsCommitted(x);
    }

    private static void nothingChangedByTooGreat() {
        Check.sentence("With these nothing is changed: 3");
        BigLedger x = busy(25);
        String before = Check.state(x);
        refused(x, before, "deposit(1)", y -> y.deposit(1), 3);
        Check.setAmount(x, 1);
        before = Check.state(x);
        refused(x, before, "deposit(1) of 1", y -> y.deposit(1), 3);
        refused(x, before, "transfer(0, 1)", y -> y.transfer(0, 1), 3);
        refused(x, before, "transfer(2, 1)", y -> y.transfer(2, 1), 3);
        onlyTheDoneIsCommitted(x);
    }

    private static void nothingChangedByRoom() {
        Check.sentence("With these nothing is changed: 4");
        BigLedger x = busy(2);
        Check.setAmount(x, 3);
        String before = Check.state(x);
        refused(x, before, "deposit(0)", y -> y.deposit(0), 4);
        refused(x, before, "withdraw(0)", y -> y.withdraw(0), 4);
        refused(x, before, "transfer(0, 3)", y -> y.transfer(0, 3), 4);
        refused(x, before, "transfer(0, 2)", y -> y.transfer(0, 2), 4);
        refused(x, before, "transfer(2, 0)", y -> y.transfer(2, 0), 4);
        refused(x, before, "transfer(0, 0)", y -> y.transfer(0, 0), 4);
        onlyTheDoneIsCommitted(x);
    }

    private static void nothingChangedByPart() {
        Check.sentence("With these nothing is changed: 5");
        BigLedger x = busy(25);
        String before = Check.state(x);
        refused(x, before, "part(0, -1, 2)", y -> y.part(0, -1, 2), 5);
        refused(x, before, "part(1, 3, 2)", y -> y.part(1, 3, 2), 5);
        refused(x, before, "part(2, 0, 0)", y -> y.part(2, 0, 0), 5);
        onlyTheDoneIsCommitted(x);
    }

    private static void nothingChangedWhenDown() {
        Check.sentence("With these nothing is changed: 6");
        BigLedger x = busy(25);
        Check.stop(x);
        x.stopAfter(9);
        String before = Check.state(x);
        refused(x, before, "deposit(0)", y -> y.deposit(0), 6);
        refused(x, before, "withdraw(0)", y -> y.withdraw(0), 6);
        refused(x, before, "transfer(0, 3)", y -> y.transfer(0, 3), 6);
        refused(x, before, "part(0, 1, 1)", y -> y.part(0, 1, 1), 6);
        refused(x, before, "commit()", y -> y.commit(), 6);
        refused(x, before, "amountLimb(1)", y -> y.amountLimb(1) ? 1 : 0, 0);
        refused(x, before, "clearAmount()", y -> y.clearAmount() ? 1 : 0, 0);
        refused(x, before, "abort()", y -> y.abort() ? 1 : 0, 0);
        refused(x, before, "write(1)", y -> y.write(1), -1);
        Check.due("OUT", Check.out(x), "7");
        Check.due("recover()", x.recover(), true);
        Check.due("limbs of the AMOUNT", x.count(8), 0);
        Check.due("touched", x.count(5), 0);
        Check.due("BALANCE 0", x.balanceLimb(0, 0), 7);
        Check.due("BALANCE 1", x.balanceLimb(1, 0), HIGH);
        Check.due("BALANCE 2", x.balanceLimb(2, 0), 0);
    }

    private static void refusedAndThenDone() {
        Check.sentence("With these nothing is changed: what was refused is done when its hindrance is gone");
        BigLedger x = fullRoom();
        Check.due("withdraw(1), no ROOM", x.withdraw(1), 4);
        Check.due("abort()", x.abort(), true);
        Check.due("withdraw(1)", x.withdraw(1), 0);
        Check.due("BALANCE 1", x.balanceLimb(1, 0), HIGH - 1);
        Check.due("TOTAL", Check.total(x).longValue(), (long) HIGH);
        Check.due("deposit(1)", x.deposit(1), 0);
        Check.due("deposit(1), too great", x.deposit(1), 3);
        Check.due("BALANCE 1", x.balanceLimb(1, 0), HIGH);
    }
}
