import java.util.ArrayList;
import java.util.List;

/**
 * Calls that throw: which exception comes first, and that nothing has changed. Each refused call is
 * made on one of two equal offices; then both get the same later calls, which must answer alike.
 */
final class RefusedCallsTest {
    private static final String TERMS = "Terms";
    private static final String UNCHANGED = "A call that throws an exception changes nothing";
    private static final String FIRST = "if several exceptions apply, the one that its @throws lines name "
            + "first is thrown.";
    private static final String I = "IndexOutOfBoundsException";
    private static final String A = "IllegalArgumentException";
    private static final String S = "IllegalStateException";
    private static final int MEMBERS = 16;
    private static final int BRANCHES = 4;

    /** A call on an office. */
    private interface Call {
        Object on(UnionOffice office);
    }

    /** What makes an office in the state in which calls are refused. */
    private interface State {
        UnionOffice make();
    }

    private final Check check = new Check();

    public static void main(String[] arguments) {
        RefusedCallsTest test = new RefusedCallsTest();
        test.check.sentence(TERMS, UNCHANGED);
        test.settingsAndMembers();
        test.payments();
        test.ballotsAndStrikes();
        test.behindAStrike();
        test.daysAndFolding();
        test.lastDays();
        test.fullUnion();
        test.asking();
        test.check.sentence(TERMS, FIRST);
        test.severalExceptions();
        test.check.end("RefusedCallsTest");
    }

    // ---- the offices

    /**
     * Day 95. Members 0, 1, 2 (on leave) and 9 (left) are in branch 0, which is on strike; 3, 4, 5 in
     * branch 1, in whose ballot 3 and 4 have voted; 6, 7 in branch 2, which has won a ballot; 8 in
     * branch 3, which has lost one. Members 1, 5, 7 and 8 have not the standing; month 0 is
     * folded.
     */
    private static UnionOffice busy() {
        UnionOffice office = new UnionOffice();
        office.setDues(1, 2500);
        office.setStrikePay(70);
        int[] homes = {0, 0, 0, 1, 1, 1, 2, 2, 3, 0};
        for (int member = 0; member < homes.length; member++) {
            office.join(homes[member], member % 3);
        }
        office.leave(2, true);
        office.advance(30);
        office.pay(0, 1500);
        office.pay(3, 9000);
        office.pay(4, 2500);
        office.pay(6, 1000);
        office.quit(9);
        office.fold(0);
        office.open(0);
        Offices.voteAll(office, 0, 2, true);
        office.close(0);
        office.strike(0, true);
        Offices.ballot(office, 2, 6, true);
        Offices.ballot(office, 3, 8, false);
        office.advance(65);
        office.open(1);
        office.vote(3, true);
        office.vote(4, false);
        return office;
    }

    /** Day 20: branch 0 has been on strike, branch 1 has won a ballot and has the next one. */
    private static UnionOffice afterStrike() {
        UnionOffice office = Offices.with(2);
        office.join(1, 0);
        office.join(1, 0);
        office.advance(20);
        Offices.callOut(office, 0, 0);
        office.strike(0, false);
        Offices.ballot(office, 1, 2, true);
        office.open(1);
        office.vote(3, true);
        return office;
    }

    /** Day 1790, 16 members, one of whom has left. */
    private static UnionOffice late() {
        UnionOffice office = Offices.with(MEMBERS, 1790);
        office.quit(7);
        office.pay(0, 59000);
        return office;
    }

    // ---- the comparison

    private void refused(String what, String kind, State state, Call call) {
        UnionOffice asked = state.make();
        UnionOffice twin = state.make();
        check.same(what, answer(asked, call), kind);
        check.same(what + ", again", answer(asked, call), kind);
        check.same(what + ": later calls", later(asked), later(twin));
    }

    private static Object answer(UnionOffice office, Call call) {
        List<Object> answers = new ArrayList<>();
        String kind = Check.kindThrownBy(() -> answers.add(call.on(office)));
        return answers.isEmpty() ? kind : answers.get(0);
    }

    /** Makes calls that show all that an office holds, and tells their answers. */
    private static String later(UnionOffice office) {
        List<String> told = new ArrayList<>();
        tellAll(told, office);
        for (int member = 0; member <= MEMBERS; member++) {
            int asked = member;
            tell(told, office, "vote " + member, o -> o.vote(asked, true));
        }
        for (int branch = 0; branch < BRANCHES; branch++) {
            tellBallotAndStrike(told, office, branch);
        }
        tell(told, office, "advance", o -> o.advance(1));
        for (int band = 0; band < 3; band++) {
            int asked = band;
            tell(told, office, "dues " + band, o -> o.setDues(asked, 51 + asked));
        }
        tell(told, office, "strike pay", o -> o.setStrikePay(61));
        for (int member = 0; member <= MEMBERS; member++) {
            int asked = member;
            tell(told, office, "leave " + member, o -> o.leave(asked, asked % 4 == 0));
            tell(told, office, "pay " + member, o -> o.pay(asked, 333));
        }
        tell(told, office, "join", o -> o.join(1, 1));
        tell(told, office, "advance", o -> o.advance(30));
        tellAll(told, office);
        tell(told, office, "fold", o -> o.fold(office.day() / 30 - 1));
        return told.toString();
    }

    private static void tellBallotAndStrike(List<String> told, UnionOffice office, int branch) {
        tell(told, office, "close " + branch, o -> o.close(branch));
        tell(told, office, "strike " + branch, o -> struck(o, branch, true));
        tell(told, office, "open " + branch, o -> o.open(branch));
        tell(told, office, "close " + branch, o -> o.close(branch));
        tell(told, office, "end of strike " + branch, o -> struck(o, branch, false));
        tell(told, office, "strike again " + branch, o -> struck(o, branch, true));
    }

    private static void tellAll(List<String> told, UnionOffice office) {
        int month = office.day() / 30 - 1;
        tell(told, office, "day", UnionOffice::day);
        tell(told, office, "fund", UnionOffice::fund);
        for (int member = 0; member <= MEMBERS; member++) {
            int asked = member;
            tell(told, office, "owed " + member, o -> o.owed(asked));
            tell(told, office, "credit " + member, o -> o.credit(asked));
            tell(told, office, "standing " + member, o -> o.hasStanding(asked));
            tell(told, office, "strike pay " + member, o -> o.strikePay(asked));
            tell(told, office, "laid " + member, o -> o.laid(asked, month));
        }
        tell(told, office, "laid, month 0", o -> o.laid(0, 0));
        tell(told, office, "laid, month 1", o -> o.laid(0, 1));
        for (int branch = 0; branch < BRANCHES; branch++) {
            int asked = branch;
            tell(told, office, "delegates " + branch, o -> o.delegates(asked));
            tell(told, office, "out " + branch, o -> o.isOut(asked));
            tell(told, office, "laidFor " + branch, o -> o.laidFor(asked, 0));
            tell(told, office, "laidFor " + branch, o -> o.laidFor(asked, month));
        }
    }

    private static void tell(List<String> told, UnionOffice office, String what, Call call) {
        told.add(what + " " + answer(office, call));
    }

    private static Object moved(UnionOffice office, int member, int branch, int band) {
        office.move(member, branch, band);
        return "moved";
    }

    private static Object struck(UnionOffice office, int branch, boolean isOut) {
        office.strike(branch, isOut);
        return "struck";
    }

    // ---- the calls

    private void settingsAndMembers() {
        State busy = RefusedCallsTest::busy;
        refused("dues of band -1", I, busy, o -> o.setDues(-1, 7));
        refused("dues of band 3", I, busy, o -> o.setDues(3, 7));
        refused("dues -1", A, busy, o -> o.setDues(0, -1));
        refused("dues 100001", A, busy, o -> o.setDues(2, 100001));
        refused("strike pay -1", A, busy, o -> o.setStrikePay(-1));
        refused("strike pay 100001", A, busy, o -> o.setStrikePay(100001));
        refused("join branch -1", I, busy, o -> o.join(-1, 0));
        refused("join branch 4", I, busy, o -> o.join(4, 0));
        refused("join band -1", I, busy, o -> o.join(0, -1));
        refused("join band 3", I, busy, o -> o.join(0, 3));
        refused("move of -1", I, busy, o -> moved(o, -1, 1, 1));
        refused("move of 10", I, busy, o -> moved(o, 10, 1, 1));
        refused("move to branch -1", I, busy, o -> moved(o, 0, -1, 1));
        refused("move to branch 4", I, busy, o -> moved(o, 0, 4, 1));
        refused("move to band -1", I, busy, o -> moved(o, 0, 1, -1));
        refused("move to band 3", I, busy, o -> moved(o, 0, 1, 3));
        refused("move of one that left", S, busy, o -> moved(o, 9, 1, 1));
        refused("leave of -1", I, busy, o -> o.leave(-1, true));
        refused("leave of 10", I, busy, o -> o.leave(10, true));
        refused("leave of one that left", S, busy, o -> o.leave(9, true));
        refused("end of leave of one that left", S, busy, o -> o.leave(9, false));
        refused("quit of -1", I, busy, o -> o.quit(-1));
        refused("quit of 10", I, busy, o -> o.quit(10));
        refused("quit of one that left", S, busy, o -> o.quit(9));
    }

    private void payments() {
        State busy = RefusedCallsTest::busy;
        refused("pay of -1", I, busy, o -> o.pay(-1, 100));
        refused("pay of 10", I, busy, o -> o.pay(10, 100));
        refused("pay 0", A, busy, o -> o.pay(1, 0));
        refused("pay -1", A, busy, o -> o.pay(1, -1));
        refused("pay 1000001", A, busy, o -> o.pay(1, 1000001));
        refused("pay 1000001 with credit", A, busy, o -> o.pay(3, 1000001));
        refused("pay 0 of one that left", A, busy, o -> o.pay(9, 0));
    }

    private void ballotsAndStrikes() {
        State busy = RefusedCallsTest::busy;
        refused("open -1", I, busy, o -> o.open(-1));
        refused("open 4", I, busy, o -> o.open(4));
        refused("open, has a ballot", S, busy, o -> o.open(1));
        refused("open, on strike", S, busy, o -> o.open(0));
        refused("vote of -1", I, busy, o -> o.vote(-1, true));
        refused("vote of 10", I, busy, o -> o.vote(10, true));
        refused("vote, has voted yes", S, busy, o -> o.vote(3, false));
        refused("vote, has voted no", S, busy, o -> o.vote(4, true));
        refused("vote, not the standing", S, busy, o -> o.vote(5, true));
        refused("vote, on strike", S, busy, o -> o.vote(0, false));
        refused("vote, the ballot is closed", S, busy, o -> o.vote(6, false));
        refused("vote, has left", S, busy, o -> o.vote(9, true));
        refused("close -1", I, busy, o -> o.close(-1));
        refused("close 4", I, busy, o -> o.close(4));
        refused("close, on strike", S, busy, o -> o.close(0));
        refused("close, was won", S, busy, o -> o.close(2));
        refused("close, was lost", S, busy, o -> o.close(3));
        refused("strike -1", I, busy, o -> struck(o, -1, true));
        refused("strike 4", I, busy, o -> struck(o, 4, true));
        refused("end of strike 4", I, busy, o -> struck(o, 4, false));
        refused("strike, on strike", S, busy, o -> struck(o, 0, true));
        refused("strike, has a ballot", S, busy, o -> struck(o, 1, true));
        refused("end of strike, has a ballot", S, busy, o -> struck(o, 1, false));
        refused("end of strike, was won", S, busy, o -> struck(o, 2, false));
        refused("strike, was lost", S, busy, o -> struck(o, 3, true));
        refused("end of strike, was lost", S, busy, o -> struck(o, 3, false));
    }

    private void behindAStrike() {
        State after = RefusedCallsTest::afterStrike;
        refused("strike twice", S, after, o -> struck(o, 0, true));
        refused("end of strike twice", S, after, o -> struck(o, 0, false));
        refused("strike, was won, has the next ballot", S, after, o -> struck(o, 1, true));
        refused("end of strike, was won, has the next ballot", S, after, o -> struck(o, 1, false));
        refused("open, was won, has the next ballot", S, after, o -> o.open(1));
        refused("vote twice", S, after, o -> o.vote(3, false));
        refused("no month has ended: fold", A, after, o -> o.fold(0));
        refused("no month has ended: laid", I, after, o -> o.laid(0, 0));
        refused("no month has ended: laidFor", I, after, o -> o.laidFor(0, 0));
    }

    private void daysAndFolding() {
        State busy = RefusedCallsTest::busy;
        refused("advance 0", A, busy, o -> o.advance(0));
        refused("advance -1", A, busy, o -> o.advance(-1));
        refused("advance 101", A, busy, o -> o.advance(101));
        refused("fold -1", A, busy, o -> o.fold(-1));
        refused("fold a folded month", A, busy, o -> o.fold(0));
        refused("fold the month of today", A, busy, o -> o.fold(3));
        refused("fold a later month", A, busy, o -> o.fold(59));
    }

    private void lastDays() {
        State late = RefusedCallsTest::late;
        refused("advance to 1801", S, late, o -> o.advance(11));
        refused("advance to 1890", S, late, o -> o.advance(100));
        refused("fold the last month", A, late, o -> o.fold(59));
        refused("fold a month behind the last", A, late, o -> o.fold(60));
        State last = RefusedCallsTest::lastDay;
        refused("advance on the last day", S, last, o -> o.advance(1));
        refused("fold a month behind the last, which is folded", A, last, o -> o.fold(60));
        refused("fold the last month twice", A, last, o -> o.fold(59));
    }

    private static UnionOffice lastDay() {
        UnionOffice office = Offices.with(1, 1800);
        office.fold(59);
        return office;
    }

    private void fullUnion() {
        State late = RefusedCallsTest::late;
        refused("a 17th joins", S, late, o -> o.join(0, 0));
        refused("a 17th joins in branch 3 and band 2", S, late, o -> o.join(3, 2));
        refused("owed of 16", I, late, o -> o.owed(MEMBERS));
        refused("pay of 16", I, late, o -> o.pay(MEMBERS, 5));
        refused("quit of 16", I, late, o -> o.quit(MEMBERS));
        refused("move of 16", I, late, o -> moved(o, MEMBERS, 1, 1));
    }

    private void asking() {
        State busy = RefusedCallsTest::busy;
        for (int wrong : new int[] {-1, 10}) {
            refused("owed of " + wrong, I, busy, o -> o.owed(wrong));
            refused("credit of " + wrong, I, busy, o -> o.credit(wrong));
            refused("laid of " + wrong, I, busy, o -> o.laid(wrong, 1));
            refused("hasStanding of " + wrong, I, busy, o -> o.hasStanding(wrong));
            refused("strikePay of " + wrong, I, busy, o -> o.strikePay(wrong));
        }
        for (int wrong : new int[] {-1, 4}) {
            refused("laidFor of " + wrong, I, busy, o -> o.laidFor(wrong, 1));
            refused("delegates of " + wrong, I, busy, o -> o.delegates(wrong));
            refused("isOut of " + wrong, I, busy, o -> o.isOut(wrong));
        }
        for (int wrong : new int[] {-1, 3, 60}) {
            refused("laid on month " + wrong, I, busy, o -> o.laid(0, wrong));
            refused("laidFor month " + wrong, I, busy, o -> o.laidFor(0, wrong));
        }
        refused("laid on a folded month", S, busy, o -> o.laid(0, 0));
    }

    private void severalExceptions() {
        State busy = RefusedCallsTest::busy;
        for (int dues : Check.outside(0, 100000)) {
            refused("no such band, dues " + dues, I, busy, o -> o.setDues(3, dues));
        }
        for (int amount : Check.outside(1, 1000000)) {
            refused("no such member, amount " + amount, I, busy, o -> o.pay(10, amount));
        }
        refused("has left, no such branch", I, busy, o -> moved(o, 9, 4, 1));
        refused("has left, no such branch below 0", I, busy, o -> moved(o, 9, -1, 1));
        refused("has left, no such band", I, busy, o -> moved(o, 9, 1, 3));
        refused("has left, no such band below 0", I, busy, o -> moved(o, 9, 1, -1));
        refused("no such member, month is folded", I, busy, o -> o.laid(10, 0));
        refused("no such member below 0, month is folded", I, busy, o -> o.laid(-1, 0));
        State late = RefusedCallsTest::late;
        refused("16 members, no such branch", I, late, o -> o.join(4, 0));
        refused("16 members, no such branch below 0", I, late, o -> o.join(-1, 0));
        refused("16 members, no such band", I, late, o -> o.join(0, 3));
        refused("16 members, no such band below 0", I, late, o -> o.join(0, -1));
        refused("above 1800, and out of range", A, late, o -> o.advance(101));
        refused("above 1800, and far out of range", A, late, o -> o.advance(Integer.MAX_VALUE));
        State last = RefusedCallsTest::lastDay;
        refused("the last day, 0 days", A, last, o -> o.advance(0));
        refused("the last day, 101 days", A, last, o -> o.advance(101));
        refused("a month behind the last, all are folded", I, last, o -> o.laid(0, 60));
        refused("a month below 0, all are folded", I, last, o -> o.laid(0, -1));
        refused("no such member, all are folded", I, last, o -> o.laid(1, 59));
    }
}
