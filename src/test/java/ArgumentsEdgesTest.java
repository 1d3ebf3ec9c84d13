/**
 * The edges of each argument, promise by promise: the first and the last value that is taken, and those
 * next to them that are refused.
 */
final class ArgumentsEdgesTest {
    private static final int BRANCHES = 4;
    private static final int BANDS = 3;
    private static final int MEMBERS = 16;
    private static final String A_MEMBER = "`member`: a member";
    private static final String A_BRANCH = "`branch`: 0 to 3";
    private static final String A_BAND = "`band`: 0 to 2";
    private static final String NO_MEMBER = "Throws `IndexOutOfBoundsException` if there is no such member";
    private static final String NO_BRANCH = "Throws `IndexOutOfBoundsException` if there is no such branch";

    /** A call with one argument whose edges are tried. */
    private interface Call {
        void on(UnionOffice office, int argument);
    }

    /** What makes the office on which a call is tried. */
    private interface State {
        UnionOffice make();
    }

    private final Check check = new Check();

    public static void main(String[] arguments) {
        ArgumentsEdgesTest test = new ArgumentsEdgesTest();
        test.branchesAndBands();
        test.membersOfEachCall();
        test.branchesOfEachCall();
        test.bandsOfEachCall();
        test.amountsOfEachCall();
        test.monthsOfEachCall();
        test.check.end("ArgumentsEdgesTest");
    }

    private void branchesAndBands() {
        check.sentence("Terms", "There are the branches 0 to 3 and the bands 0 to 2.");
        branchEdges(ArgumentsEdgesTest::fresh, (office, branch) -> office.isOut(branch));
        bandEdges((office, band) -> office.setDues(band, 0));
    }

    // ---- members

    private void membersOfEachCall() {
        String noMemberBranchOrBand = NO_MEMBER + ", branch or band";
        check.sentence("Promise 5", A_MEMBER, noMemberBranchOrBand);
        memberEdges((office, member) -> office.move(member, 3, 2));
        check.sentence("Promise 6", A_MEMBER, NO_MEMBER);
        memberEdges((office, member) -> office.leave(member, true));
        memberEdges((office, member) -> office.leave(member, false));
        check.sentence("Promise 7", A_MEMBER, NO_MEMBER);
        memberEdges((office, member) -> office.quit(member));
        check.sentence("Promise 8", A_MEMBER, NO_MEMBER);
        memberEdges((office, member) -> office.pay(member, 1));
        check.sentence("Promise 10", A_MEMBER, NO_MEMBER);
        memberEdges((office, member) -> office.vote(member, true));
        memberEdges((office, member) -> office.vote(member, false));
        check.sentence("Promise 17", A_MEMBER, NO_MEMBER);
        memberEdges((office, member) -> office.owed(member));
        check.sentence("Promise 18", A_MEMBER, NO_MEMBER);
        memberEdges((office, member) -> office.credit(member));
        check.sentence("Promise 19", A_MEMBER, NO_MEMBER);
        memberEdges((office, member) -> office.laid(member, 0));
        check.sentence("Promise 21", A_MEMBER, NO_MEMBER);
        memberEdges((office, member) -> office.hasStanding(member));
        check.sentence("Promise 22", A_MEMBER, NO_MEMBER);
        memberEdges((office, member) -> office.strikePay(member));
    }

    private void memberEdges(Call call) {
        refused(voting(0), call, 0, -1, 1, MEMBERS - 1, MEMBERS);
        UnionOffice one = voting(1);
        taken(one, call, 0);
        refused(one, call, -1, 1, MEMBERS - 1, MEMBERS);
        UnionOffice two = voting(2);
        taken(two, call, 0, 1);
        refused(two, call, 2);
        UnionOffice all = voting(MEMBERS);
        taken(all, call, 0, MEMBERS - 1);
        refused(all, call, Check.outside(0, MEMBERS - 1));
        refused(all, call, MEMBERS + 1, 31, 32, 256);
    }

    /** Makes an office on day 30, in which all members are in branch 0 and can vote. */
    private static UnionOffice voting(int members) {
        UnionOffice office = Offices.with(members, 30);
        office.open(0);
        return office;
    }

    // ---- branches

    private void branchesOfEachCall() {
        State fresh = ArgumentsEdgesTest::fresh;
        check.sentence("Promise 4", A_BRANCH, NO_BRANCH + " or band");
        branchEdges(fresh, (office, branch) -> office.join(branch, 0));
        check.sentence("Promise 5", A_BRANCH, NO_MEMBER + ", branch or band");
        branchEdges(fresh, (office, branch) -> office.move(0, branch, 0));
        check.sentence("Promise 9", A_BRANCH, NO_BRANCH);
        branchEdges(fresh, (office, branch) -> office.open(branch));
        check.sentence("Promise 11", A_BRANCH, NO_BRANCH);
        branchEdges(ArgumentsEdgesTest::ballots, (office, branch) -> office.close(branch));
        check.sentence("Promise 12", A_BRANCH, NO_BRANCH);
        branchEdges(ArgumentsEdgesTest::won, (office, branch) -> office.strike(branch, true));
        branchEdges(ArgumentsEdgesTest::out, (office, branch) -> office.strike(branch, false));
        check.sentence("Promise 20", A_BRANCH, NO_BRANCH);
        branchEdges(fresh, (office, branch) -> office.laidFor(branch, 0));
        check.sentence("Promise 23", A_BRANCH, NO_BRANCH);
        branchEdges(fresh, (office, branch) -> office.delegates(branch));
        check.sentence("Promise 24", A_BRANCH, NO_BRANCH);
        branchEdges(fresh, (office, branch) -> office.isOut(branch));
    }

    private void branchEdges(State state, Call call) {
        taken(state.make(), call, 0, 1, 2, 3);
        refused(state.make(), call, Check.outside(0, BRANCHES - 1));
    }

    /** Makes an office on day 30 with a member in each branch. */
    private static UnionOffice fresh() {
        UnionOffice office = new UnionOffice();
        for (int branch = 0; branch < BRANCHES; branch++) {
            office.join(branch, 0);
        }
        office.advance(30);
        return office;
    }

    private static UnionOffice ballots() {
        UnionOffice office = fresh();
        for (int branch = 0; branch < BRANCHES; branch++) {
            office.open(branch);
        }
        return office;
    }

    private static UnionOffice won() {
        UnionOffice office = fresh();
        for (int branch = 0; branch < BRANCHES; branch++) {
            Offices.ballot(office, branch, branch, true);
        }
        return office;
    }

    private static UnionOffice out() {
        UnionOffice office = won();
        for (int branch = 0; branch < BRANCHES; branch++) {
            office.strike(branch, true);
        }
        return office;
    }

    // ---- bands

    private void bandsOfEachCall() {
        check.sentence("Promise 2", A_BAND, "Throws `IndexOutOfBoundsException` if there is no such band");
        bandEdges((office, band) -> office.setDues(band, 1));
        check.sentence("Promise 4", A_BAND, NO_BRANCH + " or band");
        bandEdges((office, band) -> office.join(0, band));
        check.sentence("Promise 5", A_BAND, NO_MEMBER + ", branch or band");
        bandEdges((office, band) -> office.move(0, 0, band));
    }

    private void bandEdges(Call call) {
        taken(fresh(), call, 0, 1, 2);
        refused(fresh(), call, Check.outside(0, BANDS - 1));
    }

    // ---- dues, pay, amounts, days

    private void amountsOfEachCall() {
        check.sentence("Promise 2", "`dues`: 0 to 100000",
                "Throws `IllegalArgumentException` if dues is out of range");
        for (int band = 0; band < BANDS; band++) {
            int changed = band;
            rangeEdges(0, 100000, (office, dues) -> office.setDues(changed, dues));
        }
        check.sentence("Promise 3", "`pay`: 0 to 100000",
                "Throws `IllegalArgumentException` if pay is out of range");
        rangeEdges(0, 100000, (office, pay) -> office.setStrikePay(pay));
        check.sentence("Promise 8", "`amount`: 1 to 1000000",
                "Throws `IllegalArgumentException` if amount is out of range");
        rangeEdges(1, 1000000, (office, amount) -> office.pay(0, amount));
        rangeEdges(1, 1000000, (office, amount) -> office.pay(3, amount));
        check.sentence("Promise 13", "`days`: 1 to 100",
                "Throws `IllegalArgumentException` if days is out of range");
        rangeEdges(1, 100, (office, days) -> office.advance(days));
    }

    private void rangeEdges(int least, int most, Call call) {
        UnionOffice office = fresh();
        taken(office, call, least, least + 1, most - 1, most);
        for (int wrong : Check.outside(least, most)) {
            check.badArgument(String.valueOf(wrong), () -> call.on(office, wrong));
        }
    }

    // ---- months

    private void monthsOfEachCall() {
        String ended = "`month`: a month that has ended";
        String noMonth = ", or the month has not ended";
        check.sentence("Promise 19", ended, NO_MEMBER + noMonth);
        monthEdges((office, month) -> office.laid(0, month));
        check.sentence("Promise 20", ended, NO_BRANCH + noMonth);
        for (int branch = 0; branch < BRANCHES; branch++) {
            int asked = branch;
            monthEdges((office, month) -> office.laidFor(asked, month));
        }
        check.sentence("Promise 19", "Throws `IllegalStateException` if the month is folded");
        foldedMonths();
        check.sentence("Promise 14", "Throws `IllegalArgumentException` if the month has not ended, or is "
                + "folded, or below 0");
        monthsToFold();
    }

    private void monthEdges(Call call) {
        UnionOffice office = Offices.with(1);
        refused(office, call, -1, 0, 1);
        Offices.advanceTo(office, 29);
        refused(office, call, -1, 0, 1);
        Offices.advanceTo(office, 30);
        taken(office, call, 0);
        refused(office, call, Check.outside(0, 0));
        Offices.advanceTo(office, 59);
        taken(office, call, 0);
        refused(office, call, -1, 1);
        Offices.advanceTo(office, 1799);
        taken(office, call, 0, 58);
        refused(office, call, -1, 59, 60);
        Offices.advanceTo(office, 1800);
        taken(office, call, 0, 59);
        refused(office, call, Check.outside(0, 59));
    }

    private void foldedMonths() {
        UnionOffice office = Offices.with(1, 90);
        Call call = (asked, month) -> asked.laid(0, month);
        taken(office, call, 0, 1, 2);
        office.fold(0);
        check.badState("month 0, folded", () -> office.laid(0, 0));
        taken(office, call, 1, 2);
        office.fold(2);
        for (int month = 0; month < 3; month++) {
            int asked = month;
            check.badState("month " + month + ", folded", () -> office.laid(0, asked));
        }
        refused(office, call, -1, 3);
        office.advance(30);
        taken(office, call, 3);
    }

    private void monthsToFold() {
        UnionOffice office = Offices.with(1);
        foldRefused(office, -1, 0, 1);
        Offices.advanceTo(office, 30);
        foldRefused(office, Check.outside(0, 0));
        taken(office, UnionOffice::fold, 0);
        foldRefused(office, -1, 0, 1);
        Offices.advanceTo(office, 1799);
        foldRefused(office, -1, 0, 59, 60);
        taken(office, UnionOffice::fold, 58);
        Offices.advanceTo(office, 1800);
        foldRefused(office, -1, 58, 60);
        taken(office, UnionOffice::fold, 59);
        foldRefused(office, Check.outside(0, 59));
        foldRefused(office, 0, 59);
    }

    private void foldRefused(UnionOffice office, int... months) {
        for (int month : months) {
            check.badArgument("fold of " + month + " on day " + office.day(), () -> office.fold(month));
        }
    }

    // ---- what is tried

    private void taken(UnionOffice office, Call call, int... values) {
        for (int value : values) {
            check.taken(value + " on day " + office.day(), () -> call.on(office, value));
        }
    }

    private void refused(UnionOffice office, Call call, int... values) {
        for (int value : values) {
            check.noSuch(value + " on day " + office.day(), () -> call.on(office, value));
        }
    }
}
