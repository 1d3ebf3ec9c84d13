/** The edges of strikes and strike pay: promises 12, 22 and 24, and what Terms say of them. */
final class StrikesEdgesTest {
    private static final String TERMS = "Terms";
    private static final String CALLED = "A branch whose last closed ballot was won, and which is not on "
            + "strike, and has not been since that ballot was closed, can be called out.";
    private static final String PAID = "As long as it is on strike, at the end of each day each member of "
            + "it who has the standing that day (of all branches on strike together, by rising numbers) "
            + "is paid the strike pay (a setting) from the fund, if as much is there; otherwise nothing.";

    private final Check check = new Check();

    public static void main(String[] arguments) {
        StrikesEdgesTest test = new StrikesEdgesTest();
        test.callingOut();
        test.refused();
        test.strikePay();
        test.asking();
        test.check.end("StrikesEdgesTest");
    }

    private void same(String what, Object got, Object due) {
        check.same(what, got, due);
    }

    // ---- calling out

    private void callingOut() {
        check.sentence(TERMS, CALLED);
        lastClosedBallot();
        notOnStrikeSince();
        wonLongAgo();
        branchesApart();
    }

    private void lastClosedBallot() {
        UnionOffice office = Offices.with(1);
        check.badState("never a ballot", () -> office.strike(0, true));
        Offices.ballot(office, 0, 0, false);
        check.badState("the only one was lost", () -> office.strike(0, true));
        Offices.ballot(office, 0, 0, true);
        Offices.ballot(office, 0, 0, false);
        check.badState("the one before was won, the last was lost", () -> office.strike(0, true));
        Offices.ballot(office, 0, 0, true);
        office.open(0);
        office.close(0);
        check.badState("the last one had no vote", () -> office.strike(0, true));
        Offices.ballot(office, 0, 0, true);
        check.taken("the one before was lost, the last was won", () -> office.strike(0, true));
        same("it is on strike", office.isOut(0), true);
    }

    private void notOnStrikeSince() {
        UnionOffice office = Offices.with(1);
        Offices.callOut(office, 0, 0);
        check.badState("it is on strike", () -> office.strike(0, true));
        office.strike(0, false);
        check.badState("it has been since the ballot", () -> office.strike(0, true));
        office.advance(100);
        check.badState("long behind it", () -> office.strike(0, true));
        office.pay(0, 3000);
        Offices.ballot(office, 0, 0, false);
        check.badState("behind it, and a ballot was lost", () -> office.strike(0, true));
        Offices.ballot(office, 0, 0, true);
        check.taken("behind it, and a ballot was won", () -> office.strike(0, true));
        office.strike(0, false);
        check.badState("each ballot carries one strike", () -> office.strike(0, true));
    }

    private void wonLongAgo() {
        UnionOffice office = Offices.with(2);
        office.open(0);
        Offices.voteAll(office, 0, 2, true);
        office.close(0);
        office.quit(0);
        office.quit(1);
        Offices.advanceTo(office, 1800);
        check.taken("won on day 0 by members that left, day 1800", () -> office.strike(0, true));
        same("it is on strike", office.isOut(0), true);
    }

    private void branchesApart() {
        UnionOffice office = Offices.with(1);
        office.join(3, 0);
        Offices.ballot(office, 3, 1, true);
        check.badState("a ballot of another branch was won", () -> office.strike(0, true));
        office.strike(3, true);
        check.badState("another branch is on strike: no end", () -> office.strike(0, false));
        check.badState("another branch is on strike: no beginning", () -> office.strike(0, true));
        Offices.ballot(office, 0, 0, true);
        check.taken("two branches on strike", () -> office.strike(0, true));
        office.strike(3, false);
        same("the one goes on", office.isOut(0), true);
        same("the other has ended", office.isOut(3), false);
    }

    private void refused() {
        check.sentence("Promise 12", "`isOut`: whether it is on strike from now on",
                "Throws `IllegalStateException` if it cannot be called out (isOut; also while it has a "
                + "ballot), or is not on strike");
        UnionOffice office = Offices.with(1);
        check.badState("never on strike", () -> office.strike(0, false));
        office.open(0);
        check.badState("while it has its first ballot", () -> office.strike(0, true));
        check.badState("while it has a ballot: not on strike", () -> office.strike(0, false));
        office.vote(0, true);
        check.badState("while the ballot would be won", () -> office.strike(0, true));
        office.close(0);
        check.badState("won, and not on strike", () -> office.strike(0, false));
        office.open(0);
        check.badState("won, and while it has the next ballot", () -> office.strike(0, true));
        office.vote(0, true);
        office.close(0);
        check.taken("both were won", () -> office.strike(0, true));
        check.badState("on strike", () -> office.strike(0, true));
        check.taken("its end", () -> office.strike(0, false));
        check.badState("it has ended", () -> office.strike(0, false));
        check.badState("it has ended, no second strike", () -> office.strike(0, true));
    }

    // ---- strike pay

    private void strikePay() {
        check.sentence(TERMS, "Who voted and who was paid had the standing on the day.");
        standingThatDay();
        check.sentence(TERMS, PAID);
        asMuchIsThere();
        asMuchIsThereForOneOfTwo();
        nothingToPay();
        theGreatestPay();
        risingNumbers();
        endOfEachDay();
        lastDay();
        membersOfThatDay();
        settingOfThatDay();
    }

    /**
     * Makes an office on day 30 with member 0 in branch 3 and these members behind it in branch 0;
     * the fund is a fifth of what member 0 has paid for month 0, and branch 0 has won a ballot.
     */
    private UnionOffice officeWithFund(int fund, int members) {
        UnionOffice office = new UnionOffice();
        office.join(3, 0);
        Offices.joinAll(office, members, 0);
        office.setDues(0, 5 * fund);
        office.advance(30);
        office.pay(0, 5 * fund);
        same("fund at first", office.fund(), fund);
        office.open(0);
        Offices.voteAll(office, 1, members + 1, true);
        office.close(0);
        return office;
    }

    private void asMuchIsThere() {
        UnionOffice reaches = officeWithFund(200, 1);
        reaches.setStrikePay(200);
        reaches.strike(0, true);
        reaches.advance(1);
        same("just as much: paid", reaches.strikePay(1), 200);
        same("just as much: the fund", reaches.fund(), 0);
        reaches.advance(1);
        same("an empty fund: nothing", reaches.strikePay(1), 200);

        UnionOffice lacks = officeWithFund(200, 1);
        lacks.setStrikePay(201);
        lacks.strike(0, true);
        lacks.advance(3);
        same("a cent too little: nothing", lacks.strikePay(1), 0);
        same("a cent too little: the fund", lacks.fund(), 200);

        UnionOffice more = officeWithFund(200, 1);
        more.setStrikePay(199);
        more.strike(0, true);
        more.advance(2);
        same("a cent too much: paid once", more.strikePay(1), 199);
        same("a cent too much: the fund", more.fund(), 1);
    }

    private void asMuchIsThereForOneOfTwo() {
        UnionOffice both = officeWithFund(200, 2);
        both.setStrikePay(100);
        both.strike(0, true);
        both.advance(1);
        same("as much for both: the first", both.strikePay(1), 100);
        same("as much for both: the second", both.strikePay(2), 100);
        same("as much for both: the fund", both.fund(), 0);

        UnionOffice one = officeWithFund(199, 2);
        one.setStrikePay(100);
        one.strike(0, true);
        one.advance(2);
        same("a cent too little for both: the first", one.strikePay(1), 100);
        same("a cent too little for both: the second has no part", one.strikePay(2), 0);
        same("a cent too little for both: the fund", one.fund(), 99);

        UnionOffice all = officeWithFund(75, 15);
        all.setStrikePay(5);
        all.strike(0, true);
        all.advance(1);
        same("as much for 15: the last", all.strikePay(15), 5);
        same("as much for 15: the fund", all.fund(), 0);

        UnionOffice most = officeWithFund(74, 15);
        most.setStrikePay(5);
        most.strike(0, true);
        most.advance(1);
        same("a cent too little for 15: the 14th", most.strikePay(14), 5);
        same("a cent too little for 15: the last", most.strikePay(15), 0);
        same("a cent too little for 15: the fund", most.fund(), 4);
    }

    private void nothingToPay() {
        UnionOffice office = Offices.with(1);
        Offices.callOut(office, 0, 0);
        office.setStrikePay(1);
        office.advance(1);
        same("pay 1 of the fund 0", office.strikePay(0), 0);
        same("the fund is not below 0", office.fund(), 0);
        office.setStrikePay(0);
        office.advance(1);
        same("pay 0 of the fund 0", office.strikePay(0), 0);
        same("the fund stays", office.fund(), 0);
        UnionOffice full = officeWithFund(200, 1);
        full.setStrikePay(0);
        full.strike(0, true);
        full.advance(3);
        same("pay 0 of a fund", full.strikePay(1), 0);
        same("that fund stays", full.fund(), 200);
    }

    private void theGreatestPay() {
        for (int paid : new int[] {99999, 100000}) {
            UnionOffice office = officeWithFund(20000, 4);
            for (int member = 1; member < 4; member++) {
                office.pay(member, 100000);
            }
            office.pay(4, paid);
            boolean isThere = paid == 100000;
            same("the fund", office.fund(), isThere ? 100000 : 99999);
            office.setStrikePay(100000);
            office.strike(0, true);
            office.advance(2);
            same("pay 100000", office.strikePay(1), isThere ? 100000 : 0);
            same("nothing for the next one", office.strikePay(2), 0);
            same("the fund behind it", office.fund(), isThere ? 0 : 99999);
        }
    }

    private void risingNumbers() {
        UnionOffice office = officeWithFund(200, 0);
        office.join(2, 0);
        office.join(1, 0);
        office.join(2, 0);
        Offices.callOut(office, 2, 1);
        Offices.callOut(office, 1, 2);
        office.setStrikePay(80);
        office.advance(1);
        same("member 1, branch 2", office.strikePay(1), 80);
        same("member 2, branch 1, called out later", office.strikePay(2), 80);
        same("member 3, branch 2", office.strikePay(3), 0);
        same("member 0, not on strike", office.strikePay(0), 0);
        office.setStrikePay(40);
        office.quit(1);
        office.advance(1);
        same("the next day begins with the lowest number again", office.strikePay(2), 120);
        same("and ends with an empty fund", office.strikePay(3), 0);
        same("the one that left has no more", office.strikePay(1), 80);
    }

    private void endOfEachDay() {
        UnionOffice office = officeWithFund(2000, 1);
        office.setStrikePay(7);
        office.strike(0, true);
        same("called out: no pay yet", office.strikePay(1), 0);
        office.strike(0, false);
        office.advance(1);
        same("called out and ended on one day", office.strikePay(1), 0);
        Offices.callOut(office, 0, 1);
        office.advance(1);
        same("one day", office.strikePay(1), 7);
        office.advance(28);
        same("29 days in two calls", office.strikePay(1), 203);
        office.strike(0, false);
        office.advance(1);
        same("the strike has ended", office.strikePay(1), 203);
        same("the fund", office.fund(), 2000 - 203);

        UnionOffice days = officeWithFund(20000, 1);
        days.setStrikePay(1);
        days.strike(0, true);
        days.pay(1, 300000);
        days.advance(100);
        same("100 days in one call", days.strikePay(1), 100);
    }

    private void lastDay() {
        UnionOffice office = officeWithFund(200, 1);
        office.setDues(0, 0);
        office.pay(1, 1000);
        Offices.advanceTo(office, 1799);
        office.strike(0, true);
        office.setStrikePay(400);
        same("the day before the last", office.strikePay(1), 0);
        office.advance(1);
        same("the end of day 1799", office.strikePay(1), 400);
        check.badState("day 1800 does not end", () -> office.advance(1));
        same("so nothing is paid", office.strikePay(1), 400);
    }

    private void standingThatDay() {
        UnionOffice office = officeWithFund(200, 2);
        office.setStrikePay(1);
        Offices.advanceTo(office, 88);
        office.strike(0, true);
        office.advance(1);
        same("day 88", office.strikePay(1), 1);
        office.advance(1);
        same("day 89, the last one with the standing", office.strikePay(1), 2);
        office.advance(1);
        same("day 90, without the standing", office.strikePay(1), 2);
        office.pay(1, 999);
        office.advance(1);
        same("a cent is owed", office.strikePay(1), 2);
        office.pay(1, 1);
        office.advance(1);
        same("month 0 is paid", office.strikePay(1), 3);
        same("not for the other", office.strikePay(2), 2);
    }

    private void membersOfThatDay() {
        UnionOffice office = officeWithFund(200, 3);
        office.setStrikePay(1);
        office.strike(0, true);
        office.leave(1, true);
        office.move(2, 1, 0);
        office.quit(3);
        same("joined on that day", office.join(0, 0), 4);
        office.advance(1);
        same("on leave", office.strikePay(1), 1);
        same("moved out", office.strikePay(2), 0);
        same("left", office.strikePay(3), 0);
        same("joined", office.strikePay(4), 1);
        office.move(2, 0, 2);
        office.move(1, 1, 0);
        office.advance(1);
        same("moved in", office.strikePay(2), 1);
        same("on leave and moved out", office.strikePay(1), 1);
        same("joined, the next day", office.strikePay(4), 2);
    }

    private void settingOfThatDay() {
        UnionOffice office = officeWithFund(200, 1);
        office.strike(0, true);
        office.advance(1);
        same("the setting of 500 is more than the fund", office.strikePay(1), 0);
        office.setStrikePay(150);
        office.setStrikePay(3);
        office.advance(1);
        same("as it is at the day's end", office.strikePay(1), 3);
        office.setStrikePay(4);
        office.advance(1);
        same("as it is at the next day's end", office.strikePay(1), 7);
    }

    // ---- promises 22 and 24

    private void asking() {
        check.sentence("Promise 22", "Returns the strike pay that a member has had.");
        UnionOffice office = officeWithFund(200, 1);
        same("none before the strike", office.strikePay(1), 0);
        office.setStrikePay(9);
        office.strike(0, true);
        office.advance(2);
        office.strike(0, false);
        same("behind the strike", office.strikePay(1), 18);
        same("it is no credit", office.credit(1), 0);
        office.quit(1);
        same("of one that left", office.strikePay(1), 18);

        check.sentence("Promise 24", "Tells whether a branch is on strike.");
        for (int branch = 0; branch < 4; branch++) {
            UnionOffice one = new UnionOffice();
            one.join(branch, 0);
            same("with a won ballot only", Offices.ballot(one, branch, 0, true), true);
            same("not yet", one.isOut(branch), false);
            one.strike(branch, true);
            for (int asked = 0; asked < 4; asked++) {
                same("branch " + asked, one.isOut(asked), asked == branch);
            }
            one.quit(0);
            one.advance(1);
            same("with no member", one.isOut(branch), true);
            one.strike(branch, false);
            same("no more", one.isOut(branch), false);
        }
    }
}
