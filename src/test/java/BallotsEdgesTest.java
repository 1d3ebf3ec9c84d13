/** The edges of ballots: promises 9 to 11, and what Terms say of them. */
final class BallotsEdgesTest {
    private static final int MEMBERS = 16;
    private static final String TERMS = "Terms";
    private static final String ONE_AT_A_TIME = "A ballot is of a branch; a branch has one at a time.";
    private static final String VOTES = "A member of the branch who has the standing can vote, once; its "
            + "vote counts, whatever becomes of its standing later.";
    private static final String HAD_THE_STANDING = "Who voted and who was paid had the standing on the "
            + "day.";
    private static final String WON = "When the ballot is closed, it is won if more voted yes than no, "
            + "and if those who voted are at least half of the members of the branch who have the "
            + "standing that day.";

    private final Check check = new Check();

    public static void main(String[] arguments) {
        BallotsEdgesTest test = new BallotsEdgesTest();
        test.oneAtATime();
        test.openCounts();
        test.openRefused();
        test.whoVoted();
        test.whoCanVote();
        test.voteOnce();
        test.voteCounts();
        test.voteRefused();
        test.whoeverLosesTheStanding();
        test.won();
        test.closeRefused();
        test.check.end("BallotsEdgesTest");
    }

    private void same(String what, Object got, Object due) {
        check.same(what, got, due);
    }

    // ---- open

    private void oneAtATime() {
        check.sentence(TERMS, ONE_AT_A_TIME);
        UnionOffice office = Offices.with(1);
        same("the first one", office.open(0), 1);
        check.badState("a second one beside it", () -> office.open(0));
        for (int branch = 1; branch < 4; branch++) {
            same("one of branch " + branch, office.open(branch), 0);
        }
        office.close(0);
        same("the next one behind it", office.open(0), 1);
        check.badState("a second one beside that", () -> office.open(0));
        office.vote(0, true);
        office.close(0);
        same("one behind a won one", office.open(0), 1);
        office.close(0);
        same("one behind a lost one", office.open(0), 1);
    }

    private void openCounts() {
        check.sentence("Promise 9", "Returns how many members of it have the standing.");
        same("no member", new UnionOffice().open(0), 0);
        UnionOffice office = Offices.with(MEMBERS);
        same("16 members", office.open(0), MEMBERS);
        same("none of another branch", office.open(3), 0);
        office.close(0);
        office.close(3);
        office.quit(15);
        office.leave(14, true);
        office.move(13, 3, 0);
        same("one left, one is on leave, one moved", office.open(0), 14);
        same("the one that moved", office.open(3), 1);

        UnionOffice late = Offices.with(2, 89);
        same("on day 89", late.open(0), 2);
        late.close(0);
        late.advance(1);
        same("on day 90", late.open(0), 0);
        late.close(0);
        late.pay(1, 1000);
        same("one has paid", late.open(0), 1);
    }

    private void openRefused() {
        check.sentence("Promise 9", "Throws `IllegalStateException` if it has one, or is on strike");
        UnionOffice office = Offices.with(1);
        check.taken("before it has one", () -> office.open(0));
        check.badState("it has one", () -> office.open(0));
        office.vote(0, true);
        office.close(0);
        office.strike(0, true);
        check.badState("it is on strike", () -> office.open(0));
        check.taken("another branch is on strike", () -> office.open(1));
        office.strike(0, false);
        check.taken("the strike has ended", () -> office.open(0));
    }

    // ---- vote

    private void whoVoted() {
        check.sentence(TERMS, HAD_THE_STANDING);
        UnionOffice office = Offices.with(3, 88);
        office.open(0);
        same("day 88", office.vote(0, true), 1);
        office.advance(1);
        same("day 89, the last one with the standing", office.vote(1, true), 2);
        office.advance(1);
        check.badState("day 90, the first one without it", () -> office.vote(2, true));
        office.pay(2, 1000);
        same("day 90, with the standing again", office.vote(2, true), 3);
    }

    private void whoCanVote() {
        check.sentence(TERMS, VOTES);
        UnionOffice office = Offices.with(3, 89);
        office.join(1, 0);
        office.open(0);
        same("has the standing on day 89", office.vote(0, true), 1);
        office.advance(1);
        check.badState("has it no more on day 90", () -> office.vote(1, true));
        office.pay(1, 999);
        check.badState("owes a cent of month 0", () -> office.vote(1, true));
        office.pay(1, 1);
        same("has it again", office.vote(1, false), 2);
        check.badState("of another branch", () -> office.vote(3, true));
        office.move(3, 0, 0);
        same("came to the branch", office.vote(3, true), 3);
        same("joined behind the ballot's opening", office.join(0, 0), 4);
        same("votes", office.vote(4, true), 4);
        office.quit(2);
        check.badState("has left", () -> office.vote(2, true));
    }

    private void voteOnce() {
        check.sentence(TERMS, VOTES);
        for (boolean isYes : new boolean[] {true, false}) {
            UnionOffice office = Offices.with(2);
            office.open(0);
            same("once", office.vote(0, isYes), 1);
            check.badState("twice, yes", () -> office.vote(0, true));
            check.badState("twice, no", () -> office.vote(0, false));
            same("another", office.vote(1, isYes), 2);
            same("won by yes alone", office.close(0), isYes);
            office.open(0);
            same("once in the next ballot", office.vote(0, !isYes), 1);
            check.badState("twice in the next ballot", () -> office.vote(0, isYes));
            same("the refused ones and the old ones do not count", office.close(0), !isYes);
        }
    }

    private void voteCounts() {
        check.sentence("Promise 10", "`isYes`: whether it votes yes",
                "Returns how many have voted in it.");
        UnionOffice office = Offices.with(MEMBERS);
        office.open(0);
        for (int member = MEMBERS - 1; member >= 0; member--) {
            same("yes and no alike", office.vote(member, member % 2 == 0), MEMBERS - member);
        }
        for (int member = 0; member < MEMBERS; member++) {
            int voter = member;
            check.badState("all have voted", () -> office.vote(voter, true));
        }
        office.close(0);
        office.open(0);
        same("the next ballot begins without votes", office.vote(15, true), 1);
        office.quit(15);
        same("one that left since is counted", office.vote(14, true), 2);
        office.move(14, 1, 0);
        same("one that moved since is counted", office.vote(13, true), 3);
        office.open(1);
        same("but not in its new branch", office.vote(14, true), 1);
    }

    private void voteRefused() {
        check.sentence("Promise 10", "Throws `IllegalStateException` if its branch has no ballot, or the "
                + "member has not the standing, or has voted in it");
        UnionOffice office = Offices.with(2);
        check.badState("never a ballot", () -> office.vote(0, true));
        office.open(1);
        check.badState("a ballot of another branch", () -> office.vote(0, true));
        office.open(0);
        check.taken("a ballot of its branch", () -> office.vote(0, true));
        office.close(0);
        check.badState("the ballot is closed, it has voted", () -> office.vote(0, true));
        check.badState("the ballot is closed, it has not voted", () -> office.vote(1, true));
        check.noSuch("no such member, and there is no ballot", () -> office.vote(2, true));
    }

    private void whoeverLosesTheStanding() {
        check.sentence(TERMS, VOTES);
        UnionOffice late = Offices.with(1, 89);
        late.open(0);
        late.vote(0, true);
        late.advance(1);
        same("the yes of one that is in arrears since", late.close(0), true);

        UnionOffice no = Offices.with(4, 89);
        no.open(0);
        no.vote(0, true);
        no.vote(1, false);
        no.advance(1);
        no.pay(0, 1000);
        same("the no of one that is in arrears since: a tie", no.close(0), false);

        UnionOffice left = Offices.with(2);
        left.open(0);
        left.vote(0, true);
        left.quit(0);
        same("the yes of one that left since, of one with the standing", left.close(0), true);

        UnionOffice moved = Offices.with(3);
        moved.open(0);
        moved.vote(0, false);
        moved.move(0, 1, 0);
        moved.vote(1, true);
        same("the no of one that moved since: a tie", moved.close(0), false);
    }

    // ---- close

    private void won() {
        check.sentence("Promise 11", "Returns whether it is won.");
        same("one yes of one", closed(1, 1, 0), true);
        same("one no of one", closed(1, 0, 1), false);
        check.sentence(TERMS, WON);
        noVote();
        moreYesThanNo();
        atLeastHalf();
        standingThatDay();
        standingOnTheDayOfTheTerm();
        membersOfTheBranchAlone();
    }

    private void noVote() {
        UnionOffice office = new UnionOffice();
        office.open(0);
        same("no vote, no member", office.close(0), false);
        office.join(0, 0);
        office.open(0);
        same("no vote, a member", office.close(0), false);
        office.open(0);
        office.quit(0);
        same("no vote, a member that left", office.close(0), false);
    }

    private void moreYesThanNo() {
        same("1 to 0", closed(1, 1, 0), true);
        same("0 to 1", closed(1, 0, 1), false);
        same("1 to 1", closed(2, 1, 1), false);
        same("2 to 1", closed(3, 2, 1), true);
        same("1 to 2", closed(3, 1, 2), false);
        same("8 to 8", closed(16, 8, 8), false);
        same("9 to 7", closed(16, 9, 7), true);
        same("7 to 9", closed(16, 7, 9), false);
        same("16 to 0", closed(16, 16, 0), true);
        same("0 to 16", closed(16, 0, 16), false);
    }

    private void atLeastHalf() {
        for (int members = 1; members <= MEMBERS; members++) {
            int half = (members + 1) / 2;
            same("just half or one more of " + members, closed(members, half, 0), true);
            same("one less of " + members, closed(members, half - 1, 0), false);
        }
        same("half of 4, a tie", closed(4, 1, 1), false);
        same("half of 6 with a no", closed(6, 2, 1), true);
        same("less than half of 7 with a no", closed(7, 2, 1), false);
        same("half of 16 with three no", closed(16, 5, 3), true);
        same("less than half of 16 with three no", closed(16, 4, 3), false);
    }

    /** Whether a ballot of so many members is won with so many votes. */
    private boolean closed(int members, int yes, int no) {
        UnionOffice office = Offices.with(members);
        office.open(0);
        Offices.voteAll(office, 0, yes, true);
        Offices.voteAll(office, yes, yes + no, false);
        return office.close(0);
    }

    private void standingThatDay() {
        UnionOffice joined = Offices.with(2);
        joined.open(0);
        joined.vote(0, true);
        joined.join(0, 0);
        same("one of 3, of 2 at the opening", joined.close(0), false);

        UnionOffice left = Offices.with(3);
        left.open(0);
        left.vote(0, true);
        left.quit(2);
        same("one of 2, of 3 at the opening", left.close(0), true);

        UnionOffice moved = Offices.with(3);
        moved.join(1, 0);
        moved.open(0);
        moved.vote(0, true);
        moved.move(2, 1, 0);
        moved.move(3, 0, 0);
        same("one moved out and one in: one of 3", moved.close(0), false);
        moved.open(0);
        moved.vote(0, true);
        moved.move(3, 1, 0);
        same("one moved out: one of 2", moved.close(0), true);

        UnionOffice away = Offices.with(3);
        away.open(0);
        away.vote(0, true);
        away.leave(1, true);
        away.leave(2, true);
        same("those on leave have the standing: one of 3", away.close(0), false);
    }

    private void standingOnTheDayOfTheTerm() {
        UnionOffice before = Offices.with(3, 89);
        before.open(0);
        before.vote(0, true);
        same("closed on day 89: one of 3", before.close(0), false);
        before.open(0);
        before.vote(0, true);
        before.advance(1);
        same("closed on day 90: one, and none has the standing", before.close(0), true);
        before.pay(0, 1000);
        before.open(0);
        before.vote(0, true);
        before.pay(1, 1000);
        same("one has the standing again: one of 2", before.close(0), true);
        before.open(0);
        before.vote(0, true);
        before.pay(2, 1000);
        same("both have it again: one of 3", before.close(0), false);
    }

    private void membersOfTheBranchAlone() {
        UnionOffice office = Offices.with(2);
        Offices.joinAll(office, 5, 1);
        office.open(0);
        office.open(1);
        office.vote(0, true);
        same("one of 2, 5 are in another branch", office.close(0), true);
        office.vote(2, true);
        office.vote(3, true);
        same("two of 5, voters of another branch do not count", office.close(1), false);
    }

    private void closeRefused() {
        check.sentence("Promise 11", "Throws `IllegalStateException` if it has none");
        UnionOffice office = Offices.with(1);
        check.badState("never one", () -> office.close(0));
        office.open(1);
        check.badState("one of another branch", () -> office.close(0));
        office.open(0);
        check.taken("one", () -> office.close(0));
        check.badState("it is closed", () -> office.close(0));
        Offices.callOut(office, 0, 0);
        check.badState("it is closed, and the branch is on strike", () -> office.close(0));
        same("the other one is still there", office.close(1), false);
    }
}
