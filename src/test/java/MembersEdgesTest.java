/** The edges of a new object, of settings and of members: promises 1 to 8. */
final class MembersEdgesTest {
    private static final int MEMBERS = 16;

    private final Check check = new Check();

    public static void main(String[] arguments) {
        MembersEdgesTest test = new MembersEdgesTest();
        test.newObject();
        test.newObjectHasNoMembers();
        test.newObjectHasNoBallotAndNoMonth();
        test.memberNumbers();
        test.sixteenMembers();
        test.sixteenMembersThatLeft();
        test.duesAtTheEnds();
        test.duesBefore();
        test.strikePayBefore();
        test.moveOfOneThatLeft();
        test.moveToTheSame();
        test.leaveTwice();
        test.leaveOfOneThatLeft();
        test.quitOwesNothingOrSomething();
        test.quitForEver();
        test.payAtTheEnds();
        test.payOfOneThatLeft();
        test.manyCalls();
        test.check.end("MembersEdgesTest");
    }

    private void same(String what, Object got, Object due) {
        check.same(what, got, due);
    }

    // ---- promise 1

    private void newObject() {
        check.sentence("Promise 1", "The day 0; no members; dues of 1000, 2000 and 3000 for the bands, "
                + "the strike pay 500, the fund 0.");
        UnionOffice office = new UnionOffice();
        same("day", office.day(), 0);
        same("fund", office.fund(), 0);
        same("strike pay", office.setStrikePay(0), 500);
        for (int band = 0; band < 3; band++) {
            same("dues of band " + band, office.setDues(band, 0), 1000 * (band + 1));
        }
        same("the first member's number", office.join(0, 0), 0);
    }

    private void newObjectHasNoMembers() {
        check.sentence("Promise 1", "no members");
        UnionOffice office = new UnionOffice();
        refusesMember(office, 0);
        refusesMember(office, -1);
        for (int branch = 0; branch < 4; branch++) {
            same("nobody has the standing in " + branch, office.open(branch), 0);
            same("no delegates of " + branch, office.delegates(branch), 0);
        }
        Offices.advanceTo(office, 30);
        same("nobody owes, so nothing is laid", office.fold(0), 0);
    }

    private void newObjectHasNoBallotAndNoMonth() {
        check.sentence("Promise 1", "The day 0");
        UnionOffice office = new UnionOffice();
        for (int branch = 0; branch < 4; branch++) {
            int asked = branch;
            check.badState("no ballot to close", () -> office.close(asked));
            check.badState("no strike to end", () -> office.strike(asked, false));
            check.badState("no ballot was won", () -> office.strike(asked, true));
            check.noSuch("no month has ended", () -> office.laidFor(asked, 0));
            same("not on strike", office.isOut(branch), false);
        }
        check.badArgument("no month to fold", () -> office.fold(0));
    }

    // ---- numbers of members

    private void memberNumbers() {
        check.sentence("Terms", "Members are numbered from 0 as they join; there can be 16.");
        UnionOffice office = new UnionOffice();
        for (int member = 0; member < MEMBERS; member++) {
            same("number", office.join(3, 0), member);
        }
        office.advance(30);
        for (int wrong : Check.outside(0, MEMBERS - 1)) {
            refusesMember(office, wrong);
        }
        takesMember(office, 0);
        takesMember(office, MEMBERS - 1);

        UnionOffice one = Offices.with(1, 30);
        refusesMember(one, 1);
        refusesMember(one, MEMBERS - 1);
        refusesMember(one, -1);
        takesMember(one, 0);
    }

    private void refusesMember(UnionOffice office, int wrong) {
        check.noSuch("move of " + wrong, () -> office.move(wrong, 0, 0));
        check.noSuch("leave of " + wrong, () -> office.leave(wrong, true));
        check.noSuch("end of leave of " + wrong, () -> office.leave(wrong, false));
        check.noSuch("quit of " + wrong, () -> office.quit(wrong));
        check.noSuch("pay of " + wrong, () -> office.pay(wrong, 1));
        check.noSuch("vote of " + wrong, () -> office.vote(wrong, true));
        check.noSuch("owed of " + wrong, () -> office.owed(wrong));
        check.noSuch("credit of " + wrong, () -> office.credit(wrong));
        check.noSuch("laid of " + wrong, () -> office.laid(wrong, 0));
        check.noSuch("hasStanding of " + wrong, () -> office.hasStanding(wrong));
        check.noSuch("strikePay of " + wrong, () -> office.strikePay(wrong));
    }

    /** The member owes month 0 in band 0 and is in a branch without a ballot; it leaves in the end. */
    private void takesMember(UnionOffice office, int member) {
        same("owed of " + member, office.owed(member), 1000);
        same("hasStanding of " + member, office.hasStanding(member), true);
        same("laid of " + member, office.laid(member, 0), 0);
        same("pay of " + member, office.pay(member, 1001), 0);
        same("laid of " + member, office.laid(member, 0), 1000);
        same("credit of " + member, office.credit(member), 1);
        same("strikePay of " + member, office.strikePay(member), 0);
        same("leave of " + member, office.leave(member, true), false);
        check.taken("move of " + member, () -> office.move(member, 2, 0));
        office.open(2);
        same("vote of " + member, office.vote(member, true), 1);
        same("close", office.close(2), true);
        same("quit of " + member, office.quit(member), 0);
    }

    private void sixteenMembers() {
        check.sentence("Promise 4", "Returns its number.",
                "if there are 16 members, those that left counted");
        UnionOffice office = Offices.with(15);
        same("the 16th joins", office.join(0, 0), 15);
        check.badState("the 17th does not", () -> office.join(0, 0));
        check.badState("nor the 18th, elsewhere", () -> office.join(3, 2));
        same("there are still 16", office.open(0), MEMBERS);
        check.noSuch("no member 16", () -> office.owed(MEMBERS));
    }

    private void sixteenMembersThatLeft() {
        check.sentence("Promise 4", "if there are 16 members, those that left counted");
        UnionOffice office = Offices.with(15);
        office.quit(0);
        same("15 and one of them left: one joins", office.join(0, 0), 15);
        check.badState("16 and one of them left: none joins", () -> office.join(0, 0));
        for (int member = 1; member < MEMBERS; member++) {
            office.quit(member);
        }
        check.badState("all 16 left: none joins", () -> office.join(0, 0));
        same("nobody has the standing", office.open(0), 0);
    }

    // ---- promises 2 and 3

    private void duesAtTheEnds() {
        check.sentence("Promise 2", "Sets the dues of a band.");
        for (int band = 0; band < 3; band++) {
            int changed = band;
            UnionOffice office = new UnionOffice();
            office.join(0, band);
            check.taken("dues 0", () -> office.setDues(changed, 0));
            office.advance(30);
            same("dues 0 owed", office.owed(0), 0);
            check.taken("dues 100000", () -> office.setDues(changed, 100000));
            office.advance(30);
            same("dues 100000 owed", office.owed(0), 100000);
            for (int dues : Check.outside(0, 100000)) {
                check.badArgument("dues " + dues, () -> office.setDues(changed, dues));
            }
            office.advance(30);
            same("refused dues are not owed", office.owed(0), 200000);
        }
    }

    private void duesBefore() {
        check.sentence("Promise 2", "Returns the dues before.");
        UnionOffice office = new UnionOffice();
        same("of band 2 at first", office.setDues(2, 100000), 3000);
        same("the most", office.setDues(2, 100000), 100000);
        same("the most again", office.setDues(2, 0), 100000);
        same("the least", office.setDues(2, 1), 0);
        check.badArgument("refused", () -> office.setDues(2, 100001));
        same("the refused ones are not the ones before", office.setDues(2, 2), 1);
        same("of band 1, which nobody set", office.setDues(1, 0), 2000);
    }

    private void strikePayBefore() {
        check.sentence("Promise 3", "Returns the pay before.");
        UnionOffice office = new UnionOffice();
        same("at first", office.setStrikePay(0), 500);
        same("the least", office.setStrikePay(100000), 0);
        same("the most", office.setStrikePay(100000), 100000);
        for (int pay : Check.outside(0, 100000)) {
            check.badArgument("pay " + pay, () -> office.setStrikePay(pay));
        }
        same("the refused ones are not the ones before", office.setStrikePay(1), 100000);
        same("pay 1 before", office.setStrikePay(0), 1);
    }

    // ---- promises 5 to 8

    private void moveOfOneThatLeft() {
        check.sentence("Promise 5", "Throws `IllegalStateException` if it has left");
        UnionOffice office = Offices.with(2);
        check.taken("before it leaves", () -> office.move(0, 1, 1));
        office.quit(0);
        check.badState("to another branch and band", () -> office.move(0, 2, 2));
        check.badState("to its own branch and band", () -> office.move(0, 1, 1));
        check.taken("of one that has not left", () -> office.move(1, 3, 2));
    }

    private void moveToTheSame() {
        check.sentence("Promise 5", "a vote that it has given in a ballot stays");
        UnionOffice office = Offices.with(2);
        office.open(0);
        office.vote(0, true);
        office.move(0, 0, 0);
        check.badState("moved to its own branch: no second vote", () -> office.vote(0, true));
        office.move(0, 1, 0);
        office.move(0, 0, 0);
        check.badState("moved forth and back: no second vote", () -> office.vote(0, true));
        office.move(0, 1, 2);
        same("the vote of one that moved is counted", office.vote(1, true), 2);
        office.move(1, 1, 0);
        same("nobody is left, and both votes count", office.close(0), true);
    }

    private void leaveTwice() {
        check.sentence("Promise 6", "`isAway`: whether it is on leave from now on",
                "Returns whether it was.");
        UnionOffice office = Offices.with(2);
        same("ends though it never began", office.leave(0, false), false);
        same("begins", office.leave(0, true), false);
        same("begins twice", office.leave(0, true), true);
        same("ends", office.leave(0, false), true);
        same("ends twice", office.leave(0, false), false);
        same("another member's is its own", office.leave(1, true), false);
    }

    private void leaveOfOneThatLeft() {
        check.sentence("Promise 6", "Throws `IllegalStateException` if it has left");
        UnionOffice office = Offices.with(2);
        office.leave(0, true);
        office.quit(0);
        check.badState("begins", () -> office.leave(0, true));
        check.badState("ends", () -> office.leave(0, false));
        check.taken("of one that has not left", () -> office.leave(1, true));
    }

    private void quitOwesNothingOrSomething() {
        check.sentence("Promise 7", "Returns what it owes.");
        UnionOffice office = Offices.with(5, 29);
        same("before the first month's end", office.quit(0), 0);
        office.advance(1);
        same("behind the first month's end", office.quit(1), 1000);
        office.pay(2, 999);
        same("all but a cent is paid", office.quit(2), 1);
        office.pay(3, 1000);
        same("all is paid", office.quit(3), 0);
        office.pay(4, 1001);
        same("more than all is paid", office.quit(4), 0);
    }

    private void quitForEver() {
        check.sentence("Promise 7", "A member leaves the union for ever; what it owes stays.",
                "Throws `IllegalStateException` if it has left");
        UnionOffice office = Offices.with(1, 30);
        office.quit(0);
        check.badState("quits twice", () -> office.quit(0));
        Offices.advanceTo(office, 1800);
        same("what it owed stays, and nothing comes to it", office.owed(0), 1000);
        check.badState("quits on the last day", () -> office.quit(0));
        same("it pays", office.pay(0, 1000), 0);
        same("it has not the standing again", office.hasStanding(0), false);
        check.badState("quits when all is paid", () -> office.quit(0));
    }

    private void payAtTheEnds() {
        check.sentence("Promise 8", "`amount`: 1 to 1000000", "Returns what it owes then.");
        UnionOffice owing = Offices.with(1, 30);
        same("owes then, of 1000, with 1 paid", owing.pay(0, 1), 999);
        same("owes then, with all but a cent paid", owing.pay(0, 998), 1);
        same("owes then, with all paid", owing.pay(0, 1), 0);
        same("owes then, with more paid", owing.pay(0, 1000000), 0);
        UnionOffice office = Offices.with(1);
        check.taken("amount 1", () -> office.pay(0, 1));
        same("credit of 1", office.credit(0), 1);
        check.taken("amount 1000000", () -> office.pay(0, 1000000));
        same("credit of both", office.credit(0), 1000001);
        for (int amount : Check.outside(1, 1000000)) {
            check.badArgument("amount " + amount, () -> office.pay(0, amount));
        }
        same("the refused ones are no credit", office.credit(0), 1000001);
    }

    private void payOfOneThatLeft() {
        check.sentence("Promise 8", "A member pays, whether or not it has left.");
        UnionOffice office = Offices.with(2, 30);
        office.quit(0);
        same("has left: the least", office.pay(0, 1), 999);
        same("has left: all but a cent", office.pay(0, 998), 1);
        same("has left: the last cent", office.pay(0, 1), 0);
        same("has left: the most", office.pay(0, 1000000), 0);
        same("has left: its credit", office.credit(0), 1000000);
        same("has not left", office.pay(1, 999), 1);
        for (int amount : Check.outside(1, 1000000)) {
            check.badArgument("has left: amount " + amount, () -> office.pay(0, amount));
        }
    }

    // ---- 512 calls

    private void manyCalls() {
        check.sentence("What it is", "An object is used for at most 512 calls after it has been made");
        UnionOffice paid = Offices.with(1);
        for (int call = 2; call < 512; call++) {
            paid.pay(0, 1000000);
        }
        same("the 512th call tells the greatest credit", paid.credit(0), 510000000);

        // 16 joins, 1 for dues, 18 for days, 16 * 6 payments: the greatest sums that can be laid.
        UnionOffice office = Offices.withDues(MEMBERS, 100000, 1800);
        same("the greatest sum that is owed", office.owed(15), 6000000);
        for (int member = 0; member < MEMBERS; member++) {
            for (int payment = 1; payment < 6; payment++) {
                office.pay(member, 1000000);
            }
            same("all is paid by the sixth", office.pay(member, 1000000), 0);
        }
        same("the greatest fund", office.fund(), 19200000);
        same("the most that is laid on a month", office.laidFor(0, 59), 1600000);
        same("the greatest sum that is folded", office.fold(59), 96000000);
    }
}
