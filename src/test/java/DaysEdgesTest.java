/** The edges of days, delegates, folding and the order at a day's end: promises 13 to 15, 19, 20, 23. */
final class DaysEdgesTest {
    private static final String TERMS = "Terms";
    private static final String NUMBERED = "Days are numbered from 0; a month has 30 days, a year 12 "
            + "months: the month of a day is the day divided by 30, rounded down.";
    private static final String DELEGATES = "At the beginning of each year (of the day 0, too) each branch "
            + "gets as many delegates as its members who have the standing that day, divided by 3, "
            + "rounded up.";
    private static final String FOLDED = "Months that have ended can be folded: behind that, what was laid "
            + "on them cannot be asked for members, only for branches; what is owed stays.";
    private static final String COUNTED_FOR = "A member's payments are counted for the branch to which it "
            + "belongs when they are laid (of one that has left: to which it belonged last).";
    private static final String ORDER = "When a day ends, this happens in this order: strike pay; if it is "
            + "the last day of a month, dues; then the next day begins, and if it is the first day of a "
            + "year, delegates are counted.";

    private final Check check = new Check();

    public static void main(String[] arguments) {
        DaysEdgesTest test = new DaysEdgesTest();
        test.days();
        test.delegates();
        test.folding();
        test.countedFor();
        test.orderAtTheDaysEnd();
        test.check.end("DaysEdgesTest");
    }

    private void same(String what, Object got, Object due) {
        check.same(what, got, due);
    }

    // ---- days and months

    private void days() {
        monthsOfDays();
        daysRange();
        lastDay();
        check.sentence("Promise 15", "Returns the day.");
        same("at first", new UnionOffice().day(), 0);
        same("in the end", Offices.with(0, 1800).day(), 1800);
    }

    private void monthsOfDays() {
        check.sentence(TERMS, NUMBERED);
        UnionOffice office = Offices.with(1);
        monthHasNotEnded(office, 0);
        office.advance(29);
        monthHasNotEnded(office, 0);
        office.advance(1);
        monthHasEnded(office, 0);
        monthHasNotEnded(office, 1);
        Offices.advanceTo(office, 59);
        monthHasNotEnded(office, 1);
        office.advance(1);
        monthHasEnded(office, 1);
        monthHasNotEnded(office, 2);
        Offices.advanceTo(office, 1799);
        monthHasEnded(office, 58);
        monthHasNotEnded(office, 59);
        office.advance(1);
        monthHasEnded(office, 0);
        monthHasEnded(office, 59);
        monthHasNotEnded(office, 60);
        monthHasNotEnded(office, -1);
        monthHasNotEnded(office, Integer.MAX_VALUE);
        monthHasNotEnded(office, Integer.MIN_VALUE);
    }

    private void monthHasEnded(UnionOffice office, int month) {
        same("laid on month " + month, office.laid(0, month), 0);
        same("laidFor month " + month, office.laidFor(0, month), 0);
    }

    private void monthHasNotEnded(UnionOffice office, int month) {
        check.noSuch("laid on month " + month, () -> office.laid(0, month));
        check.noSuch("laidFor month " + month, () -> office.laidFor(0, month));
        check.badArgument("fold of month " + month, () -> office.fold(month));
    }

    private void daysRange() {
        check.sentence("Promise 13", "`days`: 1 to 100", "Returns the day then.");
        UnionOffice office = new UnionOffice();
        same("1", office.advance(1), 1);
        same("100", office.advance(100), 101);
        for (int days : Check.outside(1, 100)) {
            check.badArgument("days " + days, () -> office.advance(days));
        }
        same("no refused days end", office.day(), 101);
    }

    private void lastDay() {
        check.sentence("Promise 13", "Throws `IllegalStateException` if the day would be above 1800");
        UnionOffice just = Offices.with(0, 1700);
        same("100 from 1700 on", just.advance(100), 1800);
        UnionOffice above = Offices.with(0, 1701);
        check.badState("100 from 1701 on", () -> above.advance(100));
        same("99 from 1701 on", above.advance(99), 1800);
        UnionOffice one = Offices.with(0, 1799);
        check.badState("2 from 1799 on", () -> one.advance(2));
        check.badState("100 from 1799 on", () -> one.advance(100));
        same("1 from 1799 on", one.advance(1), 1800);
        check.badState("1 from 1800 on", () -> one.advance(1));
        check.badState("100 from 1800 on", () -> one.advance(100));
        same("the last day stays", one.day(), 1800);
    }

    // ---- delegates

    private void delegates() {
        check.sentence(TERMS, DELEGATES);
        roundedUp();
        standingOfTheCount();
        branchesOfTheCount();
        check.sentence("Promise 23", "Returns the delegates of a branch.");
        dayOfTheCount();
        lastYear();
    }

    private void roundedUp() {
        int[] due = {0, 1, 1, 1, 2, 2, 2, 3, 3, 3, 4, 4, 4, 5, 5, 5, 6};
        for (int members = 0; members < due.length; members++) {
            UnionOffice office = Offices.withDues(members, 0, 360);
            same("of " + members + " members", office.delegates(0), due[members]);
            same("of no members", office.delegates(3), 0);
        }
    }

    private void dayOfTheCount() {
        UnionOffice office = Offices.withDues(3, 0, 0);
        same("day 0: there was no member when it began", office.delegates(0), 0);
        Offices.advanceTo(office, 359);
        same("day 359", office.delegates(0), 0);
        office.join(0, 0);
        office.advance(1);
        same("day 360, one joined on day 359", office.delegates(0), 2);
        Offices.joinAll(office, 3, 0);
        same("three join on day 360", office.delegates(0), 2);
        Offices.advanceTo(office, 719);
        same("day 719", office.delegates(0), 2);
        office.advance(1);
        same("day 720", office.delegates(0), 3);
        office.quit(0);
        same("one leaves on day 720", office.delegates(0), 3);
        Offices.advanceTo(office, 1080);
        same("day 1080", office.delegates(0), 2);
    }

    private void lastYear() {
        UnionOffice office = Offices.withDues(1, 0, 1700);
        same("year 4", office.delegates(0), 1);
        Offices.joinAll(office, 3, 0);
        office.advance(99);
        same("day 1799", office.delegates(0), 1);
        office.advance(1);
        same("day 1800, the first one of year 5", office.delegates(0), 2);

        UnionOffice early = Offices.withDues(4, 0, 350);
        early.advance(100);
        same("the year begins within one call", early.delegates(0), 2);
    }

    private void standingOfTheCount() {
        UnionOffice office = Offices.withDues(4, 0, 270);
        office.setDues(0, 1);
        office.advance(30);
        office.setDues(0, 0);
        office.pay(0, 1);
        office.leave(0, true);
        Offices.advanceTo(office, 359);
        same("month 9 is owed on day 359", office.open(0), 4);
        office.advance(1);
        same("month 9 is owed on day 360, by all but one on leave", office.delegates(0), 1);

        UnionOffice later = Offices.withDues(4, 0, 300);
        later.setDues(0, 1);
        later.advance(30);
        Offices.advanceTo(later, 360);
        same("months 10 and 11 are owed on day 360", later.delegates(0), 2);

        UnionOffice paid = Offices.with(4, 360);
        same("all are in arrears on day 360", paid.delegates(0), 0);
        paid.pay(0, 12000);
        same("one pays on day 360", paid.delegates(0), 0);
        Offices.advanceTo(paid, 720);
        same("it is in arrears a year later", paid.delegates(0), 0);
    }

    private void branchesOfTheCount() {
        UnionOffice office = Offices.withDues(1, 0, 0);
        Offices.joinAll(office, 4, 1);
        Offices.joinAll(office, 3, 2);
        Offices.joinAll(office, 7, 3);
        office.move(14, 2, 0);
        office.quit(13);
        Offices.advanceTo(office, 360);
        same("branch 0: 1", office.delegates(0), 1);
        same("branch 1: 4", office.delegates(1), 2);
        same("branch 2: 3 and one that came", office.delegates(2), 2);
        same("branch 3: 7, one went and one left", office.delegates(3), 2);
        office.move(0, 1, 0);
        same("moved on day 360: its old branch", office.delegates(0), 1);
        Offices.advanceTo(office, 720);
        same("its old branch a year later", office.delegates(0), 0);
    }

    // ---- folding

    private void folding() {
        check.sentence(TERMS, FOLDED);
        monthsThatCanBeFolded();
        whatCannotBeAsked();
        whatIsOwedStays();
        check.sentence("Promise 14", "all months up to this one, that are not folded");
        monthsFoldedAtOnce();
        check.sentence("Promise 14", "Returns what was laid on all of them so far, by all members.");
        sumOfTheFolded();
        soFar();
        check.sentence("Promise 14", "Throws `IllegalArgumentException` if the month has not ended, or is "
                + "folded, or below 0");
        foldRefused();
    }

    private void monthsThatCanBeFolded() {
        UnionOffice office = Offices.with(1, 29);
        check.badArgument("month 0 on day 29", () -> office.fold(0));
        office.advance(1);
        check.badArgument("month 1 on day 30", () -> office.fold(1));
        same("month 0 on day 30", office.fold(0), 0);
        check.badArgument("month 0 twice", () -> office.fold(0));
        check.badArgument("month 1 behind it", () -> office.fold(1));
        office.advance(29);
        check.badArgument("month 1 on day 59", () -> office.fold(1));
        office.advance(1);
        same("month 1 on day 60", office.fold(1), 0);

        UnionOffice last = Offices.with(1, 1799);
        check.badArgument("month 59 on day 1799", () -> last.fold(59));
        last.advance(1);
        check.badArgument("month 60 on day 1800", () -> last.fold(60));
        same("month 59 on day 1800", last.fold(59), 0);
        check.badArgument("month 60 behind it", () -> last.fold(60));
        check.badArgument("month 59 twice", () -> last.fold(59));
    }

    private void whatCannotBeAsked() {
        UnionOffice office = Offices.with(2, 120);
        office.pay(0, 2500);
        office.fold(1);
        for (int member = 0; member < 2; member++) {
            int asked = member;
            check.badState("month 0 of " + member, () -> office.laid(asked, 0));
            check.badState("month 1 of " + member, () -> office.laid(asked, 1));
        }
        same("month 2, which is not folded", office.laid(0, 2), 500);
        same("month 3, which is not folded", office.laid(0, 3), 0);
        check.noSuch("month 4, which has not ended", () -> office.laid(0, 4));
        check.noSuch("month -1", () -> office.laid(0, -1));
        same("month 0 for the branch", office.laidFor(0, 0), 1000);
        same("month 1 for the branch", office.laidFor(0, 1), 1000);
        same("month 2 for the branch", office.laidFor(0, 2), 500);
        same("month 0 for another branch", office.laidFor(1, 0), 0);
    }

    private void whatIsOwedStays() {
        UnionOffice office = Offices.with(1, 90);
        office.fold(2);
        same("owed", office.owed(0), 3000);
        same("the standing", office.hasStanding(0), false);
        same("it is paid for folded months, the earliest one first", office.pay(0, 1500), 1500);
        same("the standing again", office.hasStanding(0), true);
        same("month 0", office.laidFor(0, 0), 1000);
        same("month 1", office.laidFor(0, 1), 500);
        same("the fund", office.fund(), 300);
        same("quit", office.quit(0), 1500);
    }

    private void monthsFoldedAtOnce() {
        UnionOffice office = Offices.with(1, 150);
        office.pay(0, 5000);
        same("months 0 to 2", office.fold(2), 3000);
        check.badState("month 2 is folded", () -> office.laid(0, 2));
        same("month 3 is not", office.laid(0, 3), 1000);
        same("month 3 alone", office.fold(3), 1000);
        same("month 4 alone", office.fold(4), 1000);
        UnionOffice all = Offices.with(2, 1800);
        all.pay(0, 60000);
        all.pay(1, 1);
        same("months 0 to 59", all.fold(59), 60001);
    }

    private void sumOfTheFolded() {
        UnionOffice office = Offices.with(2);
        office.join(1, 0);
        office.join(3, 0);
        Offices.advanceTo(office, 60);
        office.pay(0, 1000);
        office.pay(1, 1);
        office.quit(1);
        office.pay(1, 20);
        office.pay(2, 300);
        office.move(2, 0, 0);
        office.pay(2, 600);
        office.pay(3, 2000);
        same("month 0, members of all branches, one left, one moved", office.fold(0), 2921);
        same("month 1", office.fold(1), 1000);
        UnionOffice none = Offices.with(0, 30);
        same("no members", none.fold(0), 0);
    }

    private void soFar() {
        UnionOffice office = Offices.with(2, 90);
        office.pay(0, 400);
        same("a part of month 0", office.fold(0), 400);
        office.pay(0, 1100);
        office.pay(1, 1000);
        same("month 1: what came to month 0 behind its folding does not count", office.fold(1), 500);
        office.pay(0, 500);
        same("month 2", office.fold(2), 0);
        same("the branch's sum of month 0 goes on", office.laidFor(0, 0), 2000);
        same("the branch's sum of month 1 goes on", office.laidFor(0, 1), 1000);
        office.pay(0, 1250);
        office.advance(30);
        same("credit is laid on a month behind the folded ones", office.laid(0, 3), 250);
        same("and counts there", office.fold(3), 250);
    }

    private void foldRefused() {
        UnionOffice office = Offices.with(1, 90);
        office.pay(0, 3000);
        for (int month : Check.outside(0, 2)) {
            check.badArgument("month " + month, () -> office.fold(month));
        }
        same("nothing is folded by that", office.laid(0, 0), 1000);
        same("months 0 and 1", office.fold(1), 2000);
        check.badArgument("month 1 is folded", () -> office.fold(1));
        check.badArgument("month 0 is folded", () -> office.fold(0));
        for (int month : Check.outside(0, 2)) {
            check.badArgument("month " + month + ", some are folded", () -> office.fold(month));
        }
        same("month 2 is not folded by that", office.fold(2), 1000);
    }

    // ---- the branch for which is counted

    private void countedFor() {
        check.sentence(TERMS, COUNTED_FOR);
        UnionOffice office = Offices.with(1, 30);
        office.pay(0, 400);
        office.move(0, 3, 0);
        office.pay(0, 600);
        same("paid before it moved", office.laidFor(0, 0), 400);
        same("paid behind it", office.laidFor(3, 0), 600);
        same("by the member", office.laid(0, 0), 1000);
        office.pay(0, 1500);
        office.advance(29);
        office.move(0, 1, 0);
        office.advance(1);
        same("credit: the branch of the month's last day", office.laidFor(1, 1), 1000);
        same("credit: not the branch of the day it was paid", office.laidFor(3, 1), 0);
        office.move(0, 2, 0);
        office.advance(30);
        same("the rest of the credit", office.laidFor(2, 2), 500);
        office.quit(0);
        office.pay(0, 500);
        same("of one that has left", office.laidFor(2, 2), 1000);

        UnionOffice first = Offices.with(1);
        first.pay(0, 2000);
        first.move(0, 1, 0);
        first.advance(30);
        first.move(0, 0, 0);
        same("moved on day 30, behind the month's end", first.laidFor(1, 0), 1000);
        same("its new branch has nothing yet", first.laidFor(0, 0), 0);
        first.advance(30);
        same("but the next month", first.laidFor(0, 1), 1000);
    }

    // ---- the order at a day's end

    private void orderAtTheDaysEnd() {
        check.sentence(TERMS, ORDER);
        strikePayBeforeDues();
        standingOfTheDayThatEnds();
        delegatesOfTheDayThatBegins();
        monthBeforeTheLastDay();
    }

    private void strikePayBeforeDues() {
        UnionOffice office = Offices.with(2);
        office.pay(0, 5000);
        office.setStrikePay(200);
        Offices.ballot(office, 0, 0, true);
        Offices.advanceTo(office, 29);
        office.strike(0, true);
        office.advance(1);
        same("end of day 29: nothing in the fund yet", office.strikePay(0), 0);
        same("then the dues bring it", office.fund(), 200);
        office.advance(1);
        same("end of day 30", office.strikePay(0), 200);
        same("the fund is empty", office.fund(), 0);
        office.setStrikePay(0);
        Offices.advanceTo(office, 59);
        office.setStrikePay(150);
        office.advance(1);
        same("end of day 59: the fund was empty", office.strikePay(0), 200);
        office.advance(1);
        same("end of day 60: the first", office.strikePay(0), 350);
        same("end of day 60: not the second", office.strikePay(1), 0);
        same("what is left", office.fund(), 50);
    }

    private void standingOfTheDayThatEnds() {
        UnionOffice office = Offices.with(2);
        office.pay(1, 100000);
        office.setStrikePay(1);
        Offices.ballot(office, 0, 0, true);
        Offices.advanceTo(office, 89);
        office.strike(0, true);
        office.advance(1);
        same("month 0 is owed: paid at the end of day 89", office.strikePay(0), 1);
        same("and without the standing on day 90", office.hasStanding(0), false);
        office.advance(1);
        same("not paid at the end of day 90", office.strikePay(0), 1);
        same("the other is paid", office.strikePay(1), 2);
    }

    private void delegatesOfTheDayThatBegins() {
        UnionOffice office = Offices.withDues(4, 0, 270);
        office.setDues(0, 1);
        office.advance(30);
        office.setDues(0, 0);
        office.pay(3, 1);
        office.pay(3, 100);
        office.setStrikePay(0);
        Offices.advanceTo(office, 359);
        office.setDues(0, 100);
        same("day 359: month 9 costs nothing yet", office.hasStanding(0), true);
        office.advance(1);
        same("day 360: it does", office.delegates(0), 1);
        same("the dues of month 11 came before", office.laid(3, 11), 100);
        same("month 11 costs nothing yet", office.hasStanding(3), true);
    }

    private void monthBeforeTheLastDay() {
        UnionOffice office = Offices.with(1, 28);
        office.advance(1);
        same("the end of day 28 brings no dues", office.owed(0), 0);
        office.advance(1);
        same("the end of day 29 does", office.owed(0), 1000);
        office.advance(1);
        same("the end of day 30 brings none", office.owed(0), 1000);
    }
}
