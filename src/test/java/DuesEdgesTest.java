/** The edges of dues, of what is laid, of the fund's fifth and of the standing. */
final class DuesEdgesTest {
    private static final String TERMS = "Terms";
    private static final String OWES = "At the end of each month each member that has not left, and is "
            + "not on leave that day, owes the dues of its band (as they are then) for that month.";
    private static final String LAYS = "What a member pays is laid on the months for which it owes "
            + "something, the earliest one first; what is left over is its credit, which is laid on "
            + "months when they come to be owed.";
    private static final String FIFTH = "Of all that is laid on months the fund gets a fifth, rounded "
            + "down for each month and each time by itself.";
    private static final String STANDS = "A member has the standing on a day if it has not left, and "
            + "owes nothing for any month m for which that day is 30 * (m + 1) + 60 or later.";

    private final Check check = new Check();

    public static void main(String[] arguments) {
        DuesEdgesTest test = new DuesEdgesTest();
        test.owing();
        test.laying();
        test.fifths();
        test.standing();
        test.asking();
        test.check.end("DuesEdgesTest");
    }

    private void same(String what, Object got, Object due) {
        check.same(what, got, due);
    }

    // ---- what is owed

    private void owing() {
        check.sentence(TERMS, "Each band has dues for a month.");
        duesOfEachBand();
        check.sentence(TERMS, OWES);
        duesComeWithTheMonthsEnd();
        joinedOnTheLastAndTheFirstDay();
        leftOnTheLastAndTheFirstDay();
        awayOnTheLastDay();
        duesAsTheyAreThen();
        duesOfSeveralMonthsAtOnce();
        firstAndLastMonth();
    }

    private void duesOfEachBand() {
        UnionOffice office = new UnionOffice();
        for (int band = 0; band < 3; band++) {
            office.join(0, band);
        }
        office.advance(30);
        for (int band = 0; band < 3; band++) {
            same("at first, band " + band, office.owed(band), 1000 * (band + 1));
        }
        office.setDues(1, 7);
        office.advance(30);
        same("band 0 is not band 1", office.owed(0), 2000);
        same("band 1 is set", office.owed(1), 2007);
        same("band 2 is not band 1", office.owed(2), 6000);
    }

    private void duesComeWithTheMonthsEnd() {
        UnionOffice office = Offices.with(1, 29);
        same("on day 29", office.owed(0), 0);
        office.advance(1);
        same("on day 30", office.owed(0), 1000);
        office.advance(29);
        same("on day 59", office.owed(0), 1000);
        office.advance(1);
        same("on day 60", office.owed(0), 2000);
    }

    private void joinedOnTheLastAndTheFirstDay() {
        UnionOffice office = Offices.with(0, 29);
        office.join(0, 0);
        office.advance(1);
        office.join(0, 0);
        same("joined on day 29", office.owed(0), 1000);
        same("joined on day 30", office.owed(1), 0);
        office.advance(30);
        same("joined on day 29, a month on", office.owed(0), 2000);
        same("joined on day 30, a month on", office.owed(1), 1000);
        office.pay(1, 1000);
        same("nothing is laid on the month before it joined", office.laid(1, 0), 0);
        same("it is laid on its first month", office.laid(1, 1), 1000);
    }

    private void leftOnTheLastAndTheFirstDay() {
        UnionOffice office = Offices.with(2, 29);
        office.quit(0);
        office.advance(1);
        office.quit(1);
        same("left on day 29", office.owed(0), 0);
        same("left on day 30", office.owed(1), 1000);
        office.advance(30);
        same("left on day 29, a month on", office.owed(0), 0);
        same("left on day 30, a month on", office.owed(1), 1000);
    }

    private void awayOnTheLastDay() {
        UnionOffice office = Offices.with(5);
        office.leave(0, true);
        office.leave(1, true);
        office.advance(28);
        office.leave(2, true);
        office.leave(2, false);
        office.advance(1);
        office.leave(1, false);
        office.leave(3, true);
        office.advance(1);
        office.leave(4, true);
        same("on leave all the month", office.owed(0), 0);
        same("on leave until day 29", office.owed(1), 1000);
        same("on leave on day 28 only", office.owed(2), 1000);
        same("on leave from day 29 on", office.owed(3), 0);
        same("on leave from day 30 on", office.owed(4), 1000);
        office.advance(30);
        same("still on leave a month on", office.owed(3), 0);
        same("what was owed before stays", office.owed(4), 1000);
    }

    private void duesAsTheyAreThen() {
        UnionOffice office = Offices.with(3, 29);
        office.move(1, 0, 2);
        office.setDues(0, 7);
        office.advance(1);
        office.setDues(0, 8);
        office.move(2, 0, 2);
        same("dues set on day 29", office.owed(0), 7);
        same("in band 2 from day 29 on", office.owed(1), 3000);
        same("in band 2 from day 30 on", office.owed(2), 7);
        office.advance(30);
        same("dues set on day 30 count for the next month", office.owed(0), 15);
        same("the new band counts for the next month", office.owed(2), 3007);
    }

    private void duesOfSeveralMonthsAtOnce() {
        UnionOffice office = Offices.with(1, 29);
        office.advance(1);
        office.advance(60);
        same("two month's ends in one call", office.owed(0), 3000);
        office.advance(29);
        office.advance(100);
        same("four month's ends in one call, days 119 to 219", office.owed(0), 7000);
    }

    private void firstAndLastMonth() {
        UnionOffice office = Offices.with(1, 1799);
        same("months 0 to 58 on day 1799", office.owed(0), 59000);
        office.advance(1);
        same("months 0 to 59 on day 1800", office.owed(0), 60000);
        same("all but a cent", office.pay(0, 59999), 1);
        same("laid on the first month", office.laid(0, 0), 1000);
        same("laid on the last month", office.laid(0, 59), 999);
        same("the last cent", office.pay(0, 1), 0);
        same("laid on the last month then", office.laid(0, 59), 1000);
        same("no credit", office.credit(0), 0);
        office.pay(0, 1);
        same("one cent more is credit for ever", office.credit(0), 1);
    }

    // ---- what is laid

    private void laying() {
        check.sentence(TERMS, LAYS);
        earliestFirst();
        monthsWithoutDues();
        creditThatIsJustEnough();
        creditWithoutDues();
    }

    private void earliestFirst() {
        UnionOffice office = Offices.with(1, 90);
        same("a cent less than a month", office.pay(0, 999), 2001);
        laidIs(office, 999, 0, 0);
        same("that cent", office.pay(0, 1), 2000);
        laidIs(office, 1000, 0, 0);
        same("a cent more than a month", office.pay(0, 1001), 999);
        laidIs(office, 1000, 1000, 1);
        same("all that is owed", office.pay(0, 999), 0);
        laidIs(office, 1000, 1000, 1000);
        same("no credit with just all", office.credit(0), 0);
        same("a cent more than all", office.pay(0, 1), 0);
        same("it is credit", office.credit(0), 1);
        laidIs(office, 1000, 1000, 1000);
    }

    private void monthsWithoutDues() {
        UnionOffice office = Offices.with(1, 30);
        office.leave(0, true);
        office.advance(30);
        office.leave(0, false);
        office.setDues(0, 0);
        office.advance(30);
        office.setDues(0, 1000);
        office.advance(30);
        same("two of four months are owed", office.owed(0), 2000);
        office.pay(0, 1001);
        laidIs(office, 1000, 0, 0, 1);
        office.pay(0, 1000);
        laidIs(office, 1000, 0, 0, 1000);
        same("what is left over", office.credit(0), 1);
    }

    private void creditThatIsJustEnough() {
        UnionOffice office = Offices.with(4);
        for (int member = 0; member < 3; member++) {
            same("nothing is owed on day 0", office.pay(member, 999 + member), 0);
        }
        office.pay(3, 2000);
        office.advance(29);
        same("still credit on day 29", office.credit(1), 1000);
        office.advance(1);
        same("a cent too little: owed", office.owed(0), 1);
        same("a cent too little: credit", office.credit(0), 0);
        same("a cent too little: laid", office.laid(0, 0), 999);
        same("just enough: owed", office.owed(1), 0);
        same("just enough: credit", office.credit(1), 0);
        same("a cent too much: owed", office.owed(2), 0);
        same("a cent too much: credit", office.credit(2), 1);
        same("for two months: credit", office.credit(3), 1000);
        office.advance(30);
        same("for two months: owed", office.owed(3), 0);
        same("for two months: the second", office.laid(3, 1), 1000);
        same("that cent is laid on the next month", office.laid(2, 1), 1);
        same("and the rest is owed", office.owed(2), 999);
        office.advance(30);
        same("no credit for the third month", office.owed(3), 1000);
    }

    private void creditWithoutDues() {
        UnionOffice office = Offices.with(2);
        office.pay(0, 1000);
        office.pay(1, 1000);
        office.leave(0, true);
        office.quit(1);
        office.advance(30);
        same("on leave: credit stays", office.credit(0), 1000);
        same("on leave: nothing is laid", office.laid(0, 0), 0);
        same("has left: credit stays", office.credit(1), 1000);
        same("has left: nothing is laid", office.laid(1, 0), 0);
        office.leave(0, false);
        office.setDues(0, 0);
        office.advance(30);
        same("dues of 0: credit stays", office.credit(0), 1000);
        office.setDues(0, 400);
        office.advance(30);
        same("dues again: laid", office.laid(0, 2), 400);
        same("dues again: credit", office.credit(0), 600);
    }

    private void laidIs(UnionOffice office, int... due) {
        for (int month = 0; month < due.length; month++) {
            same("laid on month " + month, office.laid(0, month), due[month]);
            same("laid for the branch on month " + month, office.laidFor(0, month), due[month]);
        }
    }

    // ---- the fund's fifth

    private void fifths() {
        check.sentence(TERMS, FIFTH);
        for (int dues : new int[] {0, 1, 4, 5, 9, 10, 99999, 100000}) {
            fifthOfOneMonth(dues);
            fifthOfCredit(dues);
        }
        fifthOfEachTime();
        fifthOfEachMonth();
        fifthOfEachMember();
        noFifthOfWhatIsNotLaid();
    }

    private void fifthOfOneMonth(int dues) {
        UnionOffice office = Offices.withDues(1, dues, 30);
        office.pay(0, 100001);
        same("dues " + dues, office.fund(), dues / 5);
    }

    private void fifthOfCredit(int dues) {
        UnionOffice office = Offices.withDues(1, dues, 0);
        office.pay(0, 200001);
        office.advance(29);
        same("none before the month's end", office.fund(), 0);
        office.advance(1);
        same("credit laid on dues " + dues, office.fund(), dues / 5);
        office.advance(30);
        same("credit laid on two months", office.fund(), 2 * (dues / 5));
    }

    private void fifthOfEachTime() {
        UnionOffice office = Offices.withDues(1, 15, 30);
        office.pay(0, 4);
        same("4 laid", office.fund(), 0);
        office.pay(0, 1);
        same("1 laid behind 4", office.fund(), 0);
        office.pay(0, 5);
        same("5 laid", office.fund(), 1);
        office.pay(0, 4);
        same("4 laid behind 5", office.fund(), 1);
        office.pay(0, 1);
        same("the last one", office.fund(), 1);

        UnionOffice credit = Offices.withDues(1, 8, 0);
        credit.pay(0, 4);
        credit.advance(30);
        same("4 of credit", credit.fund(), 0);
        credit.pay(0, 4);
        same("4 behind 4 of credit", credit.fund(), 0);

        UnionOffice two = Offices.withDues(1, 10, 0);
        two.pay(0, 4);
        two.pay(0, 4);
        two.advance(30);
        same("credit of two payments is laid at one time", two.fund(), 1);
    }

    private void fifthOfEachMonth() {
        UnionOffice four = Offices.withDues(1, 4, 90);
        four.pay(0, 12);
        same("12 on three months of 4", four.fund(), 0);
        UnionOffice nine = Offices.withDues(1, 9, 60);
        nine.pay(0, 18);
        same("18 on two months of 9", nine.fund(), 2);
        UnionOffice parts = Offices.withDues(1, 5, 60);
        parts.pay(0, 9);
        same("9 on two months of 5: 5 and 4", parts.fund(), 1);
        parts.pay(0, 1);
        same("the last one", parts.fund(), 1);
    }

    private void fifthOfEachMember() {
        UnionOffice office = Offices.withDues(2, 4, 0);
        office.pay(0, 4);
        office.pay(1, 4);
        office.advance(30);
        same("4 of two members on the same day", office.fund(), 0);
    }

    private void noFifthOfWhatIsNotLaid() {
        UnionOffice office = Offices.with(1, 29);
        office.pay(0, 1000000);
        same("of credit before the first month's end", office.fund(), 0);
        office.advance(1);
        same("of the one month alone", office.fund(), 200);
    }

    // ---- the standing

    private void standing() {
        check.sentence(TERMS, STANDS);
        standingOfTheFirstMonths();
        standingOfTheLastMonths();
        standingByCents();
        standingOfOneThatLeft();
        standingOfANewMember();
        standingWithMonthsFolded();
    }

    private void standingOfTheFirstMonths() {
        UnionOffice office = Offices.with(1, 89);
        same("month 0 is owed, day 89", office.hasStanding(0), true);
        office.advance(1);
        same("month 0 is owed, day 90", office.hasStanding(0), false);
        office.pay(0, 1000);
        same("month 0 is paid on day 90", office.hasStanding(0), true);
        office.advance(29);
        same("month 1 is owed, day 119", office.hasStanding(0), true);
        office.advance(1);
        same("month 1 is owed, day 120", office.hasStanding(0), false);
        office.pay(0, 1000);
        same("month 1 is paid on day 120", office.hasStanding(0), true);
        office.advance(100);
        same("far behind it", office.hasStanding(0), false);
    }

    /** 30 * (57 + 1) + 60 is 1800, the last day: month 57 is the last one that can cost the standing. */
    private void standingOfTheLastMonths() {
        UnionOffice office = onlyMonthOwed(57);
        Offices.advanceTo(office, 1799);
        same("month 57 is owed, day 1799", office.hasStanding(0), true);
        office.advance(1);
        same("month 57 is owed, day 1800", office.hasStanding(0), false);
        office.pay(0, 1);
        same("month 57 is paid", office.hasStanding(0), true);
        UnionOffice later = onlyMonthOwed(58);
        Offices.advanceTo(later, 1800);
        same("month 58 is owed, day 1800", later.hasStanding(0), true);
        UnionOffice last = onlyMonthOwed(59);
        same("month 59 is owed, day 1800", last.hasStanding(0), true);
    }

    private UnionOffice onlyMonthOwed(int month) {
        UnionOffice office = Offices.withDues(1, 0, 30 * month);
        office.setDues(0, 1);
        office.advance(30);
        office.setDues(0, 0);
        same("one cent is owed for month " + month, office.owed(0), 1);
        return office;
    }

    private void standingByCents() {
        UnionOffice office = Offices.with(1, 90);
        office.pay(0, 999);
        same("a cent is owed for month 0", office.hasStanding(0), false);
        office.pay(0, 1);
        same("that cent is paid", office.hasStanding(0), true);
        UnionOffice several = Offices.with(1, 150);
        several.pay(0, 2999);
        same("a cent is owed for month 2, day 150", several.hasStanding(0), false);
        several.pay(0, 1);
        same("months 3 and 4 are owed, day 150", several.hasStanding(0), true);
    }

    private void standingOfOneThatLeft() {
        UnionOffice office = Offices.with(1);
        same("before it leaves", office.hasStanding(0), true);
        office.quit(0);
        same("at once", office.hasStanding(0), false);
        office.pay(0, 1000);
        same("with credit", office.hasStanding(0), false);
        office.advance(90);
        same("later", office.hasStanding(0), false);
    }

    private void standingOfANewMember() {
        UnionOffice office = Offices.with(0, 1800);
        office.join(0, 0);
        same("joined on the last day", office.hasStanding(0), true);
        UnionOffice late = Offices.with(0, 29);
        late.join(0, 0);
        late.advance(1);
        late.join(0, 0);
        late.advance(60);
        same("joined on day 29, day 90", late.hasStanding(0), false);
        same("joined on day 30, day 90", late.hasStanding(1), true);
    }

    private void standingWithMonthsFolded() {
        UnionOffice office = Offices.with(1, 89);
        office.fold(1);
        same("folded and owed, day 89", office.hasStanding(0), true);
        office.advance(1);
        same("folded and owed, day 90", office.hasStanding(0), false);
        office.pay(0, 1000);
        same("folded and paid", office.hasStanding(0), true);
    }

    // ---- promises 16 to 18

    private void asking() {
        check.sentence("Promise 17", "Returns the sum over all months.");
        UnionOffice office = Offices.with(1, 60);
        office.fold(0);
        same("folded months too", office.owed(0), 2000);
        office.pay(0, 1);
        same("a part of a folded month", office.owed(0), 1999);

        check.sentence("Promise 18", "Returns the credit of a member.");
        same("none while something is owed", office.credit(0), 0);
        office.pay(0, 1999);
        same("none when just all is paid", office.credit(0), 0);
        office.pay(0, 1000000);
        same("the most of one payment", office.credit(0), 1000000);

        check.sentence("Promise 21", "Tells whether a member has the standing today.");
        UnionOffice today = Offices.with(1, 89);
        same("today is day 89", today.hasStanding(0), true);
        today.advance(1);
        same("today is day 90", today.hasStanding(0), false);

        check.sentence("Promise 16", "Returns the fund.");
        // 1 of month 0, its other 999, and 1000 of month 1.
        same("fifths by times", office.fund(), 0 + 199 + 200);
    }
}
