/** Promises 1 to 24, one by one: ordinary inputs, the edges that the document names, wrong inputs. */
final class PromisesTest {
    private static final int[] WRONG_NUMBERS = {-1, Integer.MIN_VALUE, Integer.MAX_VALUE};

    private final Check check = new Check();

    public static void main(String[] arguments) {
        PromisesTest test = new PromisesTest();
        test.settingsAndMembers();
        test.ballotsAndStrikes();
        test.daysAndFolding();
        test.whatThereIs();
        test.check.end("PromisesTest");
    }

    private void settingsAndMembers() {
        aNewObject();
        setDues();
        setStrikePay();
        join();
        move();
        leave();
        quit();
        pay();
        payWithCredit();
    }

    private void ballotsAndStrikes() {
        open();
        vote();
        voteAndMove();
        close();
        closeByMembersOfThatDay();
        strike();
        strikeOnlyOnceForABallot();
        strikePayByDays();
    }

    private void daysAndFolding() {
        advance();
        orderAtTheEndOfADay();
        fold();
        paymentsOnFoldedMonths();
    }

    private void whatThereIs() {
        dayAndFund();
        owedAndCredit();
        laid();
        laidFor();
        hasStanding();
        strikePay();
        delegates();
        isOut();
    }

    // ---- helpers

    private void same(String what, Object got, Object due) {
        check.same(what, got, due);
    }

    // ---- promises 1 to 8

    private void aNewObject() {
        UnionOffice office = new UnionOffice();
        same("new: day", office.day(), 0);
        same("new: fund", office.fund(), 0);
        same("new: dues 0", office.setDues(0, 0), 1000);
        same("new: dues 1", office.setDues(1, 0), 2000);
        same("new: dues 2", office.setDues(2, 0), 3000);
        same("new: strike pay", office.setStrikePay(0), 500);
        check.noSuch("new: no member 0", () -> office.owed(0));
        for (int branch = 0; branch < 4; branch++) {
            same("new: delegates", office.delegates(branch), 0);
            same("new: out", office.isOut(branch), false);
        }
        same("new: nothing is shared", new UnionOffice().setDues(0, 5), 1000);
    }

    private void setDues() {
        UnionOffice office = Offices.with(1);
        same("setDues least", office.setDues(0, 0), 1000);
        same("setDues most", office.setDues(0, 100000), 0);
        same("setDues again", office.setDues(0, 100000), 100000);
        for (int band : new int[] {-1, 3, Integer.MIN_VALUE, Integer.MAX_VALUE}) {
            check.noSuch("setDues band " + band, () -> office.setDues(band, 1));
            check.noSuch("setDues band first " + band, () -> office.setDues(band, -1));
        }
        for (int dues : new int[] {-1, 100001, Integer.MIN_VALUE, Integer.MAX_VALUE}) {
            check.badArgument("setDues " + dues, () -> office.setDues(0, dues));
        }
        same("setDues: refused ones set nothing", office.setDues(0, 70), 100000);
        office.advance(29);
        office.setDues(0, 80);
        office.advance(1);
        same("dues as they are at the month's end", office.owed(0), 80);
        office.setDues(0, 90);
        same("dues of ended months stay", office.owed(0), 80);
        office.advance(30);
        same("new dues for the next month", office.owed(0), 170);
    }

    private void setStrikePay() {
        UnionOffice office = new UnionOffice();
        same("setStrikePay most", office.setStrikePay(100000), 500);
        same("setStrikePay least", office.setStrikePay(0), 100000);
        for (int pay : new int[] {-1, 100001, Integer.MIN_VALUE, Integer.MAX_VALUE}) {
            check.badArgument("setStrikePay " + pay, () -> office.setStrikePay(pay));
        }
        same("setStrikePay: refused ones set nothing", office.setStrikePay(7), 0);
        same("setStrikePay again", office.setStrikePay(8), 7);
    }

    private void join() {
        UnionOffice office = new UnionOffice();
        for (int wrong : new int[] {-1, 4, Integer.MIN_VALUE, Integer.MAX_VALUE}) {
            check.noSuch("join branch " + wrong, () -> office.join(wrong, 0));
        }
        for (int wrong : new int[] {-1, 3, Integer.MIN_VALUE, Integer.MAX_VALUE}) {
            check.noSuch("join band " + wrong, () -> office.join(0, wrong));
        }
        for (int member = 0; member < 16; member++) {
            same("join", office.join(member % 4, member % 3), member);
        }
        check.badState("a 17th joins", () -> office.join(0, 0));
        check.noSuch("a 17th joins no branch", () -> office.join(4, 0));
        check.noSuch("a 17th joins no band", () -> office.join(0, 3));
        office.quit(3);
        check.badState("those that left count", () -> office.join(0, 0));
        office.advance(30);
        same("join: dues of the band", office.owed(5), 3000);
        same("join: the last one's dues", office.owed(15), 1000);
        office.pay(5, 3000);
        same("join: its branch", office.laidFor(1, 0), 3000);
    }

    private void move() {
        UnionOffice office = Offices.with(2);
        office.move(0, 3, 2);
        office.advance(30);
        same("move: dues of the new band", office.owed(0), 3000);
        same("move: others stay", office.owed(1), 1000);
        office.pay(0, 100);
        same("move: laid for the new branch", office.laidFor(3, 0), 100);
        same("move: not for the old one", office.laidFor(0, 0), 0);
        same("move: standing is counted in the new branch", office.open(3), 1);
        for (int wrong : new int[] {-1, 2, 16, Integer.MIN_VALUE, Integer.MAX_VALUE}) {
            check.noSuch("move member " + wrong, () -> office.move(wrong, 0, 0));
        }
        for (int wrong : new int[] {-1, 4, Integer.MIN_VALUE, Integer.MAX_VALUE}) {
            check.noSuch("move branch " + wrong, () -> office.move(1, wrong, 0));
        }
        for (int wrong : new int[] {-1, 3, Integer.MIN_VALUE, Integer.MAX_VALUE}) {
            check.noSuch("move band " + wrong, () -> office.move(1, 0, wrong));
        }
        office.quit(1);
        check.badState("move of one that left", () -> office.move(1, 2, 2));
        check.noSuch("move of one that left to no branch", () -> office.move(1, 4, 2));
        check.noSuch("move of one that left to no band", () -> office.move(1, 2, 3));
        office.pay(1, 1000);
        same("move: a refused one moves nothing", office.laidFor(0, 0), 1000);
    }

    private void leave() {
        UnionOffice office = Offices.with(2);
        same("leave: was not", office.leave(0, true), false);
        same("leave: was", office.leave(0, true), true);
        office.advance(30);
        same("leave: owes nothing", office.owed(0), 0);
        same("leave: others owe", office.owed(1), 1000);
        same("leave keeps the standing", office.hasStanding(0), true);
        office.advance(29);
        same("leave ends", office.leave(0, false), true);
        same("leave ended", office.leave(0, false), false);
        office.advance(1);
        same("leave: only the month's last day counts", office.owed(0), 1000);
        office.advance(29);
        office.leave(0, true);
        office.advance(1);
        same("leave begun on the last day", office.owed(0), 1000);
        for (int wrong : new int[] {-1, 2, 16, Integer.MIN_VALUE, Integer.MAX_VALUE}) {
            check.noSuch("leave member " + wrong, () -> office.leave(wrong, true));
        }
        office.quit(1);
        check.badState("leave of one that left", () -> office.leave(1, true));
    }

    private void quit() {
        UnionOffice office = Offices.with(3);
        same("quit: owes nothing", office.quit(0), 0);
        office.advance(60);
        same("quit: owes no more dues", office.owed(0), 0);
        same("quit: what it owes", office.quit(1), 2000);
        office.advance(30);
        same("quit: what it owes stays", office.owed(1), 2000);
        same("quit: no standing", office.hasStanding(0), false);
        for (int wrong : new int[] {-1, 3, 16, Integer.MIN_VALUE, Integer.MAX_VALUE}) {
            check.noSuch("quit member " + wrong, () -> office.quit(wrong));
        }
        check.badState("quit twice", () -> office.quit(1));
        same("quit: pays all", office.pay(1, 2000), 0);
        same("quit: no standing though it owes nothing", office.hasStanding(1), false);
        same("quit: laid for its last branch", office.laidFor(0, 1), 1000);
    }

    private void pay() {
        UnionOffice office = Offices.with(2);
        office.setDues(0, 99);
        Offices.advanceTo(office, 90);
        same("pay: what it owes then", office.pay(0, 104), 193);
        same("pay: the earliest month first", office.laid(0, 0), 99);
        same("pay: the rest on the next", office.laid(0, 1), 5);
        same("pay: a fifth of each month by itself", office.fund(), 19 + 1);
        same("pay: the rest of a month", office.pay(0, 94), 99);
        same("pay: a fifth of each time by itself", office.fund(), 20 + 18);
        same("pay the least", office.pay(0, 1), 98);
        same("pay: nothing of one cent", office.fund(), 38);
        same("pay the most", office.pay(0, 1000000), 0);
        same("pay: left over", office.credit(0), 1000000 - 98);
        same("pay: no fifth of the credit", office.fund(), 38 + 19);
        for (int wrong : new int[] {-1, 2, 16, Integer.MIN_VALUE, Integer.MAX_VALUE}) {
            check.noSuch("pay member " + wrong, () -> office.pay(wrong, 1));
            check.noSuch("pay member first " + wrong, () -> office.pay(wrong, 0));
        }
        for (int amount : new int[] {0, -1, 1000001, Integer.MIN_VALUE, Integer.MAX_VALUE}) {
            check.badArgument("pay " + amount, () -> office.pay(0, amount));
        }
        office.quit(1);
        same("pay of one that left", office.pay(1, 100), 197);
        check.badArgument("one that left pays 0", () -> office.pay(1, 0));
    }

    private void payWithCredit() {
        UnionOffice office = Offices.with(1);
        same("credit: before any month", office.pay(0, 2504), 0);
        same("credit: all of it", office.credit(0), 2504);
        same("credit: no fund yet", office.fund(), 0);
        Offices.advanceTo(office, 90);
        same("credit: laid as months come", office.owed(0), 3000 - 2504);
        same("credit: the last month", office.laid(0, 2), 504);
        same("credit: used up", office.credit(0), 0);
        same("credit: fifths by months", office.fund(), 200 + 200 + 100);
        office.pay(0, 496);
        same("credit: the month is full", office.laid(0, 2), 1000);
        same("credit: fifth of the rest", office.fund(), 500 + 99);
        office.pay(0, 1000);
        office.move(0, 2, 1);
        office.advance(30);
        same("credit: for the branch when it is laid", office.laidFor(2, 3), 1000);
        same("credit: not for the branch when it was paid", office.laidFor(0, 3), 0);
        office.pay(0, 3000);
        office.quit(0);
        office.advance(30);
        same("credit: of one that left stays", office.credit(0), 2000);
    }

    // ---- promises 9 to 12

    private void open() {
        UnionOffice office = Offices.with(3);
        office.join(1, 0);
        office.quit(2);
        same("open: those with standing", office.open(0), 2);
        check.badState("open twice", () -> office.open(0));
        same("open: another branch", office.open(1), 1);
        same("open: nobody there", office.open(3), 0);
        for (int wrong : new int[] {-1, 4, Integer.MIN_VALUE, Integer.MAX_VALUE}) {
            check.noSuch("open branch " + wrong, () -> office.open(wrong));
        }
        same("open: not won by nobody", office.close(3), false);
        same("open again", office.open(3), 0);
        office.close(0);
        Offices.callOut(office, 0, 0);
        check.badState("open on strike", () -> office.open(0));
        office.strike(0, false);
        same("open behind the strike", office.open(0), 2);
        same("open: no old votes", office.vote(0, true), 1);
    }

    private void vote() {
        UnionOffice office = Offices.with(3);
        office.join(1, 0);
        check.badState("vote without ballot", () -> office.vote(0, true));
        office.open(0);
        same("vote yes", office.vote(0, true), 1);
        same("vote no", office.vote(1, false), 2);
        check.badState("vote twice", () -> office.vote(0, false));
        check.badState("vote in another branch's ballot", () -> office.vote(3, true));
        office.quit(2);
        check.badState("vote of one that left", () -> office.vote(2, true));
        for (int wrong : new int[] {-1, 4, 16, Integer.MIN_VALUE, Integer.MAX_VALUE}) {
            check.noSuch("vote member " + wrong, () -> office.vote(wrong, true));
        }
        office.close(0);
        check.badState("vote in a closed ballot", () -> office.vote(1, true));

        UnionOffice late = Offices.with(2);
        late.leave(1, true);
        Offices.advanceTo(late, 90);
        late.open(0);
        check.badState("vote without standing", () -> late.vote(0, true));
        same("vote on leave", late.vote(1, true), 1);
        late.pay(0, 1000);
        same("vote with the standing again", late.vote(0, false), 2);
        late.advance(30);
        late.pay(1, 1);
        same("a tie is not won, though a no has lost its standing", late.close(0), false);
    }

    private void voteAndMove() {
        UnionOffice office = Offices.with(2);
        office.join(1, 0);
        office.open(0);
        office.open(1);
        office.vote(0, true);
        office.move(0, 1, 0);
        same("vote in the new branch too", office.vote(0, true), 1);
        check.badState("vote twice in the new branch", () -> office.vote(0, true));
        office.move(0, 0, 0);
        check.badState("vote twice in the old branch", () -> office.vote(0, true));
        office.move(0, 1, 0);
        same("a vote stays when its member has moved", office.vote(1, true), 2);
        office.move(1, 1, 0);
        same("votes of those that moved count", office.close(0), true);
        office.quit(0);
        same("a vote of one that left counts", office.close(1), true);
    }

    private void close() {
        UnionOffice office = Offices.with(4);
        check.badState("close without ballot", () -> office.close(0));
        for (int wrong : new int[] {-1, 4, Integer.MIN_VALUE, Integer.MAX_VALUE}) {
            check.noSuch("close branch " + wrong, () -> office.close(wrong));
        }
        office.open(0);
        office.vote(0, true);
        same("close: fewer than half voted", office.close(0), false);
        check.badState("close twice", () -> office.close(0));
        office.open(0);
        office.vote(0, true);
        office.vote(1, true);
        same("close: half voted", office.close(0), true);
        office.open(0);
        office.vote(0, true);
        office.vote(1, false);
        same("close: a tie", office.close(0), false);
        office.open(0);
        office.vote(0, true);
        office.vote(1, false);
        office.vote(2, true);
        same("close: more yes than no", office.close(0), true);
        office.open(0);
        same("close: nobody voted", office.close(0), false);
        office.join(0, 0);
        office.open(0);
        office.vote(0, true);
        office.vote(4, true);
        same("close: two of five", office.close(0), false);
        office.open(0);
        office.vote(0, true);
        office.vote(4, true);
        office.vote(3, false);
        same("close: three of five", office.close(0), true);
    }

    private void closeByMembersOfThatDay() {
        UnionOffice office = Offices.with(2);
        office.open(0);
        office.vote(0, true);
        office.join(0, 0);
        same("one of three, one joined later", office.close(0), false);
        office.open(0);
        office.vote(0, true);
        office.quit(1);
        same("one of two, one left later", office.close(0), true);

        UnionOffice late = Offices.with(3);
        late.open(0);
        late.vote(0, true);
        Offices.advanceTo(late, 90);
        same("no standing left, the vote counts", late.close(0), true);
        late.pay(1, 1000);
        late.pay(2, 1000);
        late.open(0);
        late.vote(1, true);
        late.pay(0, 1000);
        same("one of three, one has the standing again", late.close(0), false);
    }

    private void strike() {
        UnionOffice office = Offices.with(1);
        for (int wrong : new int[] {-1, 4, Integer.MIN_VALUE, Integer.MAX_VALUE}) {
            check.noSuch("strike branch " + wrong, () -> office.strike(wrong, true));
            check.noSuch("end strike, branch " + wrong, () -> office.strike(wrong, false));
        }
        check.badState("strike without ballot", () -> office.strike(0, true));
        check.badState("end no strike", () -> office.strike(0, false));
        office.open(0);
        office.vote(0, true);
        check.badState("strike before the ballot is closed", () -> office.strike(0, true));
        office.close(0);
        check.badState("end no strike behind a won ballot", () -> office.strike(0, false));
        check.badState("strike of another branch", () -> office.strike(1, true));
        office.strike(0, true);
        same("on strike", office.isOut(0), true);
        check.badState("strike on strike", () -> office.strike(0, true));
        office.strike(0, false);
        same("no more on strike", office.isOut(0), false);
        check.badState("end it twice", () -> office.strike(0, false));
    }

    private void strikeOnlyOnceForABallot() {
        UnionOffice office = Offices.with(1);
        Offices.callOut(office, 0, 0);
        office.strike(0, false);
        check.badState("strike twice for one ballot", () -> office.strike(0, true));
        office.open(0);
        office.vote(0, true);
        office.close(0);
        office.open(0);
        check.badState("strike while there is a ballot", () -> office.strike(0, true));
        office.vote(0, false);
        office.close(0);
        check.badState("strike, the last one lost", () -> office.strike(0, true));
        office.open(0);
        office.vote(0, true);
        office.close(0);
        Offices.advanceTo(office, 89);
        office.strike(0, true);
        same("a won ballot lasts", office.isOut(0), true);
    }

    private void strikePayByDays() {
        UnionOffice office = Offices.with(2);
        office.join(1, 0);
        office.join(2, 0);
        office.setStrikePay(90);
        Offices.callOut(office, 1, 2);
        Offices.callOut(office, 0, 0);
        office.advance(30);
        same("nothing in the fund on these days", office.strikePay(0), 0);
        office.pay(3, 1000);
        same("fund", office.fund(), 200);
        office.advance(1);
        same("by rising numbers: 0", office.strikePay(0), 90);
        same("by rising numbers: 1", office.strikePay(1), 90);
        same("not as much is there for 2", office.strikePay(2), 0);
        same("not on strike", office.strikePay(3), 0);
        same("fund behind it", office.fund(), 20);
        office.setStrikePay(20);
        office.advance(2);
        same("just as much was there", office.strikePay(0), 110);
        same("the fund is empty", office.fund(), 0);
        office.strike(0, false);
        office.pay(0, 1000);
        office.move(1, 1, 0);
        office.leave(1, true);
        office.advance(1);
        same("strike is over", office.strikePay(0), 110);
        same("moved to a branch on strike, on leave", office.strikePay(1), 110);
        same("still on strike", office.strikePay(2), 20);
        office.quit(2);
        office.advance(1);
        same("none for one that left", office.strikePay(2), 20);
        same("but for the other", office.strikePay(1), 130);
    }

    // ---- promises 13 and 14

    private void advance() {
        UnionOffice office = Offices.with(1);
        same("advance the least", office.advance(1), 1);
        same("advance the most", office.advance(100), 101);
        for (int days : new int[] {0, -1, 101, Integer.MIN_VALUE, Integer.MAX_VALUE}) {
            check.badArgument("advance " + days, () -> office.advance(days));
        }
        Offices.advanceTo(office, 1790);
        check.badState("advance above the last day", () -> office.advance(11));
        check.badArgument("advance by too many days first", () -> office.advance(101));
        same("advance to the last day", office.advance(10), 1800);
        check.badState("advance on the last day", () -> office.advance(1));
        check.badState("advance the most on the last day", () -> office.advance(100));
        check.badArgument("advance by no day on the last day", () -> office.advance(0));
        same("dues of all sixty months", office.owed(0), 60000);
        same("the last month has ended", office.laid(0, 59), 0);
        check.noSuch("there is no month behind it", () -> office.laid(0, 60));
        same("all months can be paid", office.pay(0, 60000), 0);
        same("all months are laid", office.fold(59), 60000);
    }

    private void orderAtTheEndOfADay() {
        UnionOffice office = Offices.with(1);
        office.pay(0, 2000);
        Offices.callOut(office, 0, 0);
        office.setStrikePay(200);
        office.advance(30);
        same("strike pay before dues", office.strikePay(0), 0);
        same("dues behind it", office.fund(), 200);
        office.advance(1);
        same("strike pay of the next day", office.strikePay(0), 200);

        // Day 359 is the last day of month 11; of months 0 to 8 the term is over on day 330.
        UnionOffice year = Offices.with(4);
        for (int member = 0; member < 4; member++) {
            year.pay(member, 10000);
        }
        Offices.advanceTo(year, 359);
        same("delegates before the year", year.delegates(0), 0);
        same("standing on the year's last day", year.hasStanding(3), true);
        year.advance(1);
        same("delegates at the year's beginning", year.delegates(0), 2);

        // What month 9 owes costs the standing on day 360, not on day 359.
        UnionOffice late = Offices.with(1);
        late.setDues(0, 0);
        Offices.advanceTo(late, 299);
        late.setDues(0, 1);
        late.advance(1);
        late.setDues(0, 0);
        Offices.callOut(late, 0, 0);
        late.setStrikePay(0);
        Offices.advanceTo(late, 359);
        same("standing on the day before", late.hasStanding(0), true);
        late.advance(1);
        same("delegates by the day that begins", late.delegates(0), 0);
    }

    private void fold() {
        UnionOffice office = Offices.with(2);
        check.badArgument("fold before the first month's end", () -> office.fold(0));
        Offices.advanceTo(office, 29);
        check.badArgument("fold on the last day", () -> office.fold(0));
        Offices.advanceTo(office, 120);
        office.pay(0, 3500);
        office.pay(1, 1200);
        for (int month : new int[] {-1, 4, 60, Integer.MIN_VALUE, Integer.MAX_VALUE}) {
            check.badArgument("fold " + month, () -> office.fold(month));
        }
        same("fold two months", office.fold(1), 3200);
        check.badArgument("fold again", () -> office.fold(1));
        check.badArgument("fold an earlier one", () -> office.fold(0));
        same("fold the rest", office.fold(3), 1500);
        check.badArgument("fold behind the last ended month", () -> office.fold(4));
        same("what is owed stays", office.owed(1), 2800);
        same("standing goes by folded months", office.hasStanding(1), false);
    }

    private void paymentsOnFoldedMonths() {
        UnionOffice office = Offices.with(2);
        office.quit(1);
        Offices.advanceTo(office, 90);
        same("fold: nothing laid so far", office.fold(0), 0);
        same("pay on folded months", office.pay(0, 1100), 1900);
        check.badState("laid on a folded month", () -> office.laid(0, 0));
        same("laid on a month behind", office.laid(0, 1), 100);
        same("laid for a branch on a folded month", office.laidFor(0, 0), 1000);
        same("fold: only those not folded", office.fold(2), 100);
        same("standing by payments on folded months", office.hasStanding(0), true);
        same("fund by payments on folded months", office.fund(), 220);
    }

    // ---- promises 15 to 24

    private void dayAndFund() {
        UnionOffice office = Offices.with(1);
        office.advance(17);
        same("day", office.day(), 17);
        office.advance(13);
        same("day of the next month", office.day(), 30);
        office.pay(0, 999);
        same("fund", office.fund(), 199);
        office.pay(0, 6);
        same("fund: rounded down each time", office.fund(), 199);
    }

    private void owedAndCredit() {
        UnionOffice office = Offices.with(2);
        for (int wrong : new int[] {-1, 2, 16, Integer.MIN_VALUE, Integer.MAX_VALUE}) {
            check.noSuch("owed of " + wrong, () -> office.owed(wrong));
            check.noSuch("credit of " + wrong, () -> office.credit(wrong));
        }
        office.advance(29);
        same("owes nothing before the month's end", office.owed(0), 0);
        office.advance(1);
        same("owes a month", office.owed(0), 1000);
        office.advance(30);
        same("owes the sum", office.owed(0), 2000);
        same("no credit", office.credit(0), 0);
        office.pay(0, 2000);
        same("no credit when all is paid", office.credit(0), 0);
        office.pay(0, 7);
        office.pay(0, 8);
        same("credit is a sum", office.credit(0), 15);
        same("credit is its own", office.credit(1), 0);
        same("debt is its own", office.owed(1), 2000);
    }

    private void laid() {
        UnionOffice office = Offices.with(2);
        check.noSuch("laid on a month that has not ended", () -> office.laid(0, 0));
        office.pay(0, 1500);
        Offices.advanceTo(office, 60);
        same("laid of credit", office.laid(0, 0), 1000);
        same("laid of what is left", office.laid(0, 1), 500);
        same("laid is its own", office.laid(1, 0), 0);
        for (int month : new int[] {-1, 2, 60, Integer.MIN_VALUE, Integer.MAX_VALUE}) {
            check.noSuch("laid on month " + month, () -> office.laid(0, month));
        }
        for (int wrong : new int[] {-1, 2, 16, Integer.MIN_VALUE, Integer.MAX_VALUE}) {
            check.noSuch("laid by " + wrong, () -> office.laid(wrong, 0));
        }
        office.fold(0);
        check.badState("laid on a folded month", () -> office.laid(0, 0));
        check.noSuch("laid on a folded month by nobody", () -> office.laid(2, 0));
        check.noSuch("laid below 0 with folded months", () -> office.laid(0, -1));
        same("laid behind the folded one", office.laid(0, 1), 500);
    }

    private void laidFor() {
        UnionOffice office = Offices.with(2);
        check.noSuch("laidFor before the month's end", () -> office.laidFor(0, 0));
        Offices.advanceTo(office, 60);
        office.pay(0, 600);
        office.pay(1, 70);
        same("laidFor: all members", office.laidFor(0, 0), 670);
        office.move(0, 3, 0);
        office.pay(0, 500);
        same("laidFor: the old branch keeps it", office.laidFor(0, 0), 670);
        same("laidFor: the new branch", office.laidFor(3, 0), 400);
        same("laidFor: the new branch, next month", office.laidFor(3, 1), 100);
        for (int month : new int[] {-1, 2, 60, Integer.MIN_VALUE, Integer.MAX_VALUE}) {
            check.noSuch("laidFor month " + month, () -> office.laidFor(0, month));
        }
        for (int wrong : new int[] {-1, 4, Integer.MIN_VALUE, Integer.MAX_VALUE}) {
            check.noSuch("laidFor branch " + wrong, () -> office.laidFor(wrong, 0));
        }
        office.fold(1);
        same("laidFor a folded month", office.laidFor(3, 0), 400);
        office.quit(1);
        office.pay(1, 30);
        same("laidFor one that left", office.laidFor(0, 0), 700);
    }

    private void hasStanding() {
        UnionOffice office = Offices.with(2);
        same("standing at once", office.hasStanding(0), true);
        Offices.advanceTo(office, 89);
        same("standing on the term's last day", office.hasStanding(0), true);
        office.advance(1);
        same("no standing behind the term", office.hasStanding(0), false);
        office.pay(0, 999);
        same("no standing with one cent owed", office.hasStanding(0), false);
        office.pay(0, 1);
        same("standing with later months owed", office.hasStanding(0), true);
        office.advance(30);
        same("no standing behind the next term", office.hasStanding(0), false);
        office.pay(0, 1000);
        office.quit(0);
        same("no standing for one that left", office.hasStanding(0), false);
        for (int wrong : new int[] {-1, 2, 16, Integer.MIN_VALUE, Integer.MAX_VALUE}) {
            check.noSuch("standing of " + wrong, () -> office.hasStanding(wrong));
        }

        UnionOffice free = Offices.with(1);
        free.setDues(0, 0);
        Offices.advanceTo(free, 300);
        same("standing where the dues are 0", free.hasStanding(0), true);
        free.setDues(0, 5);
        Offices.advanceTo(free, 389);
        same("the term begins with what is owed", free.hasStanding(0), true);
        free.advance(1);
        same("and ends", free.hasStanding(0), false);
    }

    private void strikePay() {
        UnionOffice office = Offices.with(2);
        office.join(1, 0);
        office.advance(30);
        office.pay(2, 1000);
        for (int times = 0; times < 9; times++) {
            office.pay(2, 1000000);
        }
        Offices.advanceTo(office, 120);
        int before = office.fund();
        same("fund before the strike", before, 800);
        office.pay(0, 4000);
        office.setStrikePay(150);
        Offices.callOut(office, 0, 0);
        office.advance(2);
        same("strike pay of two days", office.strikePay(0), 300);
        same("no strike pay without standing", office.strikePay(1), 0);
        same("no strike pay without strike", office.strikePay(2), 0);
        same("strike pay comes from the fund", office.fund(), before + 800 - 300);
        same("strike pay is no credit", office.credit(0), 0);
        for (int wrong : WRONG_NUMBERS) {
            check.noSuch("strike pay of " + wrong, () -> office.strikePay(wrong));
        }
        check.noSuch("strike pay of the next", () -> office.strikePay(3));
    }

    private void delegates() {
        UnionOffice office = Offices.with(7);
        office.join(1, 0);
        office.join(2, 0);
        office.join(2, 0);
        office.join(2, 0);
        same("delegates only at a year's beginning", office.delegates(0), 0);
        for (int member = 0; member < 11; member++) {
            office.pay(member, 100000);
        }
        office.quit(10);
        Offices.advanceTo(office, 360);
        same("seven: three delegates", office.delegates(0), 3);
        same("one: one delegate", office.delegates(1), 1);
        same("two: one delegate", office.delegates(2), 1);
        same("none: no delegate", office.delegates(3), 0);
        office.quit(6);
        office.move(0, 3, 0);
        same("delegates stay for the year", office.delegates(0), 3);
        Offices.advanceTo(office, 719);
        same("delegates stay to the year's end", office.delegates(0), 3);
        office.advance(1);
        same("five: two delegates", office.delegates(0), 2);
        same("one moved there", office.delegates(3), 1);
        office.move(7, 3, 0);
        office.move(8, 3, 0);
        Offices.advanceTo(office, 1080);
        same("three: one delegate", office.delegates(3), 1);
        same("none any more", office.delegates(1), 0);
        for (int wrong : WRONG_NUMBERS) {
            check.noSuch("delegates of " + wrong, () -> office.delegates(wrong));
        }
        check.noSuch("delegates of branch 4", () -> office.delegates(4));
    }

    private void isOut() {
        UnionOffice office = Offices.with(1);
        office.join(3, 0);
        Offices.callOut(office, 3, 1);
        same("out", office.isOut(3), true);
        same("others are not out", office.isOut(0), false);
        office.advance(100);
        same("out as long as nobody ends it", office.isOut(3), true);
        office.strike(3, false);
        same("in again", office.isOut(3), false);
        for (int wrong : WRONG_NUMBERS) {
            check.noSuch("out of " + wrong, () -> office.isOut(wrong));
        }
        check.noSuch("out of branch 4", () -> office.isOut(4));
    }
}
