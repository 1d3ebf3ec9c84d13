/**
 * The office of a union: members in branches with bands of pay and leave, dues with arrears that
 * cost the vote behind a term, ballots, strikes with pay from a fund by days, delegates by the size
 * of branches, and months that are folded to sums. All money is told in cents.
 */
public final class UnionOffice {
    private static final int MOST_MEMBERS = 16;
    private static final int DAYS_OF_MONTH = 30;
    private static final int DAYS_OF_YEAR = 360;
    private static final int LAST_DAY = 1800;
    private static final int MONTHS = LAST_DAY / DAYS_OF_MONTH;
    private static final int MOST_DAYS = 100;
    private static final int TERM_OF_ARREARS = 60;
    private static final int MOST_DUES = 100000;
    private static final int MOST_STRIKE_PAY = 100000;
    private static final int MOST_PAID = 1000000;
    private static final int LAID_FOR_ONE_IN_FUND = 5;
    private static final int MEMBERS_FOR_DELEGATE = 3;

    private final Band[] bands = {new Band(1000), new Band(2000), new Band(3000)};
    private final Branch[] branches = {new Branch(), new Branch(), new Branch(), new Branch()};
    private final Member[] members = new Member[MOST_MEMBERS];
    private int joined = 0;
    private int payOfStrikeDay = 500;
    private int today = 0;
    private int inFund = 0;
    private int foldedMonths = 0;

    /** Makes an office on day 0, without members and with an empty fund. */
    public UnionOffice() {
    }

    // ---- settings and members

    /** Sets the dues of a band for a month; returns the dues before. */
    public int setDues(int band, int dues) throws IndexOutOfBoundsException, IllegalArgumentException {
        Band changed = bandAt(band);
        checkRange(dues, 0, MOST_DUES);
        int before = changed.monthlyDues;
        changed.monthlyDues = dues;
        return before;
    }

    /** Sets the strike pay of a day; returns the pay before. */
    public int setStrikePay(int pay) throws IllegalArgumentException {
        checkRange(pay, 0, MOST_STRIKE_PAY);
        int before = payOfStrikeDay;
        payOfStrikeDay = pay;
        return before;
    }

    /** A member joins; returns its number. */
    public int join(int branch, int band) throws IndexOutOfBoundsException, IllegalStateException {
        Branch home = branchAt(branch);
        Band pays = bandAt(band);
        if (joined >= members.length) {
            throw new IllegalStateException("the union has all its members");
        }
        int number = joined;
        members[number] = new Member(number, home, pays);
        joined++;
        return number;
    }

    /** A member comes to another branch and band. */
    public void move(int member, int branch, int band)
            throws IndexOutOfBoundsException, IllegalStateException {
        Member mover = memberAt(member);
        Branch home = branchAt(branch);
        Band pays = bandAt(band);
        checkNotLeft(mover);
        mover.branch = home;
        mover.band = pays;
    }

    /** Begins or ends the leave of a member; returns whether it was on leave. */
    public boolean leave(int member, boolean isAway)
            throws IndexOutOfBoundsException, IllegalStateException {
        Member leaver = memberAt(member);
        checkNotLeft(leaver);
        boolean before = leaver.isOnLeave;
        leaver.isOnLeave = isAway;
        return before;
    }

    /** A member leaves the union for ever; returns what it owes. */
    public int quit(int member) throws IndexOutOfBoundsException, IllegalStateException {
        Member quitter = memberAt(member);
        checkNotLeft(quitter);
        quitter.hasLeft = true;
        return quitter.sumOwed();
    }

    /** A member pays, whether or not it has left; returns what it owes then. */
    public int pay(int member, int amount) throws IndexOutOfBoundsException, IllegalArgumentException {
        Member payer = memberAt(member);
        checkRange(amount, 1, MOST_PAID);
        inFund += payer.takeIn(amount);
        return payer.sumOwed();
    }

    // ---- ballots and strikes

    /** Opens a ballot of a branch; returns how many members of it have the standing. */
    public int open(int branch) throws IndexOutOfBoundsException, IllegalStateException {
        Branch opened = branchAt(branch);
        if (opened.hasBallot || opened.isOnStrike) {
            throw new IllegalStateException("the branch has a ballot or is on strike");
        }
        opened.beginBallot();
        return countStanding(opened);
    }

    /** A member votes in the ballot of its branch; returns how many have voted in it. */
    public int vote(int member, boolean isYes) throws IndexOutOfBoundsException, IllegalStateException {
        Member voter = memberAt(member);
        Branch asked = voter.branch;
        if (!asked.hasBallot || !voter.standsOn(today) || asked.hasVoteOf(voter)) {
            throw new IllegalStateException("the member can't vote");
        }
        asked.takeVote(voter, isYes);
        return asked.countVotes();
    }

    /** Closes the ballot of a branch; returns whether it is won. */
    public boolean close(int branch) throws IndexOutOfBoundsException, IllegalStateException {
        Branch closed = branchAt(branch);
        if (!closed.hasBallot) {
            throw new IllegalStateException("the branch has no ballot");
        }
        closed.endBallot(countStanding(closed));
        return closed.mayStrike;
    }

    /** Calls a branch out on strike, or ends its strike. */
    public void strike(int branch, boolean isOut) throws IndexOutOfBoundsException, IllegalStateException {
        Branch called = branchAt(branch);
        if (isOut ? !called.canBeCalledOut() : !called.isOnStrike) {
            throw new IllegalStateException("the branch can't be called out, or is not on strike");
        }
        called.isOnStrike = isOut;
        // One won ballot carries one strike, so it is used up as soon as the strike begins.
        called.mayStrike = false;
    }

    // ---- days, folding

    /** Lets days end; returns the day then. */
    public int advance(int days) throws IllegalArgumentException, IllegalStateException {
        checkRange(days, 1, MOST_DAYS);
        if (days > LAST_DAY - today) {
            throw new IllegalStateException("the day would be above the last one");
        }
        for (int ended = 0; ended < days; ended++) {
            endDay();
        }
        return today;
    }

    /** Folds all months up to this one that are not folded; returns what was laid on them so far. */
    public int fold(int month) throws IllegalArgumentException {
        if (!hasEnded(month) || month < foldedMonths) {
            throw new IllegalArgumentException("the month has not ended, or is folded");
        }
        int sum = 0;
        for (int folding = foldedMonths; folding <= month; folding++) {
            sum += sumLaidOn(folding);
        }
        foldedMonths = month + 1;
        return sum;
    }

    // ---- what there is

    /** Returns the day. */
    public int day() {
        return today;
    }

    /** Returns the fund. */
    public int fund() {
        return inFund;
    }

    /** Returns what a member owes for all months. */
    public int owed(int member) throws IndexOutOfBoundsException {
        return memberAt(member).sumOwed();
    }

    /** Returns the credit of a member. */
    public int credit(int member) throws IndexOutOfBoundsException {
        return memberAt(member).leftOver;
    }

    /** Returns what a member has laid on a month. */
    public int laid(int member, int month) throws IndexOutOfBoundsException, IllegalStateException {
        Member asked = memberAt(member);
        checkEnded(month);
        if (month < foldedMonths) {
            throw new IllegalStateException("the month is folded");
        }
        return asked.laidOn[month];
    }

    /** Returns what was laid on a month for a branch. */
    public int laidFor(int branch, int month) throws IndexOutOfBoundsException {
        Branch asked = branchAt(branch);
        checkEnded(month);
        return asked.laidOn[month];
    }

    /** Tells whether a member has the standing today. */
    public boolean hasStanding(int member) throws IndexOutOfBoundsException {
        return memberAt(member).standsOn(today);
    }

    /** Returns the strike pay that a member has had. */
    public int strikePay(int member) throws IndexOutOfBoundsException {
        return memberAt(member).strikePayHad;
    }

    /** Returns the delegates of a branch. */
    public int delegates(int branch) throws IndexOutOfBoundsException {
        return branchAt(branch).delegatesOfYear;
    }

    /** Tells whether a branch is on strike. */
    public boolean isOut(int branch) throws IndexOutOfBoundsException {
        return branchAt(branch).isOnStrike;
    }

    // ---- what the calls look up and test

    private Band bandAt(int band) {
        if (band < 0 || band >= bands.length) {
            throw new IndexOutOfBoundsException("no such band");
        }
        return bands[band];
    }

    private Branch branchAt(int branch) {
        if (branch < 0 || branch >= branches.length) {
            throw new IndexOutOfBoundsException("no such branch");
        }
        return branches[branch];
    }

    private Member memberAt(int number) {
        if (number < 0 || number >= members.length || members[number] == null) {
            throw new IndexOutOfBoundsException("no such member");
        }
        return members[number];
    }

    private void checkNotLeft(Member member) {
        if (member.hasLeft) {
            throw new IllegalStateException("the member has left");
        }
    }

    private void checkRange(int value, int least, int most) {
        if (value < least || value > most) {
            throw new IllegalArgumentException("out of range");
        }
    }

    private void checkEnded(int month) {
        if (!hasEnded(month)) {
            throw new IndexOutOfBoundsException("the month has not ended");
        }
    }

    private boolean hasEnded(int month) {
        return month >= 0 && month < MONTHS && month < today / DAYS_OF_MONTH;
    }

    private int countStanding(Branch branch) {
        int count = 0;
        for (Member member : members) {
            if (member != null && member.branch == branch && member.standsOn(today)) {
                count++;
            }
        }
        return count;
    }

    private int sumLaidOn(int month) {
        int sum = 0;
        for (Branch branch : branches) {
            sum += branch.laidOn[month];
        }
        return sum;
    }

    // ---- the end of a day

    private void endDay() {
        payStrikers();
        if (today % DAYS_OF_MONTH == DAYS_OF_MONTH - 1) {
            chargeDues(today / DAYS_OF_MONTH);
        }
        today++;
        if (today % DAYS_OF_YEAR == 0) {
            countDelegates();
        }
    }

    private void payStrikers() {
        for (Member member : members) {
            if (member != null && member.branch.isOnStrike && member.standsOn(today)
                    && inFund >= payOfStrikeDay) {
                inFund -= payOfStrikeDay;
                member.strikePayHad += payOfStrikeDay;
            }
        }
    }

    private void chargeDues(int month) {
        for (Member member : members) {
            if (member != null && !member.hasLeft && !member.isOnLeave) {
                inFund += member.charge(month);
            }
        }
    }

    private void countDelegates() {
        for (Branch branch : branches) {
            int standing = countStanding(branch);
            branch.delegatesOfYear = (standing + MEMBERS_FOR_DELEGATE - 1) / MEMBERS_FOR_DELEGATE;
        }
    }

    /** A band of pay. */
    private static final class Band {
        private int monthlyDues;

        private Band(int monthlyDues) {
            this.monthlyDues = monthlyDues;
        }
    }

    /** A branch, with its ballot, its strike, its delegates and what was laid for it. */
    private static final class Branch {
        private final int[] laidOn = new int[MONTHS];
        private boolean hasBallot = false;
        // The bit of a member's number is set for those who voted, and for those who voted yes.
        private int voters = 0;
        private int yesVoters = 0;
        private boolean mayStrike = false;
        private boolean isOnStrike = false;
        private int delegatesOfYear = 0;

        private void beginBallot() {
            hasBallot = true;
            voters = 0;
            yesVoters = 0;
        }

        private boolean hasVoteOf(Member member) {
            return (voters & member.bit()) != 0;
        }

        private void takeVote(Member member, boolean isYes) {
            voters |= member.bit();
            if (isYes) {
                yesVoters |= member.bit();
            }
        }

        private int countVotes() {
            return Integer.bitCount(voters);
        }

        private void endBallot(int standing) {
            int votes = countVotes();
            int yes = Integer.bitCount(yesVoters);
            hasBallot = false;
            mayStrike = yes > votes - yes && 2 * votes >= standing;
        }

        private boolean canBeCalledOut() {
            return mayStrike && !isOnStrike && !hasBallot;
        }
    }

    /** A member, with what it owes, has laid, has left over and has had. */
    private static final class Member {
        private final int number;
        private final int[] owedFor = new int[MONTHS];
        private final int[] laidOn = new int[MONTHS];
        private Branch branch;
        private Band band;
        private boolean isOnLeave = false;
        private boolean hasLeft = false;
        private int leftOver = 0;
        private int strikePayHad = 0;
        // MONTHS as long as nothing is owed.
        private int earliestOwed = MONTHS;

        private Member(int number, Branch branch, Band band) {
            this.number = number;
            this.branch = branch;
            this.band = band;
        }

        private int bit() {
            return 1 << number;
        }

        private boolean standsOn(int day) {
            boolean isInArrears = earliestOwed < MONTHS
                    && day >= DAYS_OF_MONTH * (earliestOwed + 1) + TERM_OF_ARREARS;
            return !hasLeft && !isInArrears;
        }

        private int sumOwed() {
            int sum = 0;
            for (int month = earliestOwed; month < MONTHS; month++) {
                sum += owedFor[month];
            }
            return sum;
        }

        /** Makes the member owe its dues for a month; returns what the fund gets of its credit. */
        private int charge(int month) {
            if (month < 0 || month >= MONTHS || band.monthlyDues == 0) {
                return 0;
            }
            owedFor[month] = band.monthlyDues;
            earliestOwed = Math.min(earliestOwed, month);
            return layLeftOver();
        }

        /** Takes a payment in; returns what the fund gets of it. */
        private int takeIn(int amount) {
            // A credit is there only when nothing is owed, so no two sums are laid on a month as one.
            leftOver += amount;
            return layLeftOver();
        }

        private int layLeftOver() {
            int share = 0;
            for (int month = earliestOwed; month < MONTHS && leftOver > 0; month++) {
                int part = Math.min(leftOver, owedFor[month]);
                leftOver -= part;
                owedFor[month] -= part;
                laidOn[month] += part;
                branch.laidOn[month] += part;
                // Each month is rounded by itself, so the fifth can't be taken of the whole payment.
                share += part / LAID_FOR_ONE_IN_FUND;
            }
            skipSettled();
            return share;
        }

        private void skipSettled() {
            while (earliestOwed < MONTHS && owedFor[earliestOwed] == 0) {
                earliestOwed++;
            }
        }
    }
}
