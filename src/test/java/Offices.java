/** Offices in the states that the tests begin with. */
final class Offices {
    private static final int MOST_DAYS = 100;

    private Offices() {
    }

    /** Makes an office with this many members in branch 0, all in band 0. */
    static UnionOffice with(int members) {
        UnionOffice office = new UnionOffice();
        joinAll(office, members, 0);
        return office;
    }

    /** Makes an office as with(members), on this day. */
    static UnionOffice with(int members, int day) {
        UnionOffice office = with(members);
        advanceTo(office, day);
        return office;
    }

    /** Makes an office as with(members), in which the dues of band 0 are these from the beginning. */
    static UnionOffice withDues(int members, int dues, int day) {
        UnionOffice office = with(members);
        office.setDues(0, dues);
        advanceTo(office, day);
        return office;
    }

    static void joinAll(UnionOffice office, int members, int branch) {
        for (int joined = 0; joined < members; joined++) {
            office.join(branch, 0);
        }
    }

    static void advanceTo(UnionOffice office, int day) {
        while (office.day() < day) {
            office.advance(Math.min(MOST_DAYS, day - office.day()));
        }
    }

    /** Members from..to-1 vote. */
    static void voteAll(UnionOffice office, int from, int to, boolean isYes) {
        for (int member = from; member < to; member++) {
            office.vote(member, isYes);
        }
    }

    /** Holds a ballot of a branch in which one member alone votes; returns whether it is won. */
    static boolean ballot(UnionOffice office, int branch, int voter, boolean isYes) {
        office.open(branch);
        office.vote(voter, isYes);
        return office.close(branch);
    }

    /** Lets a branch win a ballot by the vote of one member, and calls it out. */
    static void callOut(UnionOffice office, int branch, int voter) {
        ballot(office, branch, voter, true);
        office.strike(branch, true);
    }
}
