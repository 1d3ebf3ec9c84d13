import java.util.ArrayList;
import java.util.HashMap;
import java.util.HashSet;
import java.util.List;
import java.util.Map;
import java.util.Set;

/**
 * A second office, written from the document in another way: it keeps what happened as lists of
 * charges and layings and reckons every answer from them. It answers a call with a number (a boolean
 * counts 1 or 0) or with the name of an exception.
 */
final class OfficeModel {
    private static final String INDEX = "IndexOutOfBoundsException";
    private static final String STATE = "IllegalStateException";
    private static final String ARGUMENT = "IllegalArgumentException";

    private record Charge(int member, int month, int amount) { }

    private record Laying(int member, int branch, int month, int amount) { }

    private static final class Ballot {
        final Map<Integer, Boolean> votes = new HashMap<>();
    }

    private final int[] dues = {1000, 2000, 3000};
    private int dailyPay = 500;
    private int day = 0;
    private int folded = -1;
    private int paidToStrikers = 0;
    private final List<Integer> branchOf = new ArrayList<>();
    private final List<Integer> bandOf = new ArrayList<>();
    private final Set<Integer> away = new HashSet<>();
    private final Set<Integer> gone = new HashSet<>();
    private final List<Charge> charges = new ArrayList<>();
    private final List<Laying> layings = new ArrayList<>();
    private final int[] paidIn = new int[16];
    private final int[] strikePaid = new int[16];
    private final Ballot[] ballots = new Ballot[4];
    // The result of the last closed ballot, until a strike has followed it.
    private final boolean[] wonUnused = new boolean[4];
    private final boolean[] out = new boolean[4];
    private final int[] delegates = new int[4];

    /** Answers the call of this name with these arguments. */
    Object answer(String call, int a, int b, int c) {
        return switch (call) {
            case "setDues" -> setDues(a, b);
            case "setStrikePay" -> setStrikePay(a);
            case "join" -> join(a, b);
            case "move" -> move(a, b, c);
            case "leave" -> leave(a, b != 0);
            case "quit" -> quit(a);
            case "pay" -> pay(a, b);
            case "open" -> open(a);
            case "vote" -> vote(a, b != 0);
            case "close" -> close(a);
            case "strike" -> strike(a, b != 0);
            case "advance" -> advance(a);
            case "fold" -> fold(a);
            default -> ask(call, a, b);
        };
    }

    private Object ask(String call, int a, int b) {
        return switch (call) {
            case "day" -> day;
            case "fund" -> fund();
            case "owed" -> isMember(a) ? owedBy(a) : INDEX;
            case "credit" -> isMember(a) ? creditOf(a) : INDEX;
            case "laid" -> laid(a, b);
            case "laidFor" -> laidFor(a, b);
            case "hasStanding" -> isMember(a) ? number(stands(a)) : INDEX;
            case "strikePay" -> isMember(a) ? strikePaid[a] : INDEX;
            case "delegates" -> isBranch(a) ? delegates[a] : INDEX;
            case "isOut" -> isBranch(a) ? number(out[a]) : INDEX;
            default -> throw new IllegalArgumentException(call);
        };
    }

    private static Object number(boolean answer) {
        return answer ? 1 : 0;
    }

    private boolean isMember(int member) {
        return member >= 0 && member < branchOf.size();
    }

    private boolean isBranch(int branch) {
        return branch >= 0 && branch <= 3;
    }

    private boolean isBand(int band) {
        return band >= 0 && band <= 2;
    }

    private boolean isOver(int month) {
        return month >= 0 && day >= 30L * (month + 1L);
    }

    private int owedFor(int member, int month) {
        int sum = 0;
        for (Charge charge : charges) {
            sum += charge.member == member && charge.month == month ? charge.amount : 0;
        }
        return sum - laidOn(member, month);
    }

    private int laidOn(int member, int month) {
        int sum = 0;
        for (Laying laying : layings) {
            sum += laying.member == member && laying.month == month ? laying.amount : 0;
        }
        return sum;
    }

    private int owedBy(int member) {
        int sum = 0;
        for (int month = 0; isOver(month); month++) {
            sum += owedFor(member, month);
        }
        return sum;
    }

    private int creditOf(int member) {
        int credit = paidIn[member];
        for (Laying laying : layings) {
            credit -= laying.member == member ? laying.amount : 0;
        }
        return credit;
    }

    private int fund() {
        int fund = -paidToStrikers;
        for (Laying laying : layings) {
            fund += laying.amount / 5;
        }
        return fund;
    }

    private boolean stands(int member) {
        if (gone.contains(member)) {
            return false;
        }
        for (int month = 0; 30 * (month + 1) + 60 <= day; month++) {
            if (owedFor(member, month) != 0) {
                return false;
            }
        }
        return true;
    }

    private int standingOf(int branch) {
        int count = 0;
        for (int member = 0; member < branchOf.size(); member++) {
            count += branchOf.get(member) == branch && stands(member) ? 1 : 0;
        }
        return count;
    }

    private void lay(int member, int lastMonth) {
        int credit = creditOf(member);
        for (int month = 0; month <= lastMonth; month++) {
            int amount = Math.min(credit, owedFor(member, month));
            if (amount > 0) {
                layings.add(new Laying(member, branchOf.get(member), month, amount));
                credit -= amount;
            }
        }
    }

    private Object setDues(int band, int amount) {
        if (!isBand(band)) {
            return INDEX;
        }
        if (amount < 0 || amount > 100000) {
            return ARGUMENT;
        }
        int before = dues[band];
        dues[band] = amount;
        return before;
    }

    private Object setStrikePay(int amount) {
        if (amount < 0 || amount > 100000) {
            return ARGUMENT;
        }
        int before = dailyPay;
        dailyPay = amount;
        return before;
    }

    private Object join(int branch, int band) {
        if (!isBranch(branch) || !isBand(band)) {
            return INDEX;
        }
        if (branchOf.size() == 16) {
            return STATE;
        }
        branchOf.add(branch);
        bandOf.add(band);
        return branchOf.size() - 1;
    }

    private Object move(int member, int branch, int band) {
        if (!isMember(member) || !isBranch(branch) || !isBand(band)) {
            return INDEX;
        }
        if (gone.contains(member)) {
            return STATE;
        }
        branchOf.set(member, branch);
        bandOf.set(member, band);
        return 0;
    }

    private Object leave(int member, boolean isAway) {
        if (!isMember(member)) {
            return INDEX;
        }
        if (gone.contains(member)) {
            return STATE;
        }
        return number(isAway ? !away.add(member) : away.remove(member));
    }

    private Object quit(int member) {
        if (!isMember(member)) {
            return INDEX;
        }
        return gone.add(member) ? owedBy(member) : STATE;
    }

    private Object pay(int member, int amount) {
        if (!isMember(member)) {
            return INDEX;
        }
        if (amount < 1 || amount > 1000000) {
            return ARGUMENT;
        }
        paidIn[member] += amount;
        lay(member, day / 30 - 1);
        return owedBy(member);
    }

    private Object open(int branch) {
        if (!isBranch(branch)) {
            return INDEX;
        }
        if (ballots[branch] != null || out[branch]) {
            return STATE;
        }
        ballots[branch] = new Ballot();
        return standingOf(branch);
    }

    private Object vote(int member, boolean isYes) {
        if (!isMember(member)) {
            return INDEX;
        }
        Ballot ballot = ballots[branchOf.get(member)];
        if (ballot == null || !stands(member) || ballot.votes.containsKey(member)) {
            return STATE;
        }
        ballot.votes.put(member, isYes);
        return ballot.votes.size();
    }

    private Object close(int branch) {
        if (!isBranch(branch)) {
            return INDEX;
        }
        if (ballots[branch] == null) {
            return STATE;
        }
        int balance = 0;
        for (boolean isYes : ballots[branch].votes.values()) {
            balance += isYes ? 1 : -1;
        }
        double half = standingOf(branch) / 2.0;
        wonUnused[branch] = balance > 0 && ballots[branch].votes.size() >= half;
        ballots[branch] = null;
        return number(wonUnused[branch]);
    }

    private Object strike(int branch, boolean isOut) {
        if (!isBranch(branch)) {
            return INDEX;
        }
        if (!isOut && !out[branch]) {
            return STATE;
        }
        if (isOut && (out[branch] || !wonUnused[branch] || ballots[branch] != null)) {
            return STATE;
        }
        if (isOut) {
            wonUnused[branch] = false;
        }
        out[branch] = isOut;
        return 0;
    }

    private Object advance(int days) {
        if (days < 1 || days > 100) {
            return ARGUMENT;
        }
        if (day + days > 1800) {
            return STATE;
        }
        for (int i = 0; i < days; i++) {
            payStrikers();
            if (day % 30 == 29) {
                charge();
            }
            day++;
            for (int branch = 0; branch < 4 && day % 360 == 0; branch++) {
                delegates[branch] = (int) Math.ceil(standingOf(branch) / 3.0);
            }
        }
        return day;
    }

    private void payStrikers() {
        if (!out[0] && !out[1] && !out[2] && !out[3]) {
            return;
        }
        int fund = fund();
        for (int member = 0; member < branchOf.size(); member++) {
            if (out[branchOf.get(member)] && dailyPay <= fund && stands(member)) {
                fund -= dailyPay;
                paidToStrikers += dailyPay;
                strikePaid[member] += dailyPay;
            }
        }
    }

    private void charge() {
        for (int member = 0; member < branchOf.size(); member++) {
            if (!gone.contains(member) && !away.contains(member)) {
                charges.add(new Charge(member, day / 30, dues[bandOf.get(member)]));
                lay(member, day / 30);
            }
        }
    }

    private Object fold(int month) {
        if (!isOver(month) || month <= folded) {
            return ARGUMENT;
        }
        int sum = 0;
        for (Laying laying : layings) {
            sum += laying.month > folded && laying.month <= month ? laying.amount : 0;
        }
        folded = month;
        return sum;
    }

    private Object laid(int member, int month) {
        if (!isMember(member) || !isOver(month)) {
            return INDEX;
        }
        return month <= folded ? STATE : (Object) laidOn(member, month);
    }

    private Object laidFor(int branch, int month) {
        if (!isBranch(branch) || !isOver(month)) {
            return INDEX;
        }
        int sum = 0;
        for (Laying laying : layings) {
            sum += laying.branch == branch && laying.month == month ? laying.amount : 0;
        }
        return sum;
    }
}
