import java.util.ArrayDeque;
import java.util.Deque;

/** Long runs of mixed calls, right and wrong ones, answered by the class and by the model alike. */
final class ModelTest {
    private static final int RUNS = 600;
    // The document tells nothing of an object behind its 512th call.
    private static final int MOST_CALLS = 512;
    private static final int MIXED_CALLS = 380;
    private static final int TOLD = 40;
    private static final String[] OFTEN = {
        "join", "pay", "pay", "pay", "vote", "vote", "vote", "vote", "open", "close", "close",
        "strike", "strike", "advance", "advance", "move", "leave", "fold", "payOff",
        "setDues", "setStrikePay", "quit",
    };
    private static final String[] ASKING = {
        "day", "fund", "owed", "credit", "laid", "laidFor", "hasStanding", "strikePay",
        "delegates", "isOut",
    };
    private static final int[] ODD = {
        -1, 16, 17, 60, 101, 100001, 1000001, Integer.MIN_VALUE, Integer.MAX_VALUE,
    };

    private final Numbers numbers;
    private final UnionOffice office = new UnionOffice();
    private final OfficeModel model = new OfficeModel();
    private final Deque<String> told = new ArrayDeque<>();
    private final int longest;
    private int calls = 0;
    private int won = 0;
    private int paidOnStrike = 0;

    private ModelTest(int run) {
        numbers = new Numbers(run);
        longest = run % 3 == 0 ? 100 : run % 3 == 1 ? 12 : 4;
    }

    public static void main(String[] arguments) {
        Check check = new Check();
        int won = 0;
        int paid = 0;
        for (int run = 0; run < RUNS; run++) {
            ModelTest test = new ModelTest(run);
            String wrong = test.firstWrong();
            check.same("run " + run, wrong, "");
            won += test.won;
            paid += test.paidOnStrike;
        }
        System.out.println("ModelTest: " + won + " ballots won, strike pay told " + paid + " times");
        check.same("ballots are won in the runs", won > 3 * RUNS, true);
        check.same("strike pay is paid in the runs", paid > 3 * RUNS, true);
        check.end("ModelTest");
    }

    /** Returns the calls up to the first one with a wrong answer, or an empty text. */
    private String firstWrong() {
        boolean isRight = true;
        for (int i = 0; calls < MIXED_CALLS && isRight; i++) {
            isRight = i < 8 ? isRight("join", numbers.below(2), numbers.below(3), 0)
                    : numbers.below(40) == 0 ? isCampaignRight(numbers.below(2)) : isNextRight();
        }
        isRight = isRight && isAllRight();
        while (isRight && calls < MOST_CALLS) {
            isRight = numbers.below(2) == 0
                    ? isRight("laid", numbers.below(9), numbers.below(today() / 30 + 2) - 1, 0)
                    : isRight("laidFor", branch(), numbers.below(today() / 30 + 2) - 1, 0);
        }
        return isRight ? "" : String.join("\n", told);
    }

    private boolean isNextRight() {
        String call = numbers.below(4) == 0 ? numbers.oneOf(ASKING) : numbers.oneOf(OFTEN);
        if (call.equals("quit") && numbers.below(3) != 0) {
            call = "isOut";
        }
        int a = firstArgument(call);
        int b = secondArgument(call);
        int c = numbers.below(3);
        if (call.equals("payOff")) {
            call = "pay";
            Object owed = model.answer("owed", a, 0, 0);
            b = owed instanceof Integer sum ? sum : 1;
        }
        if (numbers.below(40) == 0) {
            a = numbers.oneOf(ODD);
        }
        if (numbers.below(40) == 0 && !isYesOrNo(call)) {
            b = numbers.oneOf(ODD);
        }
        return isRight(call, a, b, c);
    }

    /** All vote yes, and the branch is called out, where that can be. */
    private boolean isCampaignRight(int branch) {
        boolean isRight = isRight("open", branch, 0, 0);
        for (int member = 0; member < 8; member++) {
            isRight = isRight && isRight("vote", member, 1, 0);
        }
        return isRight && isRight("close", branch, 0, 0) && isRight("strike", branch, 1, 0)
                && isRight("advance", 1 + numbers.below(5), 0, 0);
    }

    /** Whether all that can be asked without a month is as due. */
    private boolean isAllRight() {
        boolean isRight = isRight("day", 0, 0, 0) && isRight("fund", 0, 0, 0);
        for (int member = 0; member < 16 && isRight; member++) {
            isRight = isRight("owed", member, 0, 0) && isRight("credit", member, 0, 0)
                    && isRight("hasStanding", member, 0, 0) && isRight("strikePay", member, 0, 0);
        }
        for (int branch = 0; branch < 4 && isRight; branch++) {
            isRight = isRight("delegates", branch, 0, 0) && isRight("isOut", branch, 0, 0);
        }
        return isRight;
    }

    /** The day by the model, so that it is no call of the office. */
    private int today() {
        return model.answer("day", 0, 0, 0) instanceof Integer day ? day : 0;
    }

    private static boolean isYesOrNo(String call) {
        return call.equals("leave") || call.equals("vote") || call.equals("strike");
    }

    private int firstArgument(String call) {
        return switch (call) {
            case "advance" -> 1 + numbers.below(longest);
            case "fold" -> today() / 30 - numbers.below(20);
            case "setDues" -> numbers.below(3);
            case "setStrikePay" -> numbers.below(300);
            case "join", "open", "close", "strike", "laidFor", "delegates", "isOut" -> branch();
            default -> numbers.below(11);
        };
    }

    private int secondArgument(String call) {
        return switch (call) {
            case "pay" -> 1 + numbers.below(numbers.below(3) == 0 ? 20000 : 2000);
            case "setDues" -> numbers.below(5) == 0 ? 0 : numbers.below(2000);
            case "laid", "laidFor" -> today() / 30 - numbers.below(10);
            case "move" -> branch();
            case "vote" -> numbers.below(4) == 0 ? 0 : 1;
            default -> numbers.below(2);
        };
    }

    /** Branches 0 and 1 come more often, so that they have members and strikes. */
    private int branch() {
        return numbers.below(5) == 0 ? numbers.below(4) : numbers.below(2);
    }

    private boolean isRight(String call, int a, int b, int c) {
        calls++;
        Object due = model.answer(call, a, b, c);
        Object got = answerOfOffice(call, a, b, c);
        if (call.equals("strikePay") && due instanceof Integer sum && sum > 0) {
            paidOnStrike++;
        }
        if (call.equals("close") && due.equals(1)) {
            won++;
        }
        told.add(call + "(" + a + ", " + b + ", " + c + ") answered " + got + ", due is " + due);
        if (told.size() > TOLD) {
            told.remove();
        }
        return due.equals(got);
    }

    private Object answerOfOffice(String call, int a, int b, int c) {
        try {
            return switch (call) {
                case "setDues" -> office.setDues(a, b);
                case "setStrikePay" -> office.setStrikePay(a);
                case "join" -> office.join(a, b);
                case "move" -> moved(a, b, c);
                case "leave" -> office.leave(a, b != 0) ? 1 : 0;
                case "quit" -> office.quit(a);
                case "pay" -> office.pay(a, b);
                case "open" -> office.open(a);
                case "vote" -> office.vote(a, b != 0);
                case "close" -> office.close(a) ? 1 : 0;
                case "strike" -> struck(a, b != 0);
                case "advance" -> office.advance(a);
                case "fold" -> office.fold(a);
                default -> asked(call, a, b);
            };
        } catch (RuntimeException thrown) {
            return thrown.getClass().getSimpleName();
        }
    }

    private int moved(int member, int branch, int band) {
        office.move(member, branch, band);
        return 0;
    }

    private int struck(int branch, boolean isOut) {
        office.strike(branch, isOut);
        return 0;
    }

    private int asked(String call, int a, int b) {
        return switch (call) {
            case "day" -> office.day();
            case "fund" -> office.fund();
            case "owed" -> office.owed(a);
            case "credit" -> office.credit(a);
            case "laid" -> office.laid(a, b);
            case "laidFor" -> office.laidFor(a, b);
            case "hasStanding" -> office.hasStanding(a) ? 1 : 0;
            case "strikePay" -> office.strikePay(a);
            case "delegates" -> office.delegates(a);
            case "isOut" -> office.isOut(a) ? 1 : 0;
            default -> throw new IllegalArgumentException(call);
        };
    }

    /** Numbers that look mixed and are the same in every run of the test. */
    private static final class Numbers {
        private long state;

        private Numbers(int start) {
            state = start * 7919L + 17;
        }

        private int below(int bound) {
            state = state * 6364136223846793005L + 1442695040888963407L;
            return (int) ((state >>> 33) % bound);
        }

        private int oneOf(int[] choices) {
            return choices[below(choices.length)];
        }

        private String oneOf(String[] choices) {
            return choices[below(choices.length)];
        }
    }
}
