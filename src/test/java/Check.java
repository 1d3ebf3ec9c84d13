import java.util.ArrayList;
import java.util.List;

/** Counts and prints what is not as due, for one test program. */
final class Check {
    /** A call that may throw. */
    interface Call {
        void make();
    }

    private static final int MEMBERS = 16;
    private static final int BRANCHES = 4;
    private static final int MONTHS = 60;

    private int wrong = 0;
    private int checked = 0;

    void same(String what, Object got, Object due) {
        checked++;
        if (!due.equals(got)) {
            wrong++;
            System.out.println(what + ": got " + got + ", due is " + due);
        }
    }

    /** Checks that a call throws exactly this kind, and that nothing that can be asked has changed. */
    void refuses(String what, UnionOffice office, Class<? extends RuntimeException> kind, Call call) {
        String before = stateOf(office);
        same(what, kindThrownBy(call), kind.getSimpleName());
        same(what + " changes nothing", stateOf(office), before);
    }

    void noSuch(String what, UnionOffice office, Call call) {
        refuses(what, office, IndexOutOfBoundsException.class, call);
    }

    void badState(String what, UnionOffice office, Call call) {
        refuses(what, office, IllegalStateException.class, call);
    }

    void badArgument(String what, UnionOffice office, Call call) {
        refuses(what, office, IllegalArgumentException.class, call);
    }

    /** Ends the program, with code 1 if something was not as due. */
    void end(String name) {
        System.out.println(name + ": " + checked + " checks, " + wrong + " wrong");
        if (wrong != 0 || checked == 0) {
            System.exit(1);
        }
    }

    static String kindThrownBy(Call call) {
        try {
            call.make();
            return "nothing";
        } catch (RuntimeException thrown) {
            return thrown.getClass().getSimpleName();
        }
    }

    /** Tells all that the asking calls of the face answer, those that throw too. */
    static String stateOf(UnionOffice office) {
        List<Object> state = new ArrayList<>();
        state.add(office.day());
        state.add(office.fund());
        for (int member = 0; member < MEMBERS; member++) {
            addMember(state, office, member);
        }
        for (int branch = 0; branch < BRANCHES; branch++) {
            addBranch(state, office, branch);
        }
        return state.toString();
    }

    private static void addMember(List<Object> state, UnionOffice office, int member) {
        try {
            state.add(office.owed(member));
        } catch (IndexOutOfBoundsException thrown) {
            state.add("no member " + member);
            return;
        }
        state.add(office.credit(member));
        state.add(office.hasStanding(member));
        state.add(office.strikePay(member));
        for (int month = 0; month < MONTHS; month++) {
            int asked = month;
            List<Integer> laid = new ArrayList<>();
            String kind = kindThrownBy(() -> laid.add(office.laid(member, asked)));
            state.add(laid.isEmpty() ? kind : laid.get(0));
        }
    }

    private static void addBranch(List<Object> state, UnionOffice office, int branch) {
        state.add(office.delegates(branch));
        state.add(office.isOut(branch));
        for (int month = 0; month < MONTHS; month++) {
            int asked = month;
            List<Integer> laid = new ArrayList<>();
            String kind = kindThrownBy(() -> laid.add(office.laidFor(branch, asked)));
            state.add(laid.isEmpty() ? kind : laid.get(0));
        }
    }
}
