/** Counts and prints what is not as due, for one test program. */
final class Check {
    /** A call that may throw. */
    interface Call {
        void make();
    }

    private int wrong = 0;
    private int checked = 0;
    private String sentence = "";

    /** Names the sentences of the document, and where they stand, whose cases come next. */
    void sentence(String place, String... quoted) {
        sentence = place + ": \"" + String.join("\" and \"", quoted) + "\"\n    ";
    }

    void same(String what, Object got, Object due) {
        checked++;
        if (!due.equals(got)) {
            wrong++;
            System.out.println(sentence + what + ": got " + got + ", due is " + due);
        }
    }

    /** Checks that a call is taken: that it throws nothing. */
    void taken(String what, Call call) {
        same(what, kindThrownBy(call), "nothing");
    }

    void noSuch(String what, Call call) {
        same(what, kindThrownBy(call), "IndexOutOfBoundsException");
    }

    void badState(String what, Call call) {
        same(what, kindThrownBy(call), "IllegalStateException");
    }

    void badArgument(String what, Call call) {
        same(what, kindThrownBy(call), "IllegalArgumentException");
    }

    /** Ends the program, with code 1 if something was not as due. */
    void end(String name) {
        System.out.println(name + ": " + checked + " checks, " + wrong + " wrong");
        if (wrong != 0 || checked == 0) {
            System.exit(1);
        }
    }

    /** The numbers next to a range on both sides, and the farthest ones. */
    static int[] outside(int least, int most) {
        return new int[] {least - 1, most + 1, Integer.MIN_VALUE, Integer.MAX_VALUE};
    }

    static String kindThrownBy(Call call) {
        try {
            call.make();
            return "nothing";
        } catch (RuntimeException thrown) {
            return thrown.getClass().getSimpleName();
        }
    }
}
