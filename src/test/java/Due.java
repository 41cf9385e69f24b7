/** What the tests share: compares answers with those that are due, and ends a test with its exit code. */
final class Due {
    /** A call of the face that may throw. */
    interface Call {
        long answer();
    }

    /** A call of the face that answers nothing. */
    interface Act {
        void run();
    }

    static final String NOTHING = "nothing";

    private int wrong;
    private String sentence = "";

    /** The document's sentence that the next calls are tested by; told with each wrong answer. */
    void of(String words) {
        sentence = words + " | ";
    }

    void is(String call, long due, long got) {
        same(call, Long.toString(due), Long.toString(got));
    }

    /** Two answers as texts. */
    void same(String call, String due, String got) {
        if (!got.equals(due)) {
            wrong++;
            System.out.println(sentence + call + " answered " + got + ", due is " + due);
        }
    }

    void yes(String call, boolean got) {
        is(call, 1, got ? 1 : 0);
    }

    void no(String call, boolean got) {
        is(call, 0, got ? 1 : 0);
    }

    void outOfBounds(String call, Act act) {
        thrown(call, "IndexOutOfBoundsException", act);
    }

    void illegal(String call, Act act) {
        thrown(call, "IllegalArgumentException", act);
    }

    void unsupported(String call, Act act) {
        thrown(call, "UnsupportedOperationException", act);
    }

    void fine(String call, Act act) {
        thrown(call, NOTHING, act);
    }

    /** The very class counts: what the machine throws itself is often of a class below the one that is due. */
    private void thrown(String call, String due, Act act) {
        String got = NOTHING;
        try {
            act.run();
        } catch (RuntimeException e) {
            got = e.getClass().getSimpleName();
        }
        if (!got.equals(due)) {
            wrong++;
            System.out.println(sentence + call + " threw " + got + ", due is " + due);
        }
    }

    /** An answer as a text: a number, or what was thrown. */
    static String text(Call call) {
        try {
            return Long.toString(call.answer());
        } catch (RuntimeException e) {
            return "throws." + e.getClass().getSimpleName();
        }
    }

    /** Puts a text onto the TAPE of an object: twenty bytes a call, and then cuts it to its length. */
    static void tape(FestivalFields x, String text) {
        for (int i = 0; i < text.length(); i += 20) {
            int[] n = new int[5];
            for (int k = 0; k < 20; k++) {
                int b = i + k < text.length() ? text.charAt(i + k) & 255 : 0;
                n[k / 4] = n[k / 4] << 8 | b;
            }
            x.feed(n[0], n[1], n[2], n[3], n[4]);
        }
        x.end(text.length());
    }

    void end() {
        if (wrong != 0) {
            System.out.println(wrong + " answers are not as due");
            System.exit(1);
        }
    }
}
