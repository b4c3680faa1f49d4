/** Counts the answers that are not the ones due, and tells them. */
final class Due {
    private int calls = 0;
    private int wrong = 0;

    void is(String call, long got, long want) {
        calls++;
        if (got != want) {
            wrong++;
            System.out.println(call + " answered " + got + ", due is " + want);
        }
    }

    /** Says a text on an empty PAD. */
    void pad(StuckVanes x, String text) {
        x.wipe();
        for (int i = 0; i < text.length(); i++) {
            is("say of " + text + ", " + i, x.say(text.charAt(i)), i + 1);
        }
    }

    /** Says a text and does it. */
    void doneIs(StuckVanes x, String text, int acts) {
        pad(x, text);
        is("done() of " + text, x.done(), acts);
    }

    void judged(StuckVanes x, String text, int act, int why) {
        pad(x, text);
        is("judge(0) of " + text, x.judge(0), act);
        is("judge(1) of " + text, x.judge(1), why);
    }

    void end() {
        System.out.println(wrong + " of " + calls + " answers are not as due");
        if (wrong != 0) {
            System.exit(1);
        }
    }
}
