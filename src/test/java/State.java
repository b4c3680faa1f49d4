/** All that can be asked of an object without changing it, as one text: two alike states tell alike. */
final class State {
    private State() {
    }

    static String of(StuckVanes x) {
        StringBuilder text = new StringBuilder();
        for (int what = 0; what < 50; what++) {
            text.append(x.told(what)).append(' ');
        }
        for (int i = -1; i < 32; i++) {
            text.append(x.stuck(i)).append(' ');
        }
        text.append(x.fault()).append(' ').append(x.judge(0)).append(' ').append(x.judge(1));
        for (int what = 0; what < 7; what++) {
            text.append(' ').append(x.then(what));
        }
        return text.toString();
    }
}
