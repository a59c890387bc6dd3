/** All that can be seen of an object, as a text, so that two objects can be laid side by side. */
final class Look {
    private static final int BYTES_OF_A_TAG = 22;

    private final StringBuilder seen = new StringBuilder();

    private void tell(String what, int... answers) {
        seen.append(what);
        for (int answer : answers) {
            seen.append(' ').append(answer);
        }
        seen.append('\n');
    }

    /** All but the tape and the kind of the latest FAULT, by calls that change nothing. */
    static String of(BathMinutes x) {
        Look look = new Look();
        look.numbers(x);
        look.baths(x);
        look.sheets(x);
        look.toldLast(x);
        return look.seen.toString();
    }

    /** What START, MINUTES and so on change, in few calls. */
    static String brief(BathMinutes x) {
        Look look = new Look();
        for (int what = 0; what < 8; what++) {
            look.tell("now", x.now(what));
        }
        for (int b = 0; b < x.count(0); b++) {
            look.tell("bath", x.bath(b, 1), x.bath(b, 2), x.bath(b, 3));
        }
        for (int s = 0; s < x.count(2); s++) {
            look.tell("sheet", x.sheet(s, 0), x.sheet(s, 3), x.sheet(s, 5), x.sheet(s, 6));
        }
        look.tell("said", x.said(-1));
        return look.seen.toString();
    }

    /** What else is kept inside: what can be undone, the images. The object is of no use behind it. */
    static String within(BathMinutes x) {
        Look look = new Look();
        for (int i = 0; i < 9; i++) {
            int more = x.undo();
            look.tell("undo", more, x.now(0), x.now(1), x.now(2), x.now(3), x.now(4), x.now(7));
        }
        for (int k = 0; k < 2; k++) {
            look.tell("restore", x.restore(k) ? 1 : 0);
            look.seen.append(brief(x));
        }
        return look.seen.toString();
    }

    private void numbers(BathMinutes x) {
        for (int what = 0; what < 6; what++) {
            tell("count " + what, x.count(what));
        }
        for (int what = 0; what < 8; what++) {
            tell("now " + what, x.now(what));
        }
        tell("jam, often", x.jam(), x.often());
    }

    private void baths(BathMinutes x) {
        for (int b = 0; b < x.count(0); b++) {
            for (int what = 0; what < 6; what++) {
                tell("bath " + b + " " + what, x.bath(b, what));
            }
            tell("wear " + b, x.wear(b, 0), x.wear(b, 1));
            for (int p = 0; p < x.count(1); p++) {
                tell("asks " + p + " " + b, x.asks(p, b));
            }
        }
    }

    private void sheets(BathMinutes x) {
        for (int s = 0; s < x.count(2); s++) {
            for (int what = 0; what < 7; what++) {
                tell("sheet " + s + " " + what, x.sheet(s, what));
            }
            tell("when, clear, block " + s, x.when(s), x.clear(s), x.block(s));
        }
        if (x.count(2) > 0) {
            tell("mean", x.mean(0), x.mean(1));
        }
    }

    private void toldLast(BathMinutes x) {
        for (int k = 0; k < 3; k++) {
            tell("order " + k, x.orderAt(k), x.orderWhen(k));
        }
        for (int k = 0; k < 5; k++) {
            tell("chain " + k, x.chainAt(k));
        }
        for (int what = 0; what < 4; what++) {
            tell("told " + what, x.told(what));
        }
        for (int k = -1; k < x.count(2); k++) {
            tell("said " + k, x.said(k));
        }
        for (int i = 0; i < BYTES_OF_A_TAG; i++) {
            tell("byte " + i, x.byteAt(i));
        }
        tell("ask", x.ask());
    }
}
