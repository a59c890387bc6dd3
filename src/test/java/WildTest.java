import java.util.NoSuchElementException;
import java.util.Random;

/** Any calls with any numbers in any state: none throws but where the document says so, and each ends. */
public final class WildTest {
    private static final int RUNS = Integer.getInteger("runs", 1500);
    private static final int CALLS = 512;
    private static final int[] EDGES = {Integer.MIN_VALUE, Integer.MIN_VALUE + 1, -1001, -1000, -2, -1, 0, 1, 2, 3, 4, 5, 6, 7, 8,
        9, 10, 19, 20, 21, 30, 31, 32, 40, 41, 59, 60, 61, 63, 64, 65, 199, 200, 201, 900, 939, 940, 941, 1000,
        Integer.MAX_VALUE - 1, Integer.MAX_VALUE};
    private static final String[] PARTS = ("bath paper sheet spare weak fresh start take again renew minute or and not waiting done "
        + "spoilt held in of left over tries number ; ; ; ; < = > ( ) . a b c d e f g h p q r s t u v w 0 1 1 1 2 3 4 9 30 31 60 61 99 "
        + "100 999 1000 abcdefg abcdefgh A ? \n").split(" ");
    private static final String[] TEXTS = {
        "bath a 1 2; bath b 2 9; bath c 1 3; paper p 3 1 4; paper q 0 2 5; sheet s p; sheet t q; sheet u p; spare 1; weak 2; fresh 3;",
        "bath a 4 99; paper p 0; paper q 30; sheet s p; sheet t q; sheet u q; sheet v q; sheet w q; spare 9;",
        "bath a 1 9;bath b 1 9;bath c 1 9;bath d 1 9;bath e 1 9;bath f 1 9;paper p 1 2 3 4 5 6;paper q 6 5 4 3 2 1;paper r 0 0 1 0 0 9;"
            + "paper u 30 30 30 30 30 30;paper v 0 0 0 0 0 0;sheet s p;sheet t q;sheet w r;sheet x u;sheet y v;sheet z p;sheet k q;sheet l r;",
        "start s; minute 3; take s; again s; renew a;", "start t; minute 60; start u; minute 60;",
        "not (waiting or done) and left > 0 or in a or of p and over < 3", "number < 8", "paper p; sheet s p;", ""};

    private static final Check c = new Check("WildTest");

    private final Random dice;
    private final BathMinutes x = new BathMinutes();

    private WildTest(int seed) {
        dice = new Random(seed);
    }

    public static void main(String[] args) {
        for (int seed = 0; seed < RUNS; seed++) {
            new WildTest(seed).go(seed);
        }
        c.end();
    }

    private void go(int seed) {
        for (int made = 0; made < CALLS; made++) {
            int which = dice.nextInt(48);
            try {
                call(which);
                c.due("a call", 0, 0);
            } catch (NoSuchElementException e) {
                c.due("run " + seed + ", call " + made + ", NoSuchElementException by " + which, which >= 44, true);
            } catch (RuntimeException e) {
                c.due("run " + seed + ", call " + made + ", " + which + ": " + e, true, false);
            }
        }
    }

    private int any() {
        switch (dice.nextInt(8)) {
            case 0: return dice.nextInt();
            case 1: return EDGES[dice.nextInt(EDGES.length)];
            case 2: return dice.nextInt(70) - 3;
            default: return dice.nextInt(10) - 1;
        }
    }

    private String text() {
        if (dice.nextInt(3) > 0) {
            return TEXTS[dice.nextInt(TEXTS.length)];
        }
        StringBuilder t = new StringBuilder();
        for (int i = dice.nextInt(dice.nextInt(4) == 0 ? 200 : 30); i > 0; i--) {
            t.append(PARTS[dice.nextInt(PARTS.length)]).append(dice.nextInt(6) == 0 ? "" : " ");
        }
        return t.toString();
    }

    private void feedAny() {
        if (dice.nextInt(6) == 0) {
            x.feed(any(), dice.nextInt(), dice.nextInt(), any(), any());
        } else if (dice.nextInt(3) == 0) {
            int[] bytes = new int[dice.nextInt(14)];
            for (int i = 0; i < bytes.length; i++) {
                bytes[i] = dice.nextInt(dice.nextInt(9) == 0 ? 256 : 5);
            }
            Check.bytes(x, bytes);
        } else {
            String t = text();
            Check.text(x, t.substring(0, Math.min(t.length(), 940)));
        }
    }

    private void call(int which) {
        switch (which) {
            case 0: case 1: feedAny(); break;
            case 2: x.end(any()); break;
            case 3: feedAny(); x.room(); break;
            case 4: x.fault(); break;
            case 5: x.bath(any(), any()); break;
            case 6: x.asks(any(), any()); break;
            case 7: x.now(any()); break;
            case 8: case 9: case 10: x.start(any()); break;
            case 11: x.take(any()); break;
            case 12: x.again(any()); break;
            case 13: x.renew(any()); break;
            case 14: case 15: x.minutes(any()); break;
            case 16: x.undo(); break;
            case 17: x.when(any()); break;
            case 18: x.clear(any()); break;
            case 19: feedAny(); x.order(); break;
            case 20: x.orderAt(any()); break;
            case 21: x.orderWhen(any()); break;
            case 22: x.jam(); break;
            case 23: feedAny(); x.who(); break;
            case 24: x.ask(); break;
            case 25: x.near(any()); break;
            case 26: x.through(any()); break;
            case 27: x.gap(any(), any()); break;
            case 28: x.chain(); break;
            case 29: x.chainAt(any()); break;
            case 30: x.load(any(), any()); break;
            case 31: x.block(any()); break;
            default: callMore(which); break;
        }
    }

    private void callMore(int which) {
        switch (which) {
            case 32: x.often(); break;
            case 33: x.tag(any()); break;
            case 34: x.byteAt(any()); break;
            case 35: x.drawn(any(), dice.nextInt()); break;
            case 36: x.odds(any(), any(), any()); break;
            case 37: feedAny(); x.book(dice.nextInt(3) == 0 ? any() : dice.nextInt(2)); break;
            case 38: x.told(any()); break;
            case 39: feedAny(); x.sentence(); break;
            case 40: x.said(any()); break;
            case 41: x.image(any()); break;
            case 42: x.restore(any()); break;
            case 43: x.count(any()); break;
            case 44: case 45: x.sheet(any(), any()); break;
            case 46: x.wear(any(), any()); break;
            default: x.mean(any()); break;
        }
    }
}
