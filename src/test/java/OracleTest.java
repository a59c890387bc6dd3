import java.util.ArrayList;
import java.util.List;
import java.util.Random;

/** Random runs of calls, each answered by the program as by the Oracle. The seeds are fixed: each run is the same. */
public final class OracleTest {
    private static final int RUNS = Integer.getInteger("runs", 2000);
    // what is answered behind 512 calls is free; the last turn and the look at the end make some 200
    private static final int CALLS = 300;

    private final Random dice;
    private final Check check;
    private final BathMinutes x = new BathMinutes();
    private final Oracle o = new Oracle();
    private final String run;
    private String lastText = "";
    private int made;

    private OracleTest(int seed, Check check) {
        dice = new Random(seed);
        this.check = check;
        run = "run " + seed + ", ";
    }

    public static void main(String[] args) {
        Check check = new Check("OracleTest");
        int first = Integer.getInteger("first", 1);
        for (int seed = first; seed < first + RUNS; seed++) {
            new OracleTest(seed, check).go();
        }
        check.end();
    }

    private int roll(int n) {
        return dice.nextInt(n);
    }

    private void go() {
        int turn = 0;
        if (roll(10) > 0) {
            text(roomText());
            same("room()", x.room(), o.room());
            same("fault()", x.fault(), o.fault);
            if (roll(3) > 0) {
                text(sentenceText());
                same("sentence()", x.sentence(), o.sentence());
            }
        }
        while (made < CALLS) {
            call(turn);
            turn++;
        }
        for (int what = -1; what < 9; what++) {
            same("now", x.now(what), o.now(what));
            same("count", x.count(what), o.count(what));
        }
        for (int p = -1; p < 6; p++) {
            same("near", x.near(p), o.near(p));
            same("through", x.through(p), o.through(p));
            for (int q = -1; q < 7; q++) {
                same("gap " + p + " " + q, x.gap(p, q), o.gap(p, q));
                same("asks", x.asks(p, q), o.asks(p, q));
            }
        }
        same("chain", x.chain(), o.chain());
        for (int k = -1; k < 7; k++) {
            same("chainAt", x.chainAt(k), o.chainAt(k));
        }
    }

    private void same(String call, long got, long want) {
        made++;
        check.due(run + call + (got == want ? "" : " [" + lastText + "]"), got, want);
    }

    private void thrown(String call, Check.Call mine, int want) {
        int got;
        try {
            got = mine.run();
        } catch (java.util.NoSuchElementException e) {
            got = Integer.MIN_VALUE;
        }
        same(call, got, want);
    }

    private void text(String text) {
        lastText = text;
        bytes(text.getBytes(java.nio.charset.StandardCharsets.ISO_8859_1));
    }

    private void bytes(byte[] bytes) {
        int[] all = new int[bytes.length];
        for (int i = 0; i < all.length; i++) {
            all[i] = bytes[i];
        }
        Check.bytes(x, all);
        made += 3 + all.length / 20;
        o.tape = bytes.clone();
    }

    private int sheet() {
        return roll(20) == 0 ? roll(12) - 2 : roll(Math.max(1, o.w.sheets.size()));
    }

    private int bathNumber() {
        return roll(20) == 0 ? roll(9) - 2 : roll(Math.max(1, o.w.baths.size()));
    }

    private int paper() {
        return roll(20) == 0 ? roll(8) - 2 : roll(Math.max(1, o.w.papers.size()));
    }

    private void call(int n) {
        int s = sheet();
        int b = bathNumber();
        int what = roll(9) - 1;
        switch (roll(44)) {
            case 0: case 1: case 2: case 3: case 4: case 5: case 6: same(n + " start " + s, x.start(s), o.start(s)); break;
            case 7: same(n + " take", x.take(s), o.take(s)); break;
            case 8: case 9: case 10: same(n + " again " + s, x.again(s), o.again(s)); break;
            case 11: case 12: same(n + " renew " + b, x.renew(b), o.renew(b)); break;
            case 13: case 14: case 15: case 16: case 17:
                int m = roll(15) == 0 ? roll(66) - 2 : 1 + roll(7);
                same(n + " minutes " + m, x.minutes(m), o.minutes(m));
                break;
            case 18: case 19: same(n + " undo", x.undo(), o.undo()); break;
            case 20: askState(n); break;
            case 21: same(n + " when", x.when(s), o.when(s)); break;
            case 22: same(n + " clear " + s, x.clear(s), o.clear(s)); break;
            case 23: if (roll(3) == 0) { order(n); } break;
            case 24: same(n + " jam", x.jam(), o.jam()); same(n + " often", x.often(), o.often()); break;
            case 25: who(n); break;
            case 26:
                int k = roll(8) == 0 ? roll(210) - 4 : roll(40);
                same(n + " load", x.load(b, k), o.load(b, k));
                break;
            case 27: same(n + " block", x.block(s), o.block(s)); break;
            case 28: thrown(n + " wear", () -> x.wear(b, what), o.wear(b, what)); break;
            case 29: thrown(n + " mean", () -> x.mean(what), o.mean(what)); break;
            case 30: tag(n, s); break;
            case 31: case 32:
                int d = roll(8) == 0 ? roll(66) - 2 : 1 + roll(20);
                int seed = dice.nextInt();
                same(n + " drawn " + d, x.drawn(d, seed), o.drawn(d, seed));
                break;
            case 33:
                int many = roll(8) == 0 ? roll(36) - 2 : 1 + roll(30);
                int from = roll(9) == 0 ? Integer.MAX_VALUE - roll(10) : dice.nextInt();
                same(n + " odds", x.odds(s, many, from), o.odds(s, many, from));
                break;
            case 34: case 35: bookCall(n); break;
            case 36: case 37: sentenceCall(n); break;
            case 38: same(n + " said", x.said(what), o.said(what)); same(n + " said all", x.said(-1), o.said(-1)); break;
            case 39: if (roll(3) == 0) { int i = roll(4) - 1; same(n + " image", x.image(i) ? 1 : 0, o.image(i) ? 1 : 0); } break;
            case 40: if (roll(4) == 0) { int i = roll(4) - 1; same(n + " restore", x.restore(i) ? 1 : 0, o.restore(i) ? 1 : 0); } break;
            case 41: if (roll(4) == 0) { text(mutated(roomText(), 4)); same(n + " room", x.room(), o.room()); same(n + " fault", x.fault(), o.fault); } break;
            case 42: tapeCall(n); break;
            default: askState(n); break;
        }
    }

    private void askState(int n) {
        for (int what = -1; what < 8; what++) {
            int w = what;
            same(n + " now " + what, x.now(what), o.now(what));
            int s = sheet();
            thrown(n + " sheet " + s + " " + what, () -> x.sheet(s, w), o.sheet(s, what));
            int b = bathNumber();
            same(n + " bath " + b + " " + what, x.bath(b, what), o.bath(b, what));
        }
    }

    private void order(int n) {
        int length = roll(10) == 0 ? roll(6) : 1 + roll(3);
        List<Integer> waiting = new ArrayList<>();
        for (int s = 0; s < o.w.sheets.size(); s++) {
            if (o.st.sheets.get(s).how == 0) {
                waiting.add(s);
            }
        }
        byte[] t = new byte[roll(8) == 0 ? length : Math.min(length, waiting.size())];
        for (int i = 0; i < t.length; i++) {
            t[i] = (byte) (waiting.isEmpty() || roll(15) == 0 ? sheet() : waiting.remove(roll(waiting.size())));
        }
        bytes(t);
        same(n + " order of " + t.length, x.order(), o.order());
        for (int k = -1; k < 4; k++) {
            same(n + " orderAt " + k, x.orderAt(k), o.orderAt(k));
            same(n + " orderWhen " + k, x.orderWhen(k), o.orderWhen(k));
        }
        same(n + " count(6)", x.count(6), 0);
    }

    private void who(int n) {
        byte[] t = new byte[roll(10) == 0 ? roll(16) : 2 * (1 + roll(3))];
        int like = sheet();
        for (int i = 0; i < t.length; i += 2) {
            int b = bathNumber();
            boolean real = like >= 0 && like < o.w.sheets.size() && b >= 0 && b < o.w.baths.size();
            t[i] = (byte) b;
            if (i + 1 < t.length) {
                t[i + 1] = (byte) (real && roll(6) > 0 ? o.st.asks(like)[b] : roll(256));
            }
        }
        bytes(t);
        same(n + " who", x.who(), o.who());
        same(n + " ask", x.ask(), o.ask);
    }

    private void tag(int n, int s) {
        same(n + " tag " + s, x.tag(s), o.tag(s));
        for (int i = -1; i < 24; i++) {
            same(n + " byteAt " + i, x.byteAt(i), o.byteAt(i));
        }
    }

    private void tapeCall(int n) {
        for (int i = roll(60); i >= 0; i--) {
            int[] f = {dice.nextInt(), dice.nextInt(), dice.nextInt(), dice.nextInt(), dice.nextInt()};
            same(n + " feed", x.feed(f[0], f[1], f[2], f[3], f[4]), o.feed(f));
        }
        int e = roll(1000) - 20;
        same(n + " end", x.end(e) ? 1 : 0, o.end(e) ? 1 : 0);
        same(n + " count(6)", x.count(6), o.count(6));
        if (roll(3) == 0) {
            same(n + " room of noise", x.room(), o.room());
            same(n + " fault", x.fault(), o.fault);
        }
    }

    private void bookCall(int n) {
        text(mutated(bookText(), 6));
        int lives = roll(12) == 0 ? roll(5) - 2 : roll(2);
        same(n + " book " + lives, x.book(lives), o.book(lives));
        same(n + " fault", x.fault(), o.fault);
        same(n + " count(6)", x.count(6), o.count(6));
        for (int what = -1; what < 5; what++) {
            same(n + " told " + what, x.told(what), o.told(what));
        }
    }

    private void sentenceCall(int n) {
        text(mutated(sentenceText(), 5));
        same(n + " sentence", x.sentence(), o.sentence());
        same(n + " fault", x.fault(), o.fault);
        for (int k = -2; k < 9; k++) {
            same(n + " said " + k, x.said(k), o.said(k));
        }
    }

    // texts

    private String word() {
        if (roll(60) == 0) {
            String[] keys = Oracle.WORDS.toArray(new String[0]);
            java.util.Arrays.sort(keys);
            return keys[roll(keys.length)];
        }
        StringBuilder w = new StringBuilder();
        int n = roll(5) == 0 ? 1 + roll(7) : 2 + roll(2);
        for (int i = 0; i < n; i++) {
            w.append((char) ('a' + roll(26)));
        }
        return w.toString();
    }

    private String gap() {
        return roll(12) == 0 ? "\n " : " ";
    }

    private String roomText() {
        StringBuilder t = new StringBuilder();
        int baths = roll(10) == 0 ? roll(8) : 1 + roll(5);
        int papers = roll(10) == 0 ? roll(7) : 1 + roll(4);
        int sheets = roll(8) == 0 ? roll(10) : 2 + roll(6);
        if (roll(2) == 0) {
            t.append("spare ").append(roll(4)).append(';');
        }
        for (int b = 0; b < baths; b++) {
            t.append("bath").append(gap()).append(word()).append(gap()).append(1 + roll(roll(3) == 0 ? 4 : 2)).append(gap())
                .append(1 + roll(roll(2) == 0 ? 5 : roll(10) == 0 ? 101 : 99)).append(roll(9) == 0 ? " ;\n" : ";");
        }
        if (roll(2) == 0) {
            t.append("weak ").append(roll(10)).append(';');
        }
        List<String> names = new ArrayList<>();
        for (int p = 0; p < papers; p++) {
            String name = word();
            names.add(name);
            t.append("paper ").append(name);
            for (int b = 0; b < baths; b++) {
                t.append(gap()).append(roll(4) == 0 ? 0 : 1 + roll(roll(3) == 0 ? 30 : 8));
            }
            t.append(';');
        }
        if (roll(2) == 0) {
            t.append("fresh ").append(roll(100)).append("; ");
        }
        for (int s = 0; s < sheets; s++) {
            String of = names.isEmpty() || roll(50) == 0 ? word() : names.get(roll(names.size()));
            t.append("sheet ").append(word()).append(gap()).append(of).append(';');
        }
        return roll(30) == 0 ? mutated(t.toString(), 1) : t.toString();
    }

    private String known(List<String> names) {
        return names.isEmpty() || roll(80) == 0 ? word() : names.get(roll(names.size()));
    }

    private String bookText() {
        StringBuilder t = new StringBuilder();
        int lines = roll(12) == 0 ? roll(46) : roll(10);
        for (int i = 0; i < lines; i++) {
            switch (roll(9)) {
                case 0: case 1: case 2: t.append("start ").append(known(o.w.sheets)); break;
                case 3: t.append("take ").append(known(o.w.sheets)); break;
                case 4: t.append("again ").append(known(o.w.sheets)); break;
                case 5: t.append("renew ").append(known(o.w.baths)); break;
                default: t.append("minute ").append(1 + roll(roll(6) == 0 ? 62 : 6)); break;
            }
            t.append(roll(30) == 0 ? gap() : ";");
        }
        return t.toString();
    }

    private String sentenceText() {
        StringBuilder t = new StringBuilder();
        cond(t, 1, roll(6) == 0 ? 10 : 4);
        return t.toString();
    }

    private void cond(StringBuilder t, int depth, int deepest) {
        one(t, depth, deepest);
        int more = roll(3) == 0 ? roll(4) : roll(2);
        for (int i = 0; i < more; i++) {
            t.append(roll(2) == 0 ? " and " : " or ");
            one(t, depth, deepest);
        }
    }

    private void one(StringBuilder t, int depth, int deepest) {
        if (depth < deepest && roll(3) > 0) {
            if (roll(2) == 0) {
                t.append("not ");
                one(t, depth + 1, deepest);
            } else {
                t.append("(");
                cond(t, depth + 1, deepest);
                t.append(")");
            }
            return;
        }
        String[] plain = {"waiting", "done", "spoilt", "held"};
        String[] counted = {"left", "over", "tries", "number"};
        switch (roll(4)) {
            case 0: t.append(plain[roll(4)]); break;
            case 1: t.append("in ").append(known(o.w.baths)); break;
            case 2: t.append("of ").append(known(o.w.papers)); break;
            default: t.append(counted[roll(4)]).append("<=>".charAt(roll(3))).append(roll(6)); break;
        }
    }

    /** One time of so many the text has something else in it, lacks something or is too long. */
    private String mutated(String text, int oneOf) {
        if (roll(oneOf) > 0) {
            return text;
        }
        StringBuilder t = new StringBuilder(text);
        String signs = "abcxyz0123456789;<=>(). \n\u00e9A";
        for (int i = roll(3); i >= 0; i--) {
            int at = roll(t.length() + 1);
            switch (roll(5)) {
                case 0: t.insert(at, signs.charAt(roll(signs.length()))); break;
                case 1: if (at < t.length()) { t.deleteCharAt(at); } break;
                case 2: t.setLength(at); break;
                case 3: t.insert(at, " " + word() + " "); break;
                default: while (t.length() < 190 + roll(2) * 210 + roll(2) * 500) { t.append(roll(2) == 0 ? " " : "\n"); } break;
            }
        }
        if (t.length() > 940) {
            t.setLength(940);
        }
        return t.toString();
    }
}
