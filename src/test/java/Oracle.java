import java.util.ArrayList;
import java.util.Arrays;
import java.util.HashMap;
import java.util.HashSet;
import java.util.LinkedList;
import java.util.List;
import java.util.Map;
import java.util.Set;
import java.util.function.BiPredicate;

/** The document told a second time, in another way: slow, with lists, for comparing by random runs. */
final class Oracle {
    static final Set<String> WORDS = new HashSet<>(Arrays.asList(("bath paper sheet spare weak fresh start take again renew "
        + "minute or and not waiting done spoilt held in of left over tries number").split(" ")));

    static final class Fault extends RuntimeException {
        private static final long serialVersionUID = 1;
        final int kind;
        final int place;
        Fault(int kind, int place) {
            this.kind = kind;
            this.place = place;
        }
    }

    static final class Token {
        final char sort; // w word, n number, the sign itself, ? none, $ the end, ! too long
        final String text;
        final int place;
        Token(char sort, String text, int place) {
            this.sort = sort;
            this.text = text;
            this.place = place;
        }
    }

    static LinkedList<Token> tokens(byte[] tape, int most) {
        LinkedList<Token> all = new LinkedList<>();
        String text = new String(tape, java.nio.charset.StandardCharsets.ISO_8859_1);
        java.util.regex.Matcher m = java.util.regex.Pattern.compile("[ \n]+|[a-z0-9]+|[^a-z0-9 \n]", java.util.regex.Pattern.DOTALL).matcher(text);
        while (m.find()) {
            String t = m.group();
            if (m.start() >= most || t.charAt(0) == ' ' || t.charAt(0) == '\n') {
                continue;
            }
            char sort = '?';
            if (t.matches("[a-z]{1,7}")) {
                sort = 'w';
            } else if (t.matches("[0-9]{1,3}")) {
                sort = 'n';
            } else if (";<=>()".contains(t)) {
                sort = t.charAt(0);
            }
            all.add(new Token(sort, t, m.start()));
        }
        all.add(text.length() > most ? new Token('!', "", most) : new Token('$', "", text.length()));
        return all;
    }

    static final class World {
        List<String> baths = new ArrayList<>();
        List<String> papers = new ArrayList<>();
        List<String> sheets = new ArrayList<>();
        List<Integer> holds = new ArrayList<>();
        List<Integer> lasts = new ArrayList<>();
        List<int[]> asks = new ArrayList<>();
        List<Integer> paperOf = new ArrayList<>();
        int spare;
        int weak;
        int fresh = 5;

        boolean told(String name) {
            return baths.contains(name) || papers.contains(name) || sheets.contains(name);
        }
    }

    static String name(LinkedList<Token> t) {
        Token k = t.peek();
        if (k.sort != 'w' || WORDS.contains(k.text)) {
            throw new Fault(1, k.place);
        }
        return t.poll().text;
    }

    static int known(LinkedList<Token> t, List<String> names) {
        int place = t.peek().place;
        int i = names.indexOf(name(t));
        if (i < 0) {
            throw new Fault(3, place);
        }
        return i;
    }

    static String fresh(LinkedList<Token> t, World w) {
        int place = t.peek().place;
        String n = name(t);
        if (w.told(n)) {
            throw new Fault(3, place);
        }
        return n;
    }

    static int number(LinkedList<Token> t, int low, int high) {
        Token k = t.peek();
        if (k.sort != 'n') {
            throw new Fault(1, k.place);
        }
        int n = Integer.parseInt(k.text);
        if (n < low || n > high) {
            throw new Fault(2, k.place);
        }
        t.poll();
        return n;
    }

    static void sign(LinkedList<Token> t, char c) {
        if (t.peek().sort != c) {
            throw new Fault(1, t.peek().place);
        }
        t.poll();
    }

    static int[] readRoom(byte[] tape, World w) {
        LinkedList<Token> t = tokens(tape, 900);
        Set<String> once = new HashSet<>();
        int lines = 0;
        while (t.peek().sort != '$') {
            Token k = t.peek();
            String first = k.sort == 'w' ? k.text : "";
            switch (first) {
                case "bath":
                    if (!w.papers.isEmpty()) {
                        throw new Fault(3, k.place);
                    }
                    full(w.baths, 6, k);
                    t.poll();
                    String bn = fresh(t, w);
                    int h = number(t, 1, 4);
                    int l = number(t, 1, 99);
                    w.baths.add(bn);
                    w.holds.add(h);
                    w.lasts.add(l);
                    break;
                case "paper":
                    full(w.papers, 5, k);
                    t.poll();
                    String pn = fresh(t, w);
                    int[] a = new int[w.baths.size()];
                    for (int i = 0; i < a.length; i++) {
                        a[i] = number(t, 0, 30);
                    }
                    w.papers.add(pn);
                    w.asks.add(a);
                    break;
                case "sheet":
                    full(w.sheets, 8, k);
                    t.poll();
                    String sn = fresh(t, w);
                    int p = known(t, w.papers);
                    w.sheets.add(sn);
                    w.paperOf.add(p);
                    break;
                case "spare":
                case "weak":
                case "fresh":
                    if (!once.add(first)) {
                        throw new Fault(3, k.place);
                    }
                    t.poll();
                    int n = number(t, 0, first.equals("fresh") ? 99 : 9);
                    if (first.equals("spare")) {
                        w.spare = n;
                    } else if (first.equals("weak")) {
                        w.weak = n;
                    } else {
                        w.fresh = n;
                    }
                    break;
                default:
                    throw new Fault(1, k.place);
            }
            sign(t, ';');
            lines++;
        }
        return new int[] {lines};
    }

    static void full(List<String> all, int most, Token k) {
        if (all.size() >= most) {
            throw new Fault(4, k.place);
        }
    }

    static final class Sheet implements Cloneable {
        int how;
        int bath = -1;
        int left;
        int over;
        int overAll;
        int tries;
        Sheet copy() {
            try {
                return (Sheet) clone();
            } catch (CloneNotSupportedException e) {
                throw new IllegalStateException(e);
            }
        }
    }

    static final class State {
        final World w;
        List<Sheet> sheets = new ArrayList<>();
        int[] had;
        int minute;
        int fresh;

        State(World w) {
            this.w = w;
            for (int i = 0; i < w.sheets.size(); i++) {
                sheets.add(new Sheet());
            }
            had = new int[w.baths.size()];
            fresh = w.fresh;
        }

        State copy() {
            State c = new State(w);
            c.sheets.clear();
            for (Sheet s : sheets) {
                c.sheets.add(s.copy());
            }
            c.had = had.clone();
            c.minute = minute;
            c.fresh = fresh;
            return c;
        }

        int in(int b) {
            int bits = 0;
            for (int s = 0; s < sheets.size(); s++) {
                if (sheets.get(s).bath == b) {
                    bits += 1 << s;
                }
            }
            return bits;
        }

        int are(int how) {
            int bits = 0;
            for (int s = 0; s < sheets.size(); s++) {
                if (sheets.get(s).how == how) {
                    bits += 1 << s;
                }
            }
            return bits;
        }

        int held() {
            int bits = 0;
            for (int s = 0; s < sheets.size(); s++) {
                if (sheets.get(s).how == 1 && sheets.get(s).left == 0) {
                    bits += 1 << s;
                }
            }
            return bits;
        }

        boolean open(int b) {
            return Integer.bitCount(in(b)) < w.holds.get(b) && had[b] < w.lasts.get(b);
        }

        int[] asks(int s) {
            return w.asks.get(w.paperOf.get(s));
        }

        int next(int s, int from) {
            int[] a = asks(s);
            for (int b = from; b < a.length; b++) {
                if (a[b] != 0) {
                    return b;
                }
            }
            return -1;
        }

        void into(int s, int b) {
            Sheet x = sheets.get(s);
            x.how = 1;
            x.bath = b;
            x.over = 0;
            x.left = asks(s)[b];
            if (!(had[b] + had[b] < w.lasts.get(b))) {
                x.left += w.weak;
            }
            had[b]++;
        }

        void out(int s, int how) {
            Sheet x = sheets.get(s);
            x.how = how;
            x.bath = -1;
            x.left = 0;
            x.over = 0;
        }

        int start(int s) {
            if (s < 0 || s >= sheets.size()) {
                return -1;
            }
            Sheet x = sheets.get(s);
            if (x.how != 0) {
                return 1;
            }
            int b = next(s, 0);
            if (b >= 0 && !open(b)) {
                return 2;
            }
            x.overAll = 0;
            x.tries++;
            if (b < 0) {
                out(s, 2);
            } else {
                into(s, b);
            }
            return 0;
        }

        int take(int s) {
            if (s < 0 || s >= sheets.size()) {
                return -1;
            }
            if (sheets.get(s).how != 1) {
                return 1;
            }
            out(s, 3);
            return 0;
        }

        int again(int s) {
            if (s < 0 || s >= sheets.size()) {
                return -1;
            }
            if (sheets.get(s).how != 3) {
                return 1;
            }
            out(s, 0);
            return 0;
        }

        int renew(int b) {
            if (b < 0 || b >= had.length) {
                return -1;
            }
            if (had[b] == 0) {
                return 1;
            }
            if (fresh == 0) {
                return 2;
            }
            if (in(b) != 0) {
                return 3;
            }
            had[b] = 0;
            fresh--;
            return 0;
        }

        void minute() {
            for (int b = had.length - 1; b >= 0; b--) {
                for (int s = 0; s < sheets.size(); s++) {
                    Sheet x = sheets.get(s);
                    if (x.bath != b) {
                        continue;
                    }
                    if (x.left > 0) {
                        x.left--;
                    }
                    if (x.left > 0) {
                        continue;
                    }
                    int n = next(s, b + 1);
                    if (n < 0) {
                        out(s, 2);
                    } else if (open(n)) {
                        into(s, n);
                    } else if (x.over == w.spare) {
                        out(s, 3);
                    } else {
                        x.over++;
                        x.overAll++;
                    }
                }
            }
            minute++;
        }

        int when(int s) {
            if (s < 0 || s >= sheets.size() || sheets.get(s).how == 0 || sheets.get(s).how == 3) {
                return -1;
            }
            State c = copy();
            for (int m = 0; m <= 300; m++) {
                if (c.sheets.get(s).how == 2) {
                    return m;
                }
                c.minute();
            }
            return -1;
        }

        int clear(int s) {
            if (s < 0 || s >= sheets.size() || sheets.get(s).how != 0) {
                return -1;
            }
            State without = copy();
            for (int m = 0; m < 200; m++) {
                without.minute();
            }
            State at = copy();
            for (int t = 0; t <= 60; t++) {
                State c = at.copy();
                if (c.start(s) == 0) {
                    for (int m = 0; m < 200; m++) {
                        c.minute();
                    }
                    boolean good = c.sheets.get(s).how == 2;
                    for (int k = 0; k < sheets.size(); k++) {
                        if (c.sheets.get(k).how == 3 && without.sheets.get(k).how != 3) {
                            good = false;
                        }
                    }
                    if (good) {
                        return t;
                    }
                }
                at.minute();
                without.minute();
            }
            return -1;
        }
    }

    interface Said {
        boolean of(State st, int s);
    }

    final class Reading {
        final LinkedList<Token> t;
        int ones;
        Reading(LinkedList<Token> t) {
            this.t = t;
        }

        boolean word(String w) {
            return t.peek().sort == 'w' && t.peek().text.equals(w);
        }

        Said cond(int depth) {
            Said a = all(depth);
            while (word("or")) {
                t.poll();
                Said l = a;
                Said r = all(depth);
                a = (st, s) -> l.of(st, s) | r.of(st, s);
            }
            return a;
        }

        Said all(int depth) {
            Said a = one(depth);
            while (word("and")) {
                t.poll();
                Said l = a;
                Said r = one(depth);
                a = (st, s) -> l.of(st, s) & r.of(st, s);
            }
            return a;
        }

        Said one(int depth) {
            Token k = t.peek();
            List<String> can = Arrays.asList("not", "waiting", "done", "spoilt", "held", "in", "of", "left", "over", "tries", "number");
            if (k.sort != '(' && !(k.sort == 'w' && can.contains(k.text))) {
                throw new Fault(1, k.place);
            }
            if (ones == 20 || depth == 9) {
                throw new Fault(4, k.place);
            }
            ones++;
            t.poll();
            if (k.sort == '(') {
                Said c = cond(depth + 1);
                sign(t, ')');
                return c;
            }
            switch (k.text) {
                case "not":
                    Said n = one(depth + 1);
                    return (st, s) -> !n.of(st, s);
                case "waiting":
                    return (st, s) -> st.sheets.get(s).how == 0;
                case "done":
                    return (st, s) -> st.sheets.get(s).how == 2;
                case "spoilt":
                    return (st, s) -> st.sheets.get(s).how == 3;
                case "held":
                    return (st, s) -> (st.held() >> s & 1) == 1;
                case "in":
                    int b = known(t, w.baths);
                    return (st, s) -> st.sheets.get(s).bath == b;
                case "of":
                    int p = known(t, w.papers);
                    return (st, s) -> st.w.paperOf.get(s) == p;
                default:
                    Token sg = t.peek();
                    if (sg.sort != '<' && sg.sort != '=' && sg.sort != '>') {
                        throw new Fault(1, sg.place);
                    }
                    t.poll();
                    int v = number(t, 0, 999);
                    BiPredicate<Integer, Integer> cmp = sg.sort == '<' ? (x, y) -> x < y
                        : sg.sort == '>' ? (x, y) -> x > y : (x, y) -> x.intValue() == y.intValue();
                    return (st, s) -> {
                        Sheet x = st.sheets.get(s);
                        int q = k.text.equals("left") ? x.left : k.text.equals("over") ? x.overAll
                            : k.text.equals("tries") ? x.tries : s;
                        return cmp.test(q, v);
                    };
            }
        }
    }

    byte[] tape = new byte[0];
    World w = new World();
    State st = new State(w);
    Said said;
    int fault;
    LinkedList<State> past = new LinkedList<>();
    int[] row = new int[0];
    int[] rowWhen = new int[0];
    int[] chain = new int[0];
    int ask = -1;
    String tag = "";
    int[] told;
    Map<Integer, Object[]> images = new HashMap<>();

    private byte[] pull() {
        byte[] t = tape;
        tape = new byte[0];
        return t;
    }

    int feed(int... five) {
        if (tape.length + 20 > 940) {
            return -1;
        }
        int n = tape.length;
        tape = Arrays.copyOf(tape, n + 20);
        java.nio.ByteBuffer.wrap(tape, n, 20).putInt(five[0]).putInt(five[1]).putInt(five[2]).putInt(five[3]).putInt(five[4]);
        return n + 20;
    }

    boolean end(int n) {
        if (n < 0 || n > tape.length) {
            return false;
        }
        tape = Arrays.copyOf(tape, n);
        return true;
    }

    int room() {
        World n = new World();
        try {
            int lines = readRoom(pull(), n)[0];
            fault = 0;
            w = n;
            st = new State(w);
            said = null;
            past.clear();
            return lines;
        } catch (Fault f) {
            fault = f.kind;
            return -1 - f.place;
        }
    }

    int bath(int b, int what) {
        if (b < 0 || b >= w.baths.size() || what < 0 || what > 5) {
            return -1;
        }
        return new int[] {w.holds.get(b), w.lasts.get(b), st.had[b], st.in(b), st.open(b) ? 1 : 0, need(b)}[what];
    }

    private int need(int b) {
        int room = w.lasts.get(b) - st.had[b];
        int renewed = 0;
        for (int s = 0; s < w.sheets.size(); s++) {
            Sheet x = st.sheets.get(s);
            if ((x.how == 0 || x.how == 1 && x.bath < b) && st.asks(s)[b] > 0) {
                if (room == 0) {
                    renewed++;
                    room = w.lasts.get(b);
                }
                room--;
            }
        }
        return renewed;
    }

    int asks(int p, int b) {
        return p < 0 || b < 0 || p >= w.papers.size() || b >= w.baths.size() ? -1 : w.asks.get(p)[b];
    }

    /** MIN_VALUE stands for the exception. */
    int sheet(int s, int what) {
        if (s < 0 || s >= w.sheets.size() || what < 0 || what > 6) {
            return Integer.MIN_VALUE;
        }
        Sheet x = st.sheets.get(s);
        return new int[] {w.paperOf.get(s), x.how, x.bath, x.left, x.over, x.overAll, x.tries}[what];
    }

    int now(int what) {
        int open = 0;
        for (int b = 0; b < w.baths.size(); b++) {
            open += st.open(b) ? 1 << b : 0;
        }
        int[] all = {st.minute, st.are(0), st.are(1), st.are(2), st.are(3), st.held(), open, st.fresh};
        return what < 0 || what > 7 ? -1 : all[what];
    }

    private int act(State before, int why) {
        if (why == 0) {
            keep(before);
        }
        return why;
    }

    private void keep(State before) {
        past.add(before);
        if (past.size() > 8) {
            past.removeFirst();
        }
    }

    int start(int s) {
        State c = st.copy();
        return act(c, st.start(s));
    }

    int take(int s) {
        State c = st.copy();
        return act(c, st.take(s));
    }

    int again(int s) {
        State c = st.copy();
        return act(c, st.again(s));
    }

    int renew(int b) {
        State c = st.copy();
        return act(c, st.renew(b));
    }

    int minutes(int n) {
        if (n < 1 || n > 60) {
            return -1;
        }
        State c = st.copy();
        int gone = 0;
        while (gone < n && st.minute < 1000) {
            st.minute();
            gone++;
        }
        if (gone > 0) {
            keep(c);
        }
        return gone;
    }

    int undo() {
        if (past.isEmpty()) {
            return -1;
        }
        st = past.removeLast();
        return past.size();
    }

    int when(int s) {
        return st.when(s);
    }

    int clear(int s) {
        return st.clear(s);
    }

    int order() {
        byte[] t = pull();
        if (t.length < 1 || t.length > 3) {
            return -1;
        }
        java.util.TreeSet<Integer> set = new java.util.TreeSet<>();
        for (byte b : t) {
            int s = b & 255;
            if (s >= w.sheets.size() || st.sheets.get(s).how != 0 || !set.add(s)) {
                return -1;
            }
        }
        List<List<Integer>> rows = new ArrayList<>();
        rows(new ArrayList<>(), new ArrayList<>(set), rows);
        int best = -1;
        for (List<Integer> r : rows) {
            State c = st.copy();
            int gone = 0;
            int[] starts = new int[r.size()];
            boolean can = true;
            int last = 0;
            for (int k = 0; k < r.size() && can; k++) {
                int wait = c.clear(r.get(k));
                can = wait >= 0;
                for (int m = 0; m < wait; m++) {
                    c.minute();
                }
                if (can && c.start(r.get(k)) != 0) {
                    throw new IllegalStateException();
                }
                gone += wait;
                starts[k] = gone;
            }
            if (!can) {
                continue;
            }
            int[] done = new int[r.size()];
            Arrays.fill(done, -1);
            for (int m = 0; m <= 200; m++) {
                for (int k = 0; k < r.size(); k++) {
                    if (done[k] < 0 && c.sheets.get(r.get(k)).how == 2) {
                        done[k] = gone + m;
                    }
                }
                c.minute();
            }
            for (int d : done) {
                can &= d >= 0;
                last = Math.max(last, d);
            }
            if (can && (best < 0 || last < best)) {
                best = last;
                row = r.stream().mapToInt(i -> i).toArray();
                rowWhen = starts;
            }
        }
        return best;
    }

    private static void rows(List<Integer> head, List<Integer> rest, List<List<Integer>> out) {
        if (rest.isEmpty()) {
            out.add(head);
        }
        for (Integer i : rest) {
            List<Integer> h = new ArrayList<>(head);
            h.add(i);
            List<Integer> r = new ArrayList<>(rest);
            r.remove(i);
            rows(h, r, out);
        }
    }

    private static int at(int[] row, int k) {
        return k < 0 || k >= row.length ? -1 : row[k];
    }

    int orderAt(int k) {
        return at(row, k);
    }

    int orderWhen(int k) {
        return at(rowWhen, k);
    }

    int jam() {
        int best = -1;
        double most = -1;
        for (int b = 0; b < w.baths.size(); b++) {
            double all = 0;
            for (int s = 0; s < w.sheets.size(); s++) {
                if (st.sheets.get(s).how == 0) {
                    all += st.asks(s)[b];
                }
            }
            // twelfths: HOLDS is 1 to 4
            double twelfths = all * (12 / w.holds.get(b));
            if (twelfths > most) {
                most = twelfths;
                best = b;
            }
        }
        return best;
    }

    int who() {
        byte[] t = pull();
        if (t.length == 0 || t.length > 12 || t.length % 2 == 1) {
            return -1;
        }
        int bits = 0;
        for (int s = 0; s < w.sheets.size(); s++) {
            bits += 1 << s;
        }
        for (int i = 0; i < t.length; i += 2) {
            int b = t[i] & 255;
            if (b >= w.baths.size()) {
                return -1;
            }
            for (int s = 0; s < w.sheets.size(); s++) {
                if (st.asks(s)[b] != (t[i + 1] & 255)) {
                    bits &= ~(1 << s);
                }
            }
        }
        if (bits > 0) {
            int least = 99;
            for (int b = 0; b < w.baths.size(); b++) {
                Map<Integer, Integer> by = new HashMap<>();
                for (int s = 0; s < w.sheets.size(); s++) {
                    if ((bits >> s & 1) == 1) {
                        by.merge(st.asks(s)[b], 1, Integer::sum);
                    }
                }
                int most = by.values().stream().mapToInt(i -> i).max().getAsInt();
                if (most < least) {
                    least = most;
                    ask = b;
                }
            }
        }
        return bits;
    }

    int near(int p) {
        if (p < 0 || p >= w.papers.size()) {
            return -1;
        }
        int best = -1;
        int least = 9999;
        for (int q = 0; q < w.papers.size(); q++) {
            int d = 0;
            for (int b = 0; b < w.baths.size(); b++) {
                d += Math.abs(asks(p, b) - asks(q, b));
            }
            if (q != p && d < least) {
                least = d;
                best = q;
            }
        }
        return best;
    }

    int through(int p) {
        return p < 0 || p >= w.papers.size() ? -1 : Arrays.stream(w.asks.get(p)).sum();
    }

    /** By living it: two SHEETS in BATHS that hold one and last. */
    int gap(int p, int q) {
        if (p < 0 || q < 0 || p >= w.papers.size() || q >= w.papers.size()) {
            return -1;
        }
        World two = new World();
        two.baths = w.baths;
        for (int b = 0; b < w.baths.size(); b++) {
            two.holds.add(1);
            two.lasts.add(100000);
        }
        two.asks = w.asks;
        two.papers = w.papers;
        two.sheets = Arrays.asList("one", "two");
        two.paperOf = Arrays.asList(p, q);
        two.spare = 9999;
        for (int g = 0; g < 500; g++) {
            State c = new State(two);
            c.start(0);
            for (int m = 0; m < g; m++) {
                c.minute();
            }
            if (c.start(1) != 0) {
                continue;
            }
            for (int m = 0; m < 500; m++) {
                c.minute();
            }
            if (c.sheets.get(0).overAll == 0 && c.sheets.get(1).overAll == 0) {
                return g;
            }
        }
        throw new IllegalStateException();
    }

    int chain() {
        List<Integer> all = new ArrayList<>();
        int n = w.papers.size();
        int[][] gaps = new int[n][n];
        for (int p = 0; p < n; p++) {
            all.add(p);
            for (int q = 0; q < n; q++) {
                gaps[p][q] = gap(p, q);
            }
        }
        List<List<Integer>> rows = new ArrayList<>();
        rows(new ArrayList<>(), all, rows);
        int best = -1;
        for (List<Integer> r : rows) {
            int sum = 0;
            for (int k = 1; k < r.size(); k++) {
                sum += gaps[r.get(k - 1)][r.get(k)];
            }
            if (best < 0 || sum < best) {
                best = sum;
                chain = r.stream().mapToInt(i -> i).toArray();
            }
        }
        return best;
    }

    int chainAt(int k) {
        return at(chain, k);
    }

    int load(int b, int k) {
        if (b < 0 || b >= w.baths.size() || k < 0 || k > 200) {
            return -1;
        }
        State c = st.copy();
        for (int m = 0; m < k; m++) {
            c.minute();
        }
        return c.in(b);
    }

    int block(int s) {
        if (s < 0 || s >= w.sheets.size() || (st.held() >> s & 1) == 0) {
            return -1;
        }
        return st.in(st.next(s, st.sheets.get(s).bath + 1));
    }

    private static int least(int a, int b, int what) {
        return (what == 0 ? a : b) / java.math.BigInteger.valueOf(a).gcd(java.math.BigInteger.valueOf(b)).intValue();
    }

    int wear(int b, int what) {
        if (b < 0 || b >= w.baths.size() || what < 0 || what > 1) {
            return Integer.MIN_VALUE;
        }
        return least(st.had[b], w.lasts.get(b), what);
    }

    int mean(int what) {
        if (w.sheets.isEmpty() || what < 0 || what > 1) {
            return Integer.MIN_VALUE;
        }
        int all = 0;
        for (Sheet s : st.sheets) {
            all += s.overAll;
        }
        return least(all, w.sheets.size(), what);
    }

    int often() {
        int best = -1;
        for (int s = 0; s < w.sheets.size(); s++) {
            int t = st.sheets.get(s).tries;
            if (t > 0 && (best < 0 || t > st.sheets.get(best).tries)) {
                best = s;
            }
        }
        return best;
    }

    int tag(int s) {
        if (s < 0 || s >= w.sheets.size()) {
            return -1;
        }
        Sheet x = st.sheets.get(s);
        tag = w.sheets.get(s) + (x.how == 0 ? " waits" : x.how == 2 ? " done" : x.how == 3 ? " spoilt"
            : " in " + w.baths.get(x.bath) + " " + x.left);
        return tag.length();
    }

    int byteAt(int i) {
        return i < 0 || i >= tag.length() ? -1 : tag.charAt(i);
    }

    private int x;

    private int draw(int n) {
        x = (int) (x * 1103515245L + 12345L);
        return (x >>> 8) % n;
    }

    private int draws(State c, int n, int seed) {
        x = seed;
        int gone = 0;
        for (; gone < n && c.minute < 1000; gone++) {
            int sheets = c.sheets.size();
            switch (draw(8)) {
                case 0:
                case 1:
                case 2:
                    if (sheets > 0) {
                        c.start(draw(sheets));
                    }
                    break;
                case 3:
                    if (sheets > 0) {
                        c.again(draw(sheets));
                    }
                    break;
                case 4:
                    if (c.had.length > 0) {
                        c.renew(draw(c.had.length));
                    }
                    break;
                case 5:
                    if (draw(4) == 0 && sheets > 0) {
                        c.take(draw(sheets));
                    }
                    break;
                default:
            }
            c.minute();
        }
        return gone;
    }

    int drawn(int n, int seed) {
        if (n < 1 || n > 60) {
            return -1;
        }
        State c = st.copy();
        int gone = draws(st, n, seed);
        if (gone > 0) {
            keep(c);
        }
        return gone;
    }

    int odds(int s, int n, int seed) {
        if (s < 0 || s >= w.sheets.size() || n < 1 || n > 30) {
            return -1;
        }
        int done = 0;
        for (int i = 0; i < n; i++) {
            State c = st.copy();
            draws(c, 40, seed + i);
            done += c.sheets.get(s).how == 2 ? 1 : 0;
        }
        return done;
    }

    int book(int lives) {
        if (lives != 0 && lives != 1) {
            return -1000;
        }
        List<Object[]> lines = new ArrayList<>();
        try {
            LinkedList<Token> t = tokens(pull(), 400);
            while (t.peek().sort != '$') {
                Token k = t.peek();
                List<String> can = Arrays.asList("start", "take", "again", "renew", "minute");
                if (k.sort != 'w' || !can.contains(k.text)) {
                    throw new Fault(1, k.place);
                }
                if (lines.size() == 40) {
                    throw new Fault(4, k.place);
                }
                t.poll();
                int arg = k.text.equals("minute") ? number(t, 1, 60)
                    : known(t, k.text.equals("renew") ? w.baths : w.sheets);
                sign(t, ';');
                lines.add(new Object[] {k.text, arg});
            }
            fault = 0;
        } catch (Fault f) {
            fault = f.kind;
            return -2 - f.place;
        }
        State c = st.copy();
        int why = 0;
        int ahead = 0;
        for (Object[] line : lines) {
            int arg = (Integer) line[1];
            switch ((String) line[0]) {
                case "start":
                    why = c.start(arg);
                    break;
                case "take":
                    why = c.take(arg);
                    why += why > 0 ? 10 : 0;
                    break;
                case "again":
                    why = c.again(arg);
                    why += why > 0 ? 20 : 0;
                    break;
                case "renew":
                    why = c.renew(arg);
                    why += why > 0 ? 30 : 0;
                    break;
                default:
                    why = 1000 - c.minute < arg ? 41 : 0;
                    for (int m = 0; m < arg && why == 0; m++) {
                        c.minute();
                    }
            }
            if (why != 0) {
                break;
            }
            ahead++;
        }
        told = new int[] {why, ahead, c.minute, c.are(2)};
        if (lives == 1 && ahead > 0) {
            keep(st);
            st = c;
        }
        return why == 0 ? -1 : ahead;
    }

    int told(int what) {
        return told == null ? -1 : at(told, what);
    }

    int sentence() {
        try {
            Reading r = new Reading(tokens(pull(), 200));
            Said s = r.cond(1);
            sign(r.t, '$');
            fault = 0;
            said = s;
            return r.ones;
        } catch (Fault f) {
            fault = f.kind;
            return -1 - f.place;
        }
    }

    int said(int k) {
        if (said == null) {
            return -1;
        }
        List<Integer> of = new ArrayList<>();
        for (int s = 0; s < w.sheets.size(); s++) {
            if (said.of(st, s)) {
                of.add(s);
            }
        }
        return k == -1 ? of.size() : k < 0 || k >= of.size() ? -1 : of.get(k);
    }

    boolean image(int k) {
        if (k != 0 && k != 1) {
            return false;
        }
        images.put(k, new Object[] {w, st.copy(), said});
        return true;
    }

    boolean restore(int k) {
        Object[] i = images.get(k);
        if (i == null) {
            return false;
        }
        w = (World) i[0];
        st = ((State) i[1]).copy();
        said = (Said) i[2];
        past.clear();
        return true;
    }

    int count(int what) {
        int[] all = {w.baths.size(), w.papers.size(), w.sheets.size(), w.spare, w.weak, w.fresh, tape.length};
        return at(all, what);
    }
}
