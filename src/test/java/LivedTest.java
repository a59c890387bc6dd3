import java.util.ArrayList;
import java.util.List;
import java.util.Random;

/**
 * What an object tells ahead (WHEN, CLEAR, ORDER, LOAD, ODDS, a BOOK that is judged) against what other objects with the same
 * past show when it is lived; and what it works out (NEED, JAM, ASK, NEAR, CHAIN ..) against its own plainer answers.
 */
public final class LivedTest {
    private static final int NONE = BathMinutes.NONE;
    private static final int RUNS = Integer.getInteger("runs", 250);
    private static final Check c = new Check("LivedTest");
    private static final String[] BATHS = {"dev", "stop", "fix", "rinse", "tone", "wash"};
    private static final String[] PAPERS = {"matt", "gloss", "pearl", "fibre", "lith"};
    private static final String[] SHEETS = {"a", "bb", "ccc", "dddd", "eeeee", "ffffff", "ggggggg", "h"};

    private final Random dice;
    private final String run;
    private final String room;
    private final int baths;
    private final int papers;
    private final int sheets;
    private final List<int[]> acts = new ArrayList<>();

    public static void main(String[] args) {
        for (int seed = 1; seed <= RUNS; seed++) {
            LivedTest t = new LivedTest(seed);
            t.makePast();
            t.whenAndLoad();
            t.clear();
            t.order();
            t.odds();
            t.book();
            t.ofBaths();
            t.ofSheets();
            t.ofPapers();
            t.whoAndAsk();
            t.said();
        }
        c.end();
    }

    private LivedTest(int seed) {
        dice = new Random(seed);
        run = "run " + seed + ", ";
        baths = 1 + dice.nextInt(6);
        papers = 1 + dice.nextInt(5);
        sheets = 1 + dice.nextInt(8);
        StringBuilder t = new StringBuilder();
        t.append("spare ").append(dice.nextInt(4)).append(";weak ").append(dice.nextInt(3)).append(";fresh ").append(dice.nextInt(9)).append(';');
        for (int b = 0; b < baths; b++) {
            t.append("bath ").append(BATHS[b]).append(' ').append(1 + dice.nextInt(3)).append(' ').append(1 + dice.nextInt(dice.nextBoolean() ? 4 : 20)).append(';');
        }
        for (int p = 0; p < papers; p++) {
            t.append("paper ").append(PAPERS[p]);
            for (int b = 0; b < baths; b++) {
                t.append(' ').append(dice.nextInt(4) == 0 ? 0 : dice.nextInt(8));
            }
            t.append(';');
        }
        for (int s = 0; s < sheets; s++) {
            t.append("sheet ").append(SHEETS[s]).append(' ').append(PAPERS[dice.nextInt(papers)]).append(';');
        }
        room = t.toString();
    }

    private void due(String call, long got, long want) {
        c.due(run + call + (got == want ? "" : " [" + room + "]"), got, want);
    }

    /** Acts that each new object of this run has behind it. */
    private void makePast() {
        int n = dice.nextInt(25);
        for (int i = 0; i < n; i++) {
            int kind = dice.nextInt(9);
            int of = kind < 6 ? dice.nextInt(sheets) : kind == 6 ? dice.nextInt(baths) : 1 + dice.nextInt(6);
            acts.add(new int[] {kind, of, dice.nextInt()});
        }
    }

    private BathMinutes anew() {
        BathMinutes x = Check.with(room);
        for (int[] a : acts) {
            switch (a[0]) {
                case 0: case 1: case 2: case 3: x.start(a[1]); break;
                case 4: x.take(a[1]); break;
                case 5: x.again(a[1]); break;
                case 6: x.renew(a[1]); break;
                case 7: x.minutes(a[1]); break;
                default: x.drawn(a[1], a[2]); break;
            }
        }
        return x;
    }

    private static void live(BathMinutes x, int n) {
        for (int left = n; left > 0; left -= 60) {
            x.minutes(Math.min(60, left));
        }
    }

    private void whenAndLoad() {
        BathMinutes asked = anew();
        BathMinutes lived = anew();
        int[] when = new int[sheets];
        java.util.Arrays.fill(when, NONE);
        for (int gone = 0; gone <= 60; gone++) {
            int done = lived.now(3);
            for (int s = 0; s < sheets; s++) {
                if (when[s] == NONE && (done >> s & 1) == 1) {
                    when[s] = gone;
                }
            }
            int b = gone % baths;
            due("load " + b + " in " + gone, asked.load(b, gone), lived.bath(b, 3));
            if (lived.now(2) == 0) {
                break;
            }
            lived.minutes(1);
        }
        if (lived.now(2) == 0) {
            for (int s = 0; s < sheets; s++) {
                due("when " + s, asked.when(s), when[s]);
            }
        }
    }

    private boolean canStart(int s, int wait) {
        BathMinutes with = anew();
        BathMinutes without = anew();
        live(with, wait);
        if (with.start(s) != 0) {
            return false;
        }
        live(with, 200);
        live(without, wait + 200);
        return with.sheet(s, 1) == 2 && (with.now(4) & ~without.now(4)) == 0;
    }

    private void clear() {
        BathMinutes asked = anew();
        for (int s = 0; s < sheets; s++) {
            int soonest = NONE;
            for (int wait = 0; wait <= 60 && soonest == NONE && asked.sheet(s, 1) == 0; wait++) {
                soonest = canStart(s, wait) ? wait : NONE;
            }
            due("clear " + s, asked.clear(s), soonest);
        }
    }

    /** How one row goes: its end, then a START for each. CLEAR is lived above, so here it is asked of who lives the row. */
    private int[] go(int... row) {
        BathMinutes x = anew();
        int[] all = new int[row.length + 1];
        int gone = 0;
        for (int k = 0; k < row.length; k++) {
            int wait = x.clear(row[k]);
            if (wait == NONE) {
                return null;
            }
            live(x, wait);
            x.start(row[k]);
            gone += wait;
            all[k + 1] = gone;
        }
        for (int more = 0; more <= 200; more++) {
            int bits = x.now(3);
            boolean done = true;
            for (int s : row) {
                done &= (bits >> s & 1) == 1;
            }
            if (done) {
                all[0] = gone + more;
                return all;
            }
            if (x.now(2) == 0) {
                return null;
            }
            x.minutes(1);
        }
        return null;
    }

    private void order() {
        BathMinutes asked = anew();
        List<Integer> waiting = new ArrayList<>();
        for (int s = 0; s < sheets; s++) {
            if (asked.sheet(s, 1) == 0) {
                waiting.add(s);
            }
        }
        while (waiting.size() > 3) {
            waiting.remove(dice.nextInt(waiting.size()));
        }
        int n = waiting.size();
        if (n == 0) {
            return;
        }
        // of three: by their places, the least first
        int[][] rows = n == 1 ? new int[][] {{0}} : n == 2 ? new int[][] {{0, 1}, {1, 0}}
            : new int[][] {{0, 1, 2}, {0, 2, 1}, {1, 0, 2}, {1, 2, 0}, {2, 0, 1}, {2, 1, 0}};
        int[] best = null;
        int[] bestRow = null;
        for (int[] places : rows) {
            int[] row = new int[n];
            for (int k = 0; k < n; k++) {
                row[k] = waiting.get(places[k]);
            }
            int[] end = go(row);
            if (end != null && (best == null || end[0] < best[0])) {
                best = end;
                bestRow = row;
            }
        }
        int[] bytes = new int[n];
        for (int k = 0; k < n; k++) {
            bytes[k] = waiting.get(n - 1 - k);
        }
        Check.bytes(asked, bytes);
        due("order of " + waiting, asked.order(), best == null ? NONE : best[0]);
        for (int k = 0; k < 4; k++) {
            boolean there = best != null && k < n;
            due("orderAt " + k, asked.orderAt(k), there ? bestRow[k] : NONE);
            due("orderWhen " + k, asked.orderWhen(k), there ? best[k + 1] : NONE);
        }
    }

    private void odds() {
        BathMinutes asked = anew();
        int n = 1 + dice.nextInt(30);
        int seed = dice.nextInt();
        int[] done = new int[sheets];
        for (int i = 0; i < n; i++) {
            BathMinutes lived = anew();
            lived.drawn(40, seed + i);
            for (int s = 0; s < sheets; s++) {
                done[s] += lived.now(3) >> s & 1;
            }
        }
        for (int s = 0; s < sheets; s++) {
            due("odds " + s, asked.odds(s, n, seed), done[s]);
        }
    }

    private void book() {
        StringBuilder text = new StringBuilder();
        BathMinutes lived = anew();
        int lines = dice.nextInt(13);
        int ahead = 0;
        int why = 0;
        for (int i = 0; i < lines; i++) {
            int kind = dice.nextInt(8);
            int of = kind < 5 ? dice.nextInt(sheets) : kind == 5 ? dice.nextInt(baths) : 1 + dice.nextInt(20);
            boolean go = why == 0;
            int got;
            if (kind < 3) {
                text.append("start ").append(SHEETS[of]);
                got = go ? lived.start(of) : 0;
            } else if (kind == 3) {
                text.append("take ").append(SHEETS[of]);
                got = go ? lived.take(of) * 11 : 0;
            } else if (kind == 4) {
                text.append("again ").append(SHEETS[of]);
                got = go ? lived.again(of) * 21 : 0;
            } else if (kind == 5) {
                text.append("renew ").append(BATHS[of]);
                got = go ? lived.renew(of) : 0;
                got += got == 0 ? 0 : 30;
            } else {
                text.append("minute ").append(of);
                got = go && lived.minutes(of) != of ? 41 : 0;
            }
            text.append(';');
            why = go ? got : why;
            ahead += why == 0 ? 1 : 0;
        }
        String was = Look.brief(anew());
        for (int lives = 0; lives < 2; lives++) {
            BathMinutes x = anew();
            due("book " + lives + " " + text, Check.book(x, text.toString(), lives), why == 0 ? NONE : ahead);
            due("told 0", x.told(0), why);
            due("told 1", x.told(1), ahead);
            due("told 2", x.told(2), lived.now(0));
            due("told 3", x.told(3), lived.now(3));
            c.due(run + "all behind book " + lives, Look.brief(x), lives == 0 ? was : Look.brief(lived));
            if (lives == 1 && ahead > 0) {
                due("undo", x.undo() >= 0 ? 1 : 0, 1);
                c.due(run + "all behind undo", Look.brief(x), was);
            }
        }
    }

    private static boolean inLeastTerms(int above, int below) {
        for (int d = 2; d <= below; d++) {
            if (above % d == 0 && below % d == 0) {
                return false;
            }
        }
        return below > 0;
    }

    private void ofBaths() {
        int jam = 0;
        int most = NONE;
        for (int b = 0; b < baths; b++) {
            BathMinutes x = anew();
            int coming = 0;
            for (int s = 0; s < sheets; s++) {
                int how = x.sheet(s, 1);
                int asked = x.asks(x.sheet(s, 0), b);
                coming += asked > 0 && (how == 0 || how == 1 && x.sheet(s, 2) < b) ? 1 : 0;
            }
            int renewed = 0;
            int had = x.bath(b, 2);
            for (int i = 0; i < coming; i++) {
                if (had == x.bath(b, 1)) {
                    had = 0;
                    renewed++;
                }
                had++;
            }
            due("NEED of " + b, x.bath(b, 5), renewed);
            due("OPEN " + b, x.bath(b, 4), Integer.bitCount(x.bath(b, 3)) < x.bath(b, 0) && x.bath(b, 2) < x.bath(b, 1) ? 1 : 0);
            due("OPEN BATHS " + b, x.now(6) >> b & 1, x.bath(b, 4));
            due("wear " + b, (long) x.wear(b, 0) * x.bath(b, 1), (long) x.wear(b, 1) * x.bath(b, 2));
            due("wear in least terms", inLeastTerms(x.wear(b, 0), x.wear(b, 1)) ? 1 : 0, 1);
            int minutes = minutesForEach(x, b);
            if (minutes > most) {
                most = minutes;
                jam = b;
            }
        }
        due("jam", anew().jam(), jam);
    }

    /** In twelfths, as a BATH HOLDS 1 to 4. */
    private int minutesForEach(BathMinutes x, int b) {
        int all = 0;
        for (int s = 0; s < sheets; s++) {
            all += (x.now(1) >> s & 1) * x.asks(x.sheet(s, 0), b);
        }
        return all * 12 / x.bath(b, 0);
    }

    private void ofSheets() {
        BathMinutes x = anew();
        int over = 0;
        int often = NONE;
        String[] how = {" waits", "", " done", " spoilt"};
        for (int s = 0; s < sheets; s++) {
            over += x.sheet(s, 5);
            if (x.sheet(s, 6) > (often == NONE ? 0 : x.sheet(often, 6))) {
                often = s;
            }
            int b = x.sheet(s, 2);
            int next = b + 1;
            while (b != NONE && next < baths && x.asks(x.sheet(s, 0), next) == 0) {
                next++;
            }
            boolean held = b != NONE && x.sheet(s, 3) == 0;
            due("held " + s, x.now(5) >> s & 1, held ? 1 : 0);
            due("block " + s, x.block(s), held ? x.bath(next, 3) : NONE);
            due("one of four", (x.now(1) >> s & 1) + (x.now(2) >> s & 1) + (x.now(3) >> s & 1) + (x.now(4) >> s & 1), 1);
            due("as sheet tells", x.now(1 + x.sheet(s, 1)) >> s & 1, 1);
            c.due(run + "tag " + s, Check.tag(x, s),
                SHEETS[s] + (b == NONE ? how[x.sheet(s, 1)] : " in " + BATHS[b] + " " + x.sheet(s, 3)));
        }
        due("mean", (long) x.mean(0) * sheets, (long) x.mean(1) * over);
        due("mean in least terms", inLeastTerms(x.mean(0), x.mean(1)) ? 1 : 0, 1);
        due("often", x.often(), often);
    }

    /** In a ROOM as GAP tells: the second one STARTED so many MINUTES behind the first one, neither is ever OVER. */
    private static boolean goesOn(int[] first, int[] second, int gap) {
        BathMinutes y = Check.with(roomForTwo(first, second));
        y.start(0);
        live(y, gap);
        if (y.start(1) != 0) {
            return false;
        }
        for (int i = 0; i < 200 && y.now(2) != 0; i++) {
            y.minutes(1);
        }
        return y.sheet(0, 5) + y.sheet(1, 5) == 0 && y.now(3) == 3;
    }

    private static String roomForTwo(int[] first, int[] second) {
        StringBuilder t = new StringBuilder("spare 9;");
        for (int b = 0; b < first.length; b++) {
            t.append("bath ").append(BATHS[b]).append(" 1 99;");
        }
        for (int k = 0; k < 2; k++) {
            t.append("paper ").append(PAPERS[k]);
            for (int minutes : k == 0 ? first : second) {
                t.append(' ').append(minutes);
            }
            t.append(';');
        }
        return t.append("sheet a ").append(PAPERS[0]).append(";sheet b ").append(PAPERS[1]).append(';').toString();
    }

    private void ofPapers() {
        BathMinutes x = Check.with(room);
        int[][] asks = new int[papers][baths];
        for (int p = 0; p < papers; p++) {
            for (int b = 0; b < baths; b++) {
                asks[p][b] = x.asks(p, b);
            }
        }
        int[][] gaps = new int[papers][papers];
        for (int p = 0; p < papers; p++) {
            int near = NONE;
            int fewest = 999;
            for (int q = 0; q < papers; q++) {
                int apart = 0;
                for (int b = 0; b < baths; b++) {
                    apart += Math.abs(asks[p][b] - asks[q][b]);
                }
                if (p != q && apart < fewest) {
                    fewest = apart;
                    near = q;
                }
                while (!goesOn(asks[p], asks[q], gaps[p][q])) {
                    gaps[p][q]++;
                }
                due("gap " + p + " " + q, x.gap(p, q), gaps[p][q]);
            }
            due("near " + p, x.near(p), near);
            due("through " + p, x.through(p), java.util.Arrays.stream(asks[p]).sum());
        }
        chain(x, gaps);
    }

    private int[] bestChain;
    private int least;

    private void chain(BathMinutes x, int[][] gaps) {
        least = Integer.MAX_VALUE;
        longer(gaps, new int[papers], 0, 0, 0);
        due("chain", x.chain(), least);
        for (int k = 0; k < 6; k++) {
            due("chainAt " + k, x.chainAt(k), k < papers ? bestChain[k] : NONE);
        }
    }

    private void longer(int[][] gaps, int[] row, int n, int used, int all) {
        if (n == papers && all < least) {
            least = all;
            bestChain = row.clone();
        }
        for (int p = 0; p < papers; p++) {
            if ((used >> p & 1) == 0) {
                row[n] = p;
                longer(gaps, row, n + 1, used | 1 << p, all + (n == 0 ? 0 : gaps[row[n - 1]][p]));
            }
        }
    }

    private void whoAndAsk() {
        BathMinutes x = anew();
        int like = dice.nextInt(sheets);
        int pairs = 1 + dice.nextInt(2);
        int[] bytes = new int[2 * pairs];
        int who = (1 << sheets) - 1;
        for (int i = 0; i < bytes.length; i += 2) {
            bytes[i] = dice.nextInt(baths);
            bytes[i + 1] = x.asks(x.sheet(like, 0), bytes[i]);
            for (int s = 0; s < sheets; s++) {
                if (x.asks(x.sheet(s, 0), bytes[i]) != bytes[i + 1]) {
                    who &= ~(1 << s);
                }
            }
        }
        Check.bytes(x, bytes);
        due("who", x.who(), who);
        int ask = NONE;
        int fewest = 99;
        for (int b = 0; b < baths; b++) {
            int[] left = new int[31];
            int most = 0;
            for (int s = 0; s < sheets; s++) {
                int asked = x.asks(x.sheet(s, 0), b);
                left[asked] += who >> s & 1;
                most = Math.max(most, left[asked]);
            }
            if (most < fewest) {
                fewest = most;
                ask = b;
            }
        }
        due("ask", x.ask(), ask);
    }

    private static int bits(BathMinutes x, String sentence) {
        Check.sentence(x, sentence);
        int bits = 0;
        for (int k = x.said(NONE) - 1; k >= 0; k--) {
            bits |= 1 << x.said(k);
        }
        return bits;
    }

    private void said() {
        BathMinutes x = anew();
        String[] plain = {"waiting", "done", "spoilt", "held"};
        int[] what = {1, 3, 4, 5};
        int all = (1 << sheets) - 1;
        for (int i = 0; i < 4; i++) {
            due(plain[i], bits(x, plain[i]), x.now(what[i]));
            due("not " + plain[i], bits(x, "not " + plain[i]), all & ~x.now(what[i]));
            int j = dice.nextInt(4);
            int b = dice.nextInt(baths);
            due("or", bits(x, plain[i] + " or " + plain[j] + " and in " + BATHS[b]), x.now(what[i]) | x.now(what[j]) & x.bath(b, 3));
            due("brackets", bits(x, "(" + plain[i] + " or in " + BATHS[b] + ") and " + plain[j]), (x.now(what[i]) | x.bath(b, 3)) & x.now(what[j]));
        }
        counted();
    }

    private void counted() {
        BathMinutes x = anew();
        String[] counted = {"left", "over", "tries", "number"};
        int[] asked = {3, 5, 6};
        for (int i = 0; i < 4; i++) {
            int n = dice.nextInt(5);
            int[] due = new int[3];
            for (int s = 0; s < sheets; s++) {
                due[1 + Integer.compare(i == 3 ? s : x.sheet(s, asked[i]), n)] |= 1 << s;
            }
            for (int k = 0; k < 3; k++) {
                due(counted[i] + " " + "<=>".charAt(k) + " " + n, bits(x, counted[i] + "<=>".charAt(k) + n), due[k]);
            }
        }
        int p = dice.nextInt(papers);
        int of = 0;
        for (int s = 0; s < sheets; s++) {
            of |= x.sheet(s, 0) == p ? 1 << s : 0;
        }
        due("of " + p, bits(x, "of " + PAPERS[p]), of);
    }
}
