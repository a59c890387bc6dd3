/** The edges of what is asked of what would go on, and of PAPERS by their minutes: promises 16 to 30 and 37. */
public final class PlansEdgesTest {
    private static final int NONE = BathMinutes.NONE;
    private static final int LEAST = Integer.MIN_VALUE;
    private static final int MOST = Integer.MAX_VALUE;
    private static final String SIX = "bath a 1 9;bath b 1 9;bath d 1 9;bath e 1 9;bath f 1 9;bath g 1 9;";

    private static final Check c = new Check("PlansEdgesTest");

    public static void main(String[] args) {
        when();
        whenAllAreWeak();
        whenHeld();
        clear();
        clearIn60();
        clearIn200();
        clearSpoilsNone();
        clearOfOneThatIsSpoiltLater();
        orderBytes();
        orderIn200();
        orderRows();
        orderOfEachRow();
        orderStarts();
        orderStays();
        orderAgain();
        jam();
        whoBytes();
        ask();
        near();
        through();
        gap();
        gapByLiving();
        chain();
        chainOfEachRow();
        load();
        block();
        odds();
        oddsAtTheEnd();
        c.end();
    }

    private static int order(BathMinutes x, int... bytes) {
        Check.bytes(x, bytes);
        return x.order();
    }

    private static int who(BathMinutes x, int... bytes) {
        Check.bytes(x, bytes);
        return x.who();
    }

    private static void when() {
        BathMinutes x = Check.with(SIX + "paper p 1 0 0 0 0 1; paper q 0 0 0 0 0 0; sheet s p; sheet t q; sheet u p;");
        c.due("WAITING", x.when(0), NONE);
        x.start(1);
        c.due("DONE by its START", x.when(1), 0);
        x.start(0);
        for (int left = 2; left >= 0; left--) {
            c.due("when", x.when(0), left);
            x.minutes(1);
        }
        c.due("DONE for long", x.when(0), 0);
        x.start(2);
        x.take(2);
        c.due("SPOILT", x.when(2), NONE);
        x.again(2);
        c.due("WAITING again", x.when(2), NONE);
        for (int s : new int[] {LEAST, -1, 3, 8, MOST}) {
            c.due("no such one", x.when(s), NONE);
        }
    }

    /** Six BATHS of 39 minutes each: 234, the most without being held. */
    private static void whenAllAreWeak() {
        BathMinutes x = Check.with(SIX.replace("9;", "2;") + "paper p 30 30 30 30 30 30; paper q 1 1 1 1 1 1; sheet s p; sheet t q; weak 9;");
        x.start(1);
        x.minutes(6);
        x.start(0);
        c.due("when", x.when(0), 234);
        c.due("it is there yet", x.load(5, 200), 1);
        for (int i = 0; i < 3; i++) {
            x.minutes(60);
        }
        x.minutes(53);
        c.due("when", x.when(0), 1);
        c.due("DONE", x.now(3), 2);
        x.minutes(1);
        c.due("DONE", x.now(3), 3);
    }

    /** T waits for B till S is out of it: WHEN tells that, too; if it is SPOILT by that, it is none. */
    private static void whenHeld() {
        for (int spare = 0; spare <= 9; spare++) {
            for (int late = 0; late <= 10; late++) {
                BathMinutes x = Check.with("bath a 1 9; bath b 1 9; paper p 2 3; paper q 0 " + (2 + late)
                    + "; sheet s q; sheet t p; spare " + spare + ";");
                x.start(0);
                x.start(1);
                c.due("when of S", x.when(0), 2 + late);
                c.due("when of T", x.when(1), late <= spare ? 2 + late + 3 : NONE);
                c.due("load of B", x.load(1, 2 + late), late <= spare ? 2 : 0);
            }
        }
    }

    private static void clear() {
        BathMinutes x = Check.with("bath a 1 9; paper p 5; paper q 0; sheet s p; sheet t p; sheet u q;");
        c.due("now", x.clear(0), 0);
        c.due("now, without any BATH", x.clear(2), 0);
        x.start(0);
        c.due("not WAITING", x.clear(0), NONE);
        for (int more = 5; more >= 0; more--) {
            c.due("when A is OPEN", x.clear(1), more);
            x.minutes(1);
        }
        c.due("DONE", x.clear(0), NONE);
        x.start(1);
        x.take(1);
        c.due("SPOILT", x.clear(1), NONE);
        for (int s : new int[] {LEAST, -1, 3, 8, MOST}) {
            c.due("no such one", x.clear(s), NONE);
        }
        // never: used up; a BATH that comes later is used up
        x = Check.with("bath a 1 1; paper p 1; sheet s p; sheet t p;");
        x.start(0);
        c.due("used up", x.clear(1), NONE);
        x.minutes(1);
        c.due("used up", x.clear(1), NONE);
        x.renew(0);
        c.due("fresh", x.clear(1), 0);
        x = Check.with("bath a 1 9; bath b 1 1; paper p 1 1; sheet s p; sheet t p; spare 9;");
        x.start(0);
        c.due("it would be SPOILT", x.clear(1), NONE);
    }

    private static BathMinutes busyTill(String weak) {
        // B had one; T is in it for 30 then; S comes behind that, and is the third: weak for it, as B LASTS 4
        BathMinutes x = Check.with("bath a 1 9; bath b 1 4; paper p 30 30; paper r 0 30; "
            + "sheet s p; sheet t r; sheet u r; sheet v r;" + weak);
        x.start(3);
        x.take(3);
        x.start(0);
        x.start(1);
        return x;
    }

    private static void clearIn60() {
        BathMinutes x = busyTill("");
        c.due("S is in B", x.load(1, 59), 1);
        c.due("60 is told", x.clear(2), 60);
        x.minutes(1);
        c.due("59", x.clear(2), 59);
        x = busyTill("weak 1;");
        c.due("S is in B", x.load(1, 60), 1);
        c.due("B is OPEN behind 61", x.load(1, 61), 0);
        c.due("61 is not", x.clear(2), NONE);
        c.due("in no row", order(x, 2), NONE);
        x.minutes(1);
        c.due("60 is", x.clear(2), 60);
        c.due("60 and 31, as it is weak", order(x, 2), 91);
        x = busyTill("weak 9;");
        c.due("69 is not", x.clear(2), NONE);
        x.minutes(8);
        c.due("61 is not", x.clear(2), NONE);
        x.minutes(1);
        c.due("60 is", x.clear(2), 60);
    }

    /** S has 180 minutes, and 'weak' for each BATH that LASTS two alone, as T was in each of them. */
    private static BathMinutes ofSix(int weakOnes, int weak) {
        StringBuilder t = new StringBuilder();
        for (int b = 0; b < 6; b++) {
            t.append("bath b").append((char) ('a' + b)).append(b < weakOnes ? " 1 2;" : " 1 9;");
        }
        BathMinutes x = Check.with(t + "paper p 30 30 30 30 30 30; paper q 1 1 1 1 1 1; sheet s p; sheet t q; weak " + weak + ";");
        x.start(1);
        x.minutes(6);
        return x;
    }

    private static void clearIn200() {
        for (int weakOnes = 0; weakOnes <= 6; weakOnes++) {
            for (int weak = 0; weak <= 9; weak++) {
                BathMinutes x = ofSix(weakOnes, weak);
                int due = 180 + weakOnes * weak;
                c.due("DONE behind " + due, x.clear(0), due <= 200 ? 0 : NONE);
                c.due("order of " + due, order(x, 0), due <= 200 ? due : NONE);
                c.due("it can be STARTED", x.start(0), 0);
                c.due("when", x.when(0), due);
                c.due("load in 200", x.load(5, 200), due > 200 ? 1 : 0);
            }
        }
        c.due("200", order(ofSix(4, 5), 0), 200);
        c.due("201", order(ofSix(3, 7), 0), NONE);
    }

    /** S would be SPOILT behind 195 and 'spare' MINUTES, if V has used up G: 200 are looked at. */
    private static void clearSpoilsNone() {
        for (int spare = 0; spare <= 9; spare++) {
            BathMinutes x = Check.with("bath a 1 2;bath b 1 2;bath d 1 2;bath e 1 2;bath f 1 2;bath g 1 1;"
                + "paper p 30 30 30 30 30 5; paper q 1 1 1 1 1 0; paper r 0 0 0 0 0 5;"
                + "sheet s p; sheet t q; sheet v r; weak 9; spare " + spare + ";");
            x.start(1);
            x.minutes(5);
            x.start(0);
            c.due("when of S without V", x.when(0), 200);
            c.due("clear of V, 'spare' " + spare, x.clear(2), spare >= 6 ? 0 : NONE);
            c.due("order of V", order(x, 2), spare >= 6 ? 5 : NONE);
            x.minutes(1);
            c.due("a MINUTE later", x.clear(2), spare >= 7 ? 0 : NONE);
            // SPOILT in any case: no matter
            x.start(2);
            c.due("S will be SPOILT", x.when(0), NONE);
        }
        // G is used up already: S is SPOILT without V, too
        BathMinutes x = Check.with("bath a 2 9; bath g 2 1; paper p 3 1; paper q 1 0; paper r 0 1; sheet s p; sheet v q; sheet w r;");
        x.start(2);
        x.start(0);
        c.due("S is SPOILT in any case", x.when(0), NONE);
        c.due("no matter", x.clear(1), 0);
    }

    /** S will be SPOILT behind 195 and 'spare' MINUTES in any case, by V behind 156 and 'spare': that is no matter only then. */
    private static void clearOfOneThatIsSpoiltLater() {
        for (int spare = 0; spare <= 9; spare++) {
            BathMinutes x = Check.with("bath a 1 2;bath b 1 2;bath d 1 2;bath e 1 2;bath f 1 2;bath g 1 1;"
                + "paper p 30 30 30 30 30 5; paper q 1 1 1 1 1 0; paper r 0 0 0 0 0 1; paper w 0 0 0 0 5 0;"
                + "sheet s p; sheet t q; sheet u r; sheet v w; weak 9; spare " + spare + ";");
            x.start(1);
            x.start(2);
            x.minutes(5);
            x.start(0);
            c.due("S will be SPOILT", x.when(0), NONE);
            c.due("clear of V, 'spare' " + spare, x.clear(3), Math.max(0, spare - 5));
            c.due("order of V", order(x, 3), Math.max(0, spare - 5) + 14);
            x.minutes(2);
            c.due("two MINUTES later", x.clear(3), Math.max(0, spare - 7));
        }
    }

    private static void orderBytes() {
        BathMinutes x = Check.with("bath a 4 99; paper p 5; sheet s p; sheet t p; sheet u p; sheet v p; sheet w p;");
        c.due("ahead of any", x.orderAt(0), NONE);
        c.due("ahead of any", x.orderWhen(0), NONE);
        c.due("none", order(x), NONE);
        c.due("none is told", x.orderAt(0), NONE);
        c.due("one", order(x, 4), 5);
        c.due("two", order(x, 4, 0), 5);
        c.due("three", order(x, 4, 0, 2), 5);
        c.due("four", order(x, 4, 0, 2, 1), NONE);
        c.due("tape", x.count(6), 0);
        c.due("alike", order(x, 3, 3), NONE);
        c.due("alike, the first and the last", order(x, 3, 2, 3), NONE);
        c.due("alike, the last ones", order(x, 2, 3, 3), NONE);
        c.due("no such one", order(x, 5), NONE);
        c.due("no such one", order(x, 0, 5), NONE);
        c.due("no such one", order(x, 0, 1, 128), NONE);
        c.due("no such one", order(x, 255, 0), NONE);
        x.start(1);
        c.due("not WAITING", order(x, 0, 1), NONE);
        c.due("without it", order(x, 0, 2), 5);
        x.take(1);
        c.due("SPOILT", order(x, 1), NONE);
        x.again(1);
        c.due("WAITING again", order(x, 1), 5);
        x.feed(0, 0, 0, 0, 0);
        c.due("twenty", x.order(), NONE);
        c.due("tape", x.count(6), 0);
    }

    /** V keeps S for a MINUTE, and B is weak for S behind it: S has a + 187 minutes alone, a + 196 MINUTES behind V. */
    private static BathMinutes keptByOne(int a) {
        BathMinutes x = Check.with("bath a 1 99;bath b 1 4;bath d 1 2;bath e 1 2;bath f 1 2;bath g 1 2;"
            + "paper p " + a + " 30 30 30 30 30; paper q 0 " + (a + 1) + " 0 0 0 0; paper r 1 1 1 1 1 1;"
            + "sheet s p; sheet v q; sheet t r; weak 9; spare 1;");
        x.start(2);
        x.minutes(6);
        return x;
    }

    private static void orderIn200() {
        for (int a = 1; a <= 3; a++) {
            BathMinutes x = keptByOne(a);
            c.due("S alone", order(x, 0), a + 30 + 156);
            c.due("both", order(x, 0, 1), a + 196);
            row(x, new int[] {0, 1}, new int[] {0, 0});
        }
        BathMinutes x = keptByOne(4);
        c.due("DONE 200 MINUTES behind", order(x, 1, 0), 200);
        row(x, new int[] {0, 1}, new int[] {0, 0});
        // S, V: S would be DONE 201 MINUTES behind; V, S: S is STARTED a MINUTE later
        x = keptByOne(5);
        c.due("V first", order(x, 0, 1), 201);
        row(x, new int[] {1, 0}, new int[] {0, 1});
        c.due("S alone", order(x, 0), 191);
    }

    private static void row(BathMinutes x, int[] at, int[] when) {
        for (int k = 0; k < at.length; k++) {
            c.due("orderAt " + k, x.orderAt(k), at[k]);
            c.due("orderWhen " + k, x.orderWhen(k), when[k]);
        }
        for (int k : new int[] {LEAST, -2, -1, at.length, at.length + 1, MOST}) {
            c.due("orderAt " + k, x.orderAt(k), NONE);
            c.due("orderWhen " + k, x.orderWhen(k), NONE);
        }
    }

    private static void orderRows() {
        // of like ones the first, SHEET by SHEET the least, however the bytes stand
        BathMinutes x = Check.with("bath a 1 99; paper p 5; sheet s p; sheet t p; sheet u p; sheet v p;");
        int[][] tapes = {{1, 2, 3}, {1, 3, 2}, {2, 1, 3}, {2, 3, 1}, {3, 1, 2}, {3, 2, 1}};
        for (int[] tape : tapes) {
            c.due("order", order(x, tape), 15);
            row(x, new int[] {1, 2, 3}, new int[] {0, 5, 10});
        }
        c.due("order", order(x, 3, 0), 10);
        row(x, new int[] {0, 3}, new int[] {0, 5});
        // the last row of six is the best one: by JOHNSON's rule W, V, U
        x = Check.with("bath a 1 99; bath b 1 99; paper p 5 1; paper q 4 3; paper r 1 4; sheet u p; sheet v q; sheet w r;");
        c.due("order", order(x, 0, 1, 2), 11);
        row(x, new int[] {2, 1, 0}, new int[] {0, 1, 5});
        // none WAITS for another one: all in one MINUTE
        x = Check.with("bath a 3 99; paper p 5; sheet u p; sheet v p; sheet w p;");
        c.due("order", order(x, 2, 1, 0), 5);
        row(x, new int[] {0, 1, 2}, new int[] {0, 0, 0});
        // in no row: one of them has no CLEAR at all
        x = Check.with("bath a 1 2; paper p 5; sheet u p; sheet v p; sheet w p;");
        c.due("in no row", order(x, 2, 1, 0), NONE);
        c.due("what was told ahead stays: nothing", x.orderAt(0), NONE);
        c.due("two of them", order(x, 2, 1), 10);
        c.due("in no row", order(x, 2, 1, 0), NONE);
        row(x, new int[] {1, 2}, new int[] {0, 5});
        // only one row: B LASTS for one weak one, behind which no other one has a CLEAR
        x = Check.with("bath a 1 9; bath b 1 9; paper p 2 5; paper q 0 5; sheet s p; sheet t q;");
        c.due("T is in B till 5, S comes there then", order(x, 0, 1), 10);
        row(x, new int[] {1, 0}, new int[] {0, 3});
    }

    /** Each row of three is the only best one once: by JOHNSON's rule (1, 4), (4, 3), (5, 1). */
    private static void orderOfEachRow() {
        int[][] rows = {{0, 1, 2}, {0, 2, 1}, {1, 0, 2}, {1, 2, 0}, {2, 0, 1}, {2, 1, 0}};
        String[] asked = {" 1 4", " 4 3", " 5 1"};
        for (int[] best : rows) {
            String[] papers = new String[3];
            for (int k = 0; k < 3; k++) {
                papers[best[k]] = asked[k];
            }
            BathMinutes x = Check.with("bath a 1 99; bath b 1 99; paper p" + papers[0] + "; paper q" + papers[1] + "; paper r"
                + papers[2] + "; sheet s p; sheet t q; sheet u r;");
            c.due("order", order(x, 2, 1, 0), 11);
            row(x, best, new int[] {0, 1, 5});
        }
    }

    /** The second one's CLEAR counts from the first one's START on: 60 each. */
    private static void orderStarts() {
        BathMinutes x = Check.with("bath a 1 9; bath b 1 9; paper p 30 30; paper r 0 30; "
            + "sheet s p; sheet t r; sheet u r; sheet v r; sheet w r;");
        x.start(0);
        x.start(1);
        c.due("U behind 60, V behind 30 more", order(x, 3, 2), 120);
        row(x, new int[] {2, 3}, new int[] {60, 90});
        c.due("and W", order(x, 4, 3, 2), 150);
        row(x, new int[] {2, 3, 4}, new int[] {60, 90, 120});
        x.minutes(20);
        c.due("from now on", order(x, 4, 3, 2), 130);
        row(x, new int[] {2, 3, 4}, new int[] {40, 70, 100});
        // DONE ahead of the latest START: the last of them is that one
        x = Check.with("bath a 1 9; paper p 7; paper q 0; sheet s p; sheet t q; sheet u p;");
        x.start(0);
        c.due("T at once, U behind 7", order(x, 1, 2), 14);
        row(x, new int[] {1, 2}, new int[] {0, 7});
        c.due("T alone", order(x, 1), 0);
        row(x, new int[] {1}, new int[] {0});
    }

    private static void orderStays() {
        BathMinutes x = Check.with("bath a 1 9; paper p 7; sheet s p; sheet t p;");
        c.due("order", order(x, 0, 1), 14);
        String seen = Look.brief(x);
        row(x, new int[] {0, 1}, new int[] {0, 7});
        c.due("all stays as it is", Look.brief(x), seen);
        c.due("nothing to undo", x.undo(), NONE);
        c.due("not as told", order(x, 2), NONE);
        row(x, new int[] {0, 1}, new int[] {0, 7});
        x.start(1);
        row(x, new int[] {0, 1}, new int[] {0, 7});
        c.due("a shorter one", order(x, 0), 14);
        row(x, new int[] {0}, new int[] {7});
        x.undo();
        row(x, new int[] {0}, new int[] {7});
        x.image(0);
        order(x, 1);
        x.restore(0);
        row(x, new int[] {1}, new int[] {0});
        Check.room(x, "");
        row(x, new int[] {1}, new int[] {0});
    }

    /** What an order() left behind is nothing to the next one: each row behind each other one. */
    private static void orderAgain() {
        int[][] tapes = {{0, 1, 2}, {2, 1, 0}, {1, 2}, {0}, {1, 0, 2}, {0, 1}, {2}, {1, 1}, {0, 2, 0}, {7}, {0, 2}, {1}, {}};
        BathMinutes x = Check.with("bath a 1 9; paper p 7; paper q 3; sheet s p; sheet t q; sheet u p;");
        for (int[] ahead : tapes) {
            for (int[] behind : tapes) {
                BathMinutes y = Check.with("bath a 1 9; paper p 7; paper q 3; sheet s p; sheet t q; sheet u p;");
                int due = order(y, behind);
                BathMinutes z = Check.with("bath a 1 9; paper p 7; paper q 3; sheet s p; sheet t q; sheet u p;");
                order(z, ahead);
                c.due("order", order(z, behind), due);
                for (int k = 0; k < 3 && due != NONE; k++) {
                    c.due("orderAt", z.orderAt(k), y.orderAt(k));
                    c.due("orderWhen", z.orderWhen(k), y.orderWhen(k));
                }
            }
        }
        for (int i = 0; i < 3; i++) {
            c.due("the same again", order(x, 0, 1, 2), 17);
            row(x, new int[] {0, 1, 2}, new int[] {0, 7, 10});
            c.due("backwards", order(x, 2, 1, 0), 17);
            row(x, new int[] {0, 1, 2}, new int[] {0, 7, 10});
            c.due("of two", order(x, 1, 2), 10);
            row(x, new int[] {1, 2}, new int[] {0, 3});
        }
    }

    private static void jam() {
        c.due("no BATHS", new BathMinutes().jam(), NONE);
        c.due("no BATHS", Check.with("paper p; sheet s p;").jam(), NONE);
        c.due("one BATH, no PAPERS", Check.with("bath a 1 1;").jam(), 0);
        c.due("none asks", Check.with("bath a 1 1; bath b 1 1; paper p 0 0; sheet s p;").jam(), 0);
        c.due("the last one", Check.with(SIX + "paper p 0 0 0 0 0 1; sheet s p;").jam(), 5);
        c.due("of like ones the first", Check.with(SIX + "paper p 0 0 3 3 0 3; sheet s p;").jam(), 2);
        // 10 by 4, 5 by 2: alike; 8 by 3 are more
        c.due("like fractions", Check.with("bath a 4 9; bath b 2 9; paper p 10 5; sheet s p;").jam(), 0);
        c.due("like fractions", Check.with("bath a 2 9; bath b 4 9; paper p 5 10; sheet s p;").jam(), 0);
        c.due("8 by 3", Check.with("bath a 4 9; bath b 2 9; bath d 3 9; paper p 10 5 8; sheet s p;").jam(), 2);
        c.due("11 by 4 are more than 8 by 3", Check.with("bath a 3 9; bath b 4 9; paper p 8 11; sheet s p;").jam(), 1);
        // those that are WAITING alone; 'weak' no matter
        BathMinutes x = Check.with("bath a 1 9; bath b 1 2; paper p 3 2; paper q 0 4; sheet s p; sheet t q; sheet u p; weak 9;");
        c.due("6 and 8", x.jam(), 1);
        x.start(1);
        c.due("6 and 4", x.jam(), 0);
        x.take(1);
        c.due("SPOILT", x.jam(), 0);
        x.again(1);
        c.due("WAITING again: no minutes more by 'weak'", x.jam(), 1);
        x.start(1);
        x.start(0);
        c.due("3 and 2", x.jam(), 0);
        x.take(0);
        x.start(2);
        c.due("there are none", x.jam(), 0);
    }

    private static void whoBytes() {
        String room = SIX + "paper p 1 2 3 4 5 6; paper q 1 2 3 4 5 30; paper r 1 0 3 4 5 6; "
            + "sheet s p; sheet t q; sheet u r; sheet v p; sheet w p; sheet y p; sheet z q; sheet aa r;";
        BathMinutes x = Check.with(room);
        for (int length = 0; length <= 20; length++) {
            int[] bytes = new int[length];
            for (int i = 0; i < length; i++) {
                bytes[i] = i % 2 == 0 ? i / 2 % 6 : i / 2 % 6 + 1;
            }
            boolean asTold = length >= 2 && length <= 12 && length % 2 == 0;
            // of the first BATH all; of the second one all but those of R; of all six those of P
            int due = length == 2 ? 0b11111111 : length < 12 ? 0b01111011 : 0b00111001;
            c.due("who of " + length + " bytes", who(x, bytes), asTold ? due : NONE);
            c.due("tape", x.count(6), 0);
        }
        for (int b = 0; b < 256; b++) {
            x = b % 64 == 0 ? Check.with(room) : x;
            c.due("BATH " + b, who(x, b, 1), b == 0 ? 255 : b < 6 ? 0 : NONE);
        }
        for (int asked = 0; asked < 256; asked++) {
            int due = asked == 6 ? 0b10111101 : asked == 30 ? 0b01000010 : 0;
            x = asked % 64 == 0 ? Check.with(room) : x;
            c.due("minutes " + asked, who(x, 5, asked), due);
        }
        x = Check.with(room);
        c.due("0 minutes", who(x, 1, 0), 0b10000100);
        c.due("the second pair's BATH", who(x, 0, 1, 6, 1), NONE);
        c.due("no such BATH behind nobody", who(x, 0, 9, 6, 1), NONE);
        c.due("without SHEETS", who(Check.with("bath a 1 1;"), 0, 0), 0);
        c.due("without BATHS", who(new BathMinutes(), 0, 0), NONE);
        // also of those that are not WAITING
        x.start(0);
        x.take(0);
        x.start(1);
        c.due("however they are", who(x, 0, 1), 255);
    }

    private static void ask() {
        BathMinutes x = Check.with("bath a 1 9; bath b 1 9; bath d 1 9; paper p 1 2 3; paper q 1 2 4; paper r 1 3 4; paper t 2 3 5;"
            + "sheet s p; sheet u q; sheet v r; sheet w t;");
        c.due("ahead of any", x.ask(), NONE);
        c.due("nobody", who(x, 0, 9), 0);
        c.due("ahead of any above 0", x.ask(), NONE);
        c.due("not as told", who(x, 3, 0), NONE);
        c.due("ahead of any above 0", x.ask(), NONE);
        c.due("s, u, v", who(x, 0, 1), 7);
        // A: 3; B: s, u or v: 2; D: s or u, v: 2
        c.due("of like ones the first", x.ask(), 1);
        c.due("s, u", who(x, 1, 2), 3);
        c.due("D", x.ask(), 2);
        c.due("u, v", who(x, 2, 4), 6);
        c.due("B", x.ask(), 1);
        c.due("w alone", who(x, 0, 2), 8);
        c.due("one: the first BATH", x.ask(), 0);
        c.due("v, w", who(x, 1, 3), 12);
        c.due("A or D: the first", x.ask(), 0);
        who(x, 1, 2);
        c.due("D", x.ask(), 2);
        c.due("SHEET 0 alone", who(x, 2, 3), 1);
        c.due("above 0, too", x.ask(), 0);
        // of a set that is scattered
        BathMinutes y = Check.with("bath a 1 9; bath b 1 9; bath d 1 9; paper p 1 1 1; paper q 1 2 1; paper r 2 2 2; paper t 1 3 2;"
            + "sheet s r; sheet u p; sheet v r; sheet w q; sheet y r; sheet z t; sheet k r; sheet m p;");
        c.due("u, w, z, m", who(y, 0, 1), 0b10101010);
        // A: 4; B: u and m: 2; D: u, w, m: 3
        c.due("B", y.ask(), 1);
        c.due("u, w, m", who(y, 0, 1, 2, 1), 0b10001010);
        // A, D: 3; B: 2
        c.due("B", y.ask(), 1);
        c.due("s, v, w, y, k", who(y, 1, 2), 0b01011101);
        // A: 4 of 5; B: 5; D: 4
        c.due("A", y.ask(), 0);
        who(x, 2, 3, 1, 3);
        c.due("nobody leaves it", x.ask(), 0);
        who(x, 1, 2);
        who(x);
        c.due("one not as told leaves it", x.ask(), 2);
        x.start(0);
        x.minutes(3);
        x.undo();
        c.due("acts leave it", x.ask(), 2);
        x = Check.with("bath a 1 9; paper p 1; sheet s p; sheet t p;");
        who(x, 0, 1);
        c.due("one BATH", x.ask(), 0);
        // all of eight may be left in each case
        x = Check.with(SIX + "paper p 1 2 3 4 5 6; paper q 1 2 3 4 5 6;"
            + "sheet s p; sheet t q; sheet u p; sheet v q; sheet w p; sheet y q; sheet z p; sheet k q;");
        c.due("all", who(x, 5, 6), 255);
        c.due("eight by each BATH: the first", x.ask(), 0);
        // A: 3, or 5 by the last five SHEETS; B: 4; D: 8
        x = Check.with("bath a 1 9; bath b 1 9; bath d 1 9; paper p 1 1 1; paper q 2 1 1; paper r 2 2 1;"
            + "sheet s p; sheet t p; sheet u p; sheet v q; sheet w r; sheet y r; sheet z r; sheet k r;");
        c.due("all", who(x, 2, 1), 255);
        c.due("B", x.ask(), 1);
    }

    private static void near() {
        c.due("no other one", Check.with("bath a 1 1; paper p 1;").near(0), NONE);
        c.due("none at all", Check.with("bath a 1 1;").near(0), NONE);
        BathMinutes x = Check.with("bath a 1 1; bath b 1 1; paper p 0 0; paper q 30 30; paper r 0 30; paper t 30 0; paper u 0 1;");
        int[] due = {4, 2, 4, 0, 0};
        // p: u 1; q: r, t 30, u 59; r: u 29; t: p, q 30, u 31; u: p 1
        for (int p = 0; p < 5; p++) {
            c.due("near " + p, x.near(p), due[p]);
        }
        for (int p : new int[] {LEAST, -1, 5, MOST}) {
            c.due("no such one " + p, x.near(p), NONE);
        }
        // alike ones; of like ones the first
        x = Check.with("bath a 1 1; paper p 3; paper q 3; paper r 3;");
        c.due("alike", x.near(0), 1);
        c.due("alike", x.near(1), 0);
        c.due("alike", x.near(2), 0);
        // by one more and by one less alike
        x = Check.with("bath a 1 1; paper p 4; paper q 3; paper r 2;");
        c.due("4 and 2 from 3", x.near(1), 0);
    }

    private static void through() {
        BathMinutes x = Check.with(SIX + "paper p 0 0 0 0 0 0; paper q 30 30 30 30 30 30; paper r 1 2 3 4 5 6; weak 9;");
        c.due("none", x.through(0), 0);
        c.due("most", x.through(1), 180);
        c.due("through", x.through(2), 21);
        for (int p : new int[] {LEAST, -1, 3, 5, MOST}) {
            c.due("no such one " + p, x.through(p), NONE);
        }
        c.due("without BATHS", Check.with("paper p;").through(0), 0);
    }

    private static void gap() {
        BathMinutes x = Check.with(SIX + "paper p 30 30 30 30 30 30; paper q 1 1 1 1 1 1; paper r 0 0 0 0 0 0; paper t 0 0 0 0 0 30;");
        // Q may not come into G ahead of 180, in which it is 5 behind its START
        c.due("the greatest one", x.gap(0, 1), 175);
        c.due("P behind Q", x.gap(1, 0), 1);
        c.due("alike", x.gap(0, 0), 30);
        c.due("alike", x.gap(1, 1), 1);
        c.due("nothing asked", x.gap(2, 2), 0);
        c.due("nothing asked", x.gap(0, 2), 0);
        c.due("nothing asked", x.gap(2, 0), 0);
        // T is in G till 30, P comes there behind 150
        c.due("far ahead", x.gap(3, 0), 0);
        c.due("far ahead of it", x.gap(0, 3), 0);
        c.due("one BATH alone", x.gap(3, 3), 30);
        c.due("T behind Q: Q is in G from 5 to 6", x.gap(1, 3), 6);
        c.due("Q behind T: T is there till 30", x.gap(3, 1), 25);
        for (int p : new int[] {LEAST, -1, 4, 5, MOST}) {
            c.due("no such one", x.gap(p, 0), NONE);
            c.due("no such one", x.gap(0, p), NONE);
            c.due("no such ones", x.gap(p, p), NONE);
        }
        // what BATHS HOLD, LAST, have had, who is there: no matter
        x = Check.with("bath a 4 1; paper p 5; sheet s p; sheet t p; weak 9;");
        c.due("it HOLDS one", x.gap(0, 0), 5);
        x.start(0);
        c.due("nobody else is there", x.gap(0, 0), 5);
        // it may come in just as the other one goes out, on both sides
        x = Check.with("bath a 1 9; bath b 1 9; paper p 4 1; paper q 0 4; paper r 0 5;");
        c.due("out of B at 4, when P comes", x.gap(0, 1), 0);
        c.due("out of B at 5: too late", x.gap(0, 2), 5);
        c.due("into B at 4, when Q goes", x.gap(1, 0), 0);
        c.due("into B at 5, when R goes", x.gap(2, 0), 1);
    }

    /** As it goes in a ROOM of two SHEETS in which each BATH HOLDS one. */
    private static void gapByLiving() {
        int[][] asked = {{3, 1, 4}, {2, 0, 5}, {0, 7, 1}, {5, 5, 0}, {1, 1, 1}, {0, 0, 9}, {6, 0, 0}};
        for (int[] first : asked) {
            for (int[] second : asked) {
                int due = NONE;
                for (int gap = 0; due == NONE && gap < 30; gap++) {
                    due = goesOn(first, second, gap) ? gap : NONE;
                }
                BathMinutes x = Check.with(pair(first, second));
                c.due("gap", x.gap(0, 1), due);
            }
        }
    }

    private static String pair(int[] first, int[] second) {
        return "bath a 1 9; bath b 1 9; bath d 1 9; paper p " + first[0] + " " + first[1] + " " + first[2]
            + "; paper q " + second[0] + " " + second[1] + " " + second[2] + "; sheet s p; sheet t q; spare 9;";
    }

    private static boolean goesOn(int[] first, int[] second, int gap) {
        BathMinutes x = Check.with(pair(first, second));
        x.start(0);
        if (gap > 0) {
            x.minutes(gap);
        }
        if (x.start(1) != 0) {
            return false;
        }
        x.minutes(60);
        return x.now(3) == 3 && x.sheet(0, 5) == 0 && x.sheet(1, 5) == 0;
    }

    private static void chainDue(BathMinutes x, int all, int... row) {
        c.due("chain", x.chain(), all);
        for (int k = 0; k < row.length; k++) {
            c.due("chainAt " + k, x.chainAt(k), row[k]);
        }
        for (int k : new int[] {LEAST, -2, -1, row.length, row.length + 1, 5, MOST}) {
            c.due("chainAt " + k, x.chainAt(k), NONE);
        }
    }

    private static void chain() {
        BathMinutes x = new BathMinutes();
        c.due("ahead of any", x.chainAt(0), NONE);
        chainDue(x, 0);
        Check.room(x, "bath a 1 1; paper p 9;");
        c.due("by the latest", x.chainAt(0), NONE);
        chainDue(x, 0, 0);
        Check.room(x, "bath a 1 1; paper p 9; paper q 3;");
        c.due("by the latest", x.chainAt(1), NONE);
        chainDue(x, 3, 1, 0);
        // of like ones the first, PAPER by PAPER the least
        Check.room(x, "bath a 1 1; paper p 1; paper q 1; paper r 1; paper t 1; paper u 1;");
        chainDue(x, 4, 0, 1, 2, 3, 4);
        // the GAP behind one is its minutes: the greatest one is the last
        Check.room(x, "bath a 1 1; paper p 5; paper q 4; paper r 3; paper t 2; paper u 1;");
        chainDue(x, 10, 1, 2, 3, 4, 0);
        Check.room(x, "bath a 1 1; paper p 1; paper q 2; paper r 3; paper t 4; paper u 5;");
        chainDue(x, 10, 0, 1, 2, 3, 4);
        // the last row of all is the only best one: each goes on just as the next one behind it comes
        Check.room(x, "bath a 1 1; bath b 1 1; paper p 5 1; paper q 4 5; paper r 3 4; paper t 2 3; paper u 1 2;");
        chainDue(x, 10, 4, 3, 2, 1, 0);
        Check.room(x, "");
        c.due("it stays with a new ROOM", x.chainAt(0) * 10 + x.chainAt(4), 40);
        chainDue(x, 0);
    }

    /** Each row of five is the only best one once. */
    private static void chainOfEachRow() {
        String[] asked = {" 1 2", " 2 3", " 3 4", " 4 5", " 5 1"};
        int rows = 0;
        for (int code = 0; code < 3125; code++) {
            int[] best = {code / 625, code / 125 % 5, code / 25 % 5, code / 5 % 5, code % 5};
            String[] papers = new String[5];
            for (int k = 0; k < 5; k++) {
                papers[best[k]] = asked[k];
            }
            StringBuilder t = new StringBuilder("bath a 1 1; bath b 1 1;");
            boolean unlike = true;
            for (int p = 0; p < 5; p++) {
                unlike &= papers[p] != null;
                t.append("paper p").append((char) ('a' + p)).append(papers[p]).append(';');
            }
            if (unlike) {
                rows++;
                chainDue(Check.with(t.toString()), 10, best);
            }
        }
        c.due("rows of five", rows, 120);
    }

    private static void load() {
        BathMinutes x = Check.with("bath a 2 9; bath b 1 9; paper p 3 4; paper q 30 30; sheet s p; sheet t p; sheet u q; spare 9;");
        x.start(0);
        x.start(1);
        String seen = Look.of(x);
        for (int k = 0; k <= 60; k++) {
            BathMinutes y = Check.with("bath a 2 9; bath b 1 9; paper p 3 4; paper q 30 30; sheet s p; sheet t p; sheet u q; spare 9;");
            y.start(0);
            y.start(1);
            if (k > 0) {
                y.minutes(k);
            }
            c.due("load of A in " + k, x.load(0, k), y.bath(0, 3));
            c.due("load of B in " + k, x.load(1, k), y.bath(1, 3));
        }
        c.due("in 3: T is held", x.load(0, 3), 2);
        c.due("in 6", x.load(1, 6), 1);
        c.due("in 7: T comes", x.load(1, 7), 2);
        c.due("in 10", x.load(1, 10), 2);
        c.due("in 11", x.load(1, 11), 0);
        c.due("in 200", x.load(0, 200), 0);
        for (int k : new int[] {LEAST, -1, 201, 202, MOST}) {
            c.due("in " + k, x.load(0, k), NONE);
        }
        for (int b : new int[] {LEAST, -1, 2, 6, MOST}) {
            c.due("no such one", x.load(b, 0), NONE);
        }
        c.due("all stays", Look.of(x), seen);
        // SHEETS WAITING come not of themselves
        x = Check.with("bath a 1 9; paper p 3; sheet s p;");
        c.due("WAITING", x.load(0, 0) + x.load(0, 1) + x.load(0, 200), 0);
        // 200 are looked at, far behind MINUTE 1000
        x = ofSix(6, 9);
        for (int i = 0; i < 16; i++) {
            x.minutes(60);
        }
        x.minutes(34);
        x.start(0);
        c.due("MINUTE 1000 no matter", x.load(5, 194) * 100 + x.load(5, 195) * 10 + x.load(4, 194), 11);
        c.due("in 200", x.load(5, 200), 1);
        c.due("when", x.when(0), 234);
        c.due("no MINUTE", x.minutes(1), 0);
    }

    private static void block() {
        BathMinutes x = Check.with("bath a 4 9; bath b 1 9; bath d 3 9; paper p 1 0 9; paper q 1 1 0;"
            + "sheet s p; sheet t p; sheet u p; sheet v p; sheet w q; sheet y p; spare 9;");
        for (int s : new int[] {LEAST, -1, 6, 8, MOST}) {
            c.due("no such one", x.block(s), NONE);
        }
        for (int s = 0; s < 3; s++) {
            x.start(s);
        }
        c.due("with minutes LEFT", x.block(0), NONE);
        x.minutes(1);
        c.due("in the last BATH", x.block(0), NONE);
        x.start(3);
        x.start(4);
        x.minutes(1);
        c.due("B is not asked for, D is full", x.block(3), 7);
        c.due("it goes on", x.block(4), NONE);
        c.due("WAITING", x.block(5), NONE);
        x.minutes(1);
        c.due("DONE", x.block(4), NONE);
        c.due("held yet", x.block(3), 7);
        x.take(1);
        c.due("one of them is gone: it is held till the MINUTE goes", x.block(3), 5);
        c.due("SPOILT", x.block(1), NONE);
        x.minutes(1);
        c.due("not held any more", x.block(3), NONE);
        // by a BATH that is used up, nobody in it
        x = Check.with("bath a 1 9; bath b 1 1; paper p 1 1; sheet s p; sheet t p; spare 9;");
        x.start(0);
        x.minutes(1);
        x.start(1);
        x.minutes(1);
        c.due("S is DONE, B is used up", x.block(1), 0);
        x.renew(1);
        c.due("fresh, but no MINUTE has gone", x.block(1), 0);
        c.due("held", x.now(5), 2);
        x.minutes(1);
        c.due("not held", x.now(5), 0);
    }

    private static int oddsByDrawn(String room, int s, int n, int seed) {
        int done = 0;
        for (int i = 0; i < n; i++) {
            BathMinutes x = Check.with(room);
            x.drawn(40, seed + i);
            done += x.sheet(s, 1) == 2 ? 1 : 0;
        }
        return done;
    }

    private static void odds() {
        String room = "bath a 2 3; bath b 1 9; paper p 2 1; paper q 0 3; sheet s p; sheet t q; sheet u p; spare 1; weak 1; fresh 9;";
        BathMinutes x = Check.with(room);
        String seen = Look.of(x);
        for (int s = 0; s < 3; s++) {
            for (int n : new int[] {1, 2, 29, 30}) {
                for (int seed : new int[] {LEAST, -1, 0, MOST, MOST - 14}) {
                    c.due("odds of " + s + " by " + n + " from " + seed, x.odds(s, n, seed), oddsByDrawn(room, s, n, seed));
                }
            }
        }
        c.due("all stays as it is", Look.of(x), seen);
        c.due("nothing to undo", x.undo(), NONE);
        for (int n : new int[] {LEAST, -1, 0, 31, 32, MOST}) {
            c.due("of " + n, x.odds(0, n, 1), NONE);
        }
        for (int s : new int[] {LEAST, -1, 3, 8, MOST}) {
            c.due("no such one", x.odds(s, 1, 1), NONE);
        }
        // behind 40 MINUTES: one that has 40 LEFT in all is DONE if no draw TAKES it, one that has 41 is not
        for (int more = 8; more <= 12; more++) {
            x = Check.with("bath a 1 99; bath b 1 99; paper p 30 " + more + "; paper q 0 0; sheet s p; sheet t q; sheet u q; sheet v q; sheet w q;");
            x.start(0);
            c.due("odds of " + (30 + more), x.odds(0, 30, 1) > 0, more <= 10);
        }
        // DONE already: by all of them; one that no draw can bring to its end: by none
        x = Check.with("bath a 1 1; bath b 1 1; paper p 0 0; paper q 30 30; sheet s p; sheet t q;");
        x.start(0);
        c.due("by all", x.odds(0, 30, 5), 30);
        c.due("by all of one", x.odds(0, 1, 5), 1);
        c.due("by none", x.odds(1, 30, 5), 0);
    }

    /** Behind 40 MINUTES, fewer if MINUTE is 1000 by then: a SHEET in a BATH with so many LEFT tells how many went. */
    private static void oddsAtTheEnd() {
        for (int left = 0; left <= 3; left++) {
            for (int asked = 1; asked <= 4; asked++) {
                BathMinutes x = Check.with("bath a 1 9; paper p " + asked + "; sheet s p;");
                for (int i = 0; i < 16; i++) {
                    x.minutes(60);
                }
                x.minutes(40 - left);
                x.start(0);
                // no draw of these seeds TAKES it: it is DONE by as many as let it be
                int due = 0;
                for (int seed = 0; seed < 30; seed++) {
                    BathMinutes y = Check.with("bath a 1 9; paper p " + asked + "; sheet s p;");
                    y.start(0);
                    if (left > 0) {
                        y.drawn(left, seed);
                    }
                    due += y.sheet(0, 1) == 2 ? 1 : 0;
                }
                c.due("odds with " + left + " MINUTES", x.odds(0, 30, 0), due);
                c.due("fewer MINUTES than it asks: none", asked > left && due > 0, false);
            }
        }
    }
}
