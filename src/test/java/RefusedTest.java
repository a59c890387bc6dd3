import java.util.NoSuchElementException;

/**
 * A call that is refused, that throws or that only tells leaves the rest as it was: it is made on one of two objects
 * with the same past, then all that can be seen of both is laid side by side.
 */
public final class RefusedTest {
    private static final int NONE = BathMinutes.NONE;
    private static final int THROWN = -77777;
    private static final int LEAST = Integer.MIN_VALUE;
    private static final int MOST = Integer.MAX_VALUE;
    private static final int BATHS = 3;
    private static final int PAPERS = 2;
    private static final int SHEETS = 5;

    // how the SHEETS of busy() are
    private static final int WAITS = 0;
    private static final int WORKS = 1;
    private static final int DONE = 2;
    private static final int HELD = 3;
    private static final int SPOILT = 4;

    private static final Check c = new Check("RefusedTest");

    interface Call {
        int run(BathMinutes x);
    }

    public static void main(String[] args) {
        busyIsAsMeant();
        wrongNumbers();
        wrongWhats();
        wrongCounts();
        notAsItIs();
        textsWithFaults();
        bytesNotAsTold();
        anotherLives();
        callsThatTell();
        lastMinute();
        nothingToUndo();
        fullTape();
        emptyRoom();
        c.end();
    }

    /** One of each: a SHEET that WAITS, one with minutes LEFT, one that is DONE, one that is held, one that is SPOILT. */
    private static BathMinutes busy() {
        BathMinutes x = Check.with("bath dev 2 6; bath stop 1 9; bath fix 1 9; paper pearl 3 1 4; paper gloss 2 0 5; "
            + "sheet ada pearl; sheet bob gloss; sheet cleo pearl; sheet dan gloss; sheet eve pearl; spare 9; weak 2; fresh 2;");
        Check.sentence(x, "not waiting");
        x.minutes(1);
        x.start(DONE);
        x.minutes(8);
        x.image(1);
        x.renew(0);
        x.start(SPOILT);
        x.take(SPOILT);
        x.start(WORKS);
        x.start(HELD);
        x.minutes(2);
        Check.bytes(x, WAITS);
        x.order();
        x.chain();
        Check.bytes(x, 0, 3);
        x.who();
        x.tag(HELD);
        Check.book(x, "take ada;", 0);
        Check.sentence(x, "in ada");
        Check.text(x, "not done");
        return x;
    }

    private static void busyIsAsMeant() {
        BathMinutes x = busy();
        int[] now = {11, 1 << WAITS, 1 << WORKS | 1 << HELD, 1 << DONE, 1 << SPOILT, 1 << HELD, 0b011, 1};
        for (int what = 0; what < now.length; what++) {
            c.due("busy now " + what, x.now(what), now[what]);
        }
        c.due("busy fault", x.fault(), 3);
        c.due("busy tape", x.count(6), 8);
        c.due("busy told", x.told(0), 11);
        c.due("busy order", x.orderAt(0), WAITS);
        c.due("busy ask", x.ask(), 0);
        c.due("busy said", x.said(NONE), 4);
        c.due("busy chain", x.chainAt(1) != NONE, true);
        c.due("busy OVER", x.sheet(HELD, 4), 1);
        c.due("busy tag", Check.tag(x, HELD), "dan in dev 0");
        c.due("busy undo", x.undo(), 7);
        c.due("busy image", x.restore(1), true);
        c.due("busy image", x.now(3), 1 << DONE);
    }

    private static int answer(Call call, BathMinutes x) {
        try {
            return call.run(x);
        } catch (NoSuchElementException e) {
            return THROWN;
        }
    }

    private static void same(String name, BathMinutes x, BathMinutes y) {
        c.due(name + ": all that is seen", Look.of(x), Look.of(y));
        c.due(name + ": tape", x.count(6), y.count(6));
        c.due(name + ": what is on it", x.sentence(), y.sentence());
        c.due(name + ": what is said", x.said(NONE), y.said(NONE));
        c.due(name + ": what is kept", Look.within(x), Look.within(y));
    }

    /** The call answers so and leaves all as it was, the tape and the kind of the FAULT, too. */
    private static void stays(String name, int due, Call call) {
        BathMinutes x = busy();
        BathMinutes y = busy();
        c.due(name, answer(call, x), due);
        c.due(name + ": fault", x.fault(), 3);
        same(name, x, y);
    }

    /** The tape is empty behind the call, the kind of the FAULT is as told; all else is as it was. */
    private static void onlyTapeGoes(String name, int due, int fault, Call call) {
        BathMinutes x = busy();
        BathMinutes y = busy();
        c.due(name, answer(call, x), due);
        c.due(name + ": fault", x.fault(), fault);
        c.due(name + ": tape", x.count(6), 0);
        y.end(0);
        same(name, x, y);
    }

    private static void wrongNumbers() {
        for (int n : new int[] {LEAST, -2, -1, SHEETS, SHEETS + 1, MOST}) {
            stays("start " + n, NONE, x -> x.start(n));
            stays("take " + n, NONE, x -> x.take(n));
            stays("again " + n, NONE, x -> x.again(n));
            stays("when " + n, NONE, x -> x.when(n));
            stays("clear " + n, NONE, x -> x.clear(n));
            stays("block " + n, NONE, x -> x.block(n));
            stays("tag " + n, NONE, x -> x.tag(n));
            stays("odds " + n, NONE, x -> x.odds(n, 30, 1));
            stays("sheet " + n, THROWN, x -> x.sheet(n, 0));
        }
        for (int n : new int[] {LEAST, -2, -1, BATHS, BATHS + 1, MOST}) {
            stays("renew " + n, NONE, x -> x.renew(n));
            stays("bath " + n, NONE, x -> x.bath(n, 0));
            stays("asks 0 " + n, NONE, x -> x.asks(0, n));
            stays("load " + n, NONE, x -> x.load(n, 0));
            stays("wear " + n, THROWN, x -> x.wear(n, 0));
        }
        for (int n : new int[] {LEAST, -2, -1, PAPERS, PAPERS + 1, MOST}) {
            stays("asks " + n, NONE, x -> x.asks(n, 0));
            stays("near " + n, NONE, x -> x.near(n));
            stays("through " + n, NONE, x -> x.through(n));
            stays("gap " + n, NONE, x -> x.gap(n, 0));
            stays("gap 0 " + n, NONE, x -> x.gap(0, n));
            stays("chainAt " + n, NONE, x -> x.chainAt(n));
        }
        for (int k : new int[] {LEAST, -1, 1, 2, 3, MOST}) {
            stays("orderAt " + k, NONE, x -> x.orderAt(k));
            stays("orderWhen " + k, NONE, x -> x.orderWhen(k));
        }
        for (int k : new int[] {LEAST, -2, 4, 5, 8, 9, MOST}) {
            stays("said " + k, NONE, x -> x.said(k));
        }
        for (int i : new int[] {LEAST, -1, 12, 13, 24, MOST}) {
            stays("byteAt " + i, NONE, x -> x.byteAt(i));
        }
        for (int k : new int[] {LEAST, -1, 2, 3, MOST}) {
            stays("image " + k, 0, x -> x.image(k) ? 1 : 0);
        }
        for (int k : new int[] {LEAST, -1, 0, 2, MOST}) {
            stays("restore " + k, 0, x -> x.restore(k) ? 1 : 0);
        }
    }

    private static void wrongWhats() {
        for (int what : new int[] {LEAST, -1, 6, 7, MOST}) {
            stays("bath 0 " + what, NONE, x -> x.bath(0, what));
        }
        for (int what : new int[] {LEAST, -1, 7, 8, MOST}) {
            stays("sheet 0 " + what, THROWN, x -> x.sheet(0, what));
            stays("count " + what, NONE, x -> x.count(what));
        }
        for (int what : new int[] {LEAST, -1, 8, 9, MOST}) {
            stays("now " + what, NONE, x -> x.now(what));
        }
        for (int what : new int[] {LEAST, -1, 2, 3, MOST}) {
            stays("wear 0 " + what, THROWN, x -> x.wear(0, what));
            stays("mean " + what, THROWN, x -> x.mean(what));
        }
        for (int what : new int[] {LEAST, -1, 4, 5, MOST}) {
            stays("told " + what, NONE, x -> x.told(what));
        }
    }

    private static void wrongCounts() {
        for (int n : new int[] {LEAST, -1, 0, 61, 62, MOST}) {
            stays("minutes " + n, NONE, x -> x.minutes(n));
            stays("drawn " + n, NONE, x -> x.drawn(n, 5));
        }
        for (int n : new int[] {LEAST, -1, 0, 31, 32, MOST}) {
            stays("odds 0 " + n, NONE, x -> x.odds(0, n, 5));
        }
        for (int k : new int[] {LEAST, -1, 201, 202, MOST}) {
            stays("load 0 " + k, NONE, x -> x.load(0, k));
        }
        for (int n : new int[] {LEAST, -1, 9, 10, MOST}) {
            stays("end " + n, 0, x -> x.end(n) ? 1 : 0);
        }
    }

    private static void notAsItIs() {
        for (int s : new int[] {WORKS, DONE, HELD, SPOILT}) {
            stays("start of one that is not WAITING " + s, 1, x -> x.start(s));
            stays("clear of one that is not WAITING " + s, NONE, x -> x.clear(s));
        }
        for (int s : new int[] {WAITS, DONE, SPOILT}) {
            stays("take of one that is in no BATH " + s, 1, x -> x.take(s));
        }
        for (int s : new int[] {WAITS, WORKS, DONE, HELD}) {
            stays("again of one that is not SPOILT " + s, 1, x -> x.again(s));
        }
        for (int s : new int[] {WAITS, SPOILT}) {
            stays("when of one that does not go " + s, NONE, x -> x.when(s));
        }
        for (int s : new int[] {WAITS, WORKS, DONE, SPOILT}) {
            stays("block of one that is not held " + s, NONE, x -> x.block(s));
        }
        stays("renew of one with a SHEET in it", 3, x -> x.renew(0));
        stays("renew of the other one with a SHEET in it", 3, x -> x.renew(2));
        afterwards("start into one that is not OPEN", x -> {
            x.take(HELD);
            x.renew(0);
            x.again(HELD);
            x.again(SPOILT);
            x.start(HELD);
            x.start(SPOILT);
        }, 2, x -> x.start(WAITS));
        afterwards("renew of one that has had none", x -> {
            x.take(HELD);
            x.renew(0);
        }, 1, x -> x.renew(0));
        afterwards("renew when no more can be made fresh", x -> {
            x.renew(1);
            x.again(SPOILT);
        }, 2, x -> x.renew(0));
    }

    interface Act {
        void run(BathMinutes x);
    }

    private static void afterwards(String name, Act ahead, int due, Call call) {
        BathMinutes x = busy();
        BathMinutes y = busy();
        ahead.run(x);
        ahead.run(y);
        c.due(name, answer(call, x), due);
        c.due(name + ": fault", x.fault(), 3);
        same(name, x, y);
    }

    private static void textsWithFaults() {
        String[] rooms = {"bath", "bath a 5 1;", "bath a 1 1; bath a 1 1;", "paper a;paper b;paper c;paper d;paper e;paper f;", "."};
        int[] roomPlaces = {4, 7, 17, 40, 0};
        int[] roomKinds = {1, 2, 3, 4, 1};
        for (int i = 0; i < rooms.length; i++) {
            String text = rooms[i];
            onlyTapeGoes("room of '" + text + "'", -1 - roomPlaces[i], roomKinds[i], x -> Check.room(x, text));
        }
        StringBuilder many = new StringBuilder();
        for (int i = 0; i < 41; i++) {
            many.append("take bob;");
        }
        String[] books = {"start ada", "minute 61;", "start ada; start dev;", many.substring(0, 369), "start ada; ("};
        int[] bookPlaces = {9, 7, 17, 360, 11};
        int[] bookKinds = {1, 2, 3, 4, 1};
        for (int i = 0; i < books.length; i++) {
            String text = books[i];
            for (int lives = 0; lives < 2; lives++) {
                int lived = lives;
                onlyTapeGoes("book of '" + text + "'", -2 - bookPlaces[i], bookKinds[i], x -> Check.book(x, text, lived));
            }
        }
        String[] sentences = {"", "done or", "in ada", "not not not not not not not not done", "held;"};
        int[] sentencePlaces = {0, 7, 3, 32, 4};
        int[] sentenceKinds = {1, 1, 3, 4, 1};
        for (int i = 0; i < sentences.length; i++) {
            String text = sentences[i];
            onlyTapeGoes("sentence of '" + text + "'", -1 - sentencePlaces[i], sentenceKinds[i], x -> Check.sentence(x, text));
        }
    }

    private static int order(BathMinutes x, int... bytes) {
        Check.bytes(x, bytes);
        return x.order();
    }

    private static int who(BathMinutes x, int... bytes) {
        Check.bytes(x, bytes);
        return x.who();
    }

    private static void bytesNotAsTold() {
        onlyTapeGoes("order of none", NONE, 3, x -> order(x));
        onlyTapeGoes("order of four", NONE, 3, x -> order(x, WAITS, WAITS, WAITS, WAITS));
        onlyTapeGoes("order of alike ones", NONE, 3, x -> order(x, WAITS, WAITS));
        onlyTapeGoes("order of no such one", NONE, 3, x -> order(x, SHEETS));
        onlyTapeGoes("order of byte 255", NONE, 3, x -> order(x, 255));
        for (int s : new int[] {WORKS, DONE, HELD, SPOILT}) {
            onlyTapeGoes("order of one that is not WAITING " + s, NONE, 3, x -> order(x, WAITS, s));
        }
        onlyTapeGoes("who of none", NONE, 3, x -> who(x));
        onlyTapeGoes("who of one byte", NONE, 3, x -> who(x, 0));
        onlyTapeGoes("who of three", NONE, 3, x -> who(x, 0, 3, 0));
        onlyTapeGoes("who of fourteen", NONE, 3, x -> who(x, 0, 3, 0, 3, 0, 3, 0, 3, 0, 3, 0, 3, 0, 3));
        onlyTapeGoes("who of no such BATH", NONE, 3, x -> who(x, BATHS, 3));
        onlyTapeGoes("who of byte 255", NONE, 3, x -> who(x, 0, 3, 255, 3));
        onlyTapeGoes("who of nobody: ask stays", 0, 3, x -> who(x, 0, 30));
    }

    private static void anotherLives() {
        for (int lives : new int[] {LEAST, -1000, -1, 2, 3, MOST}) {
            stays("book(" + lives + ")", -1000, x -> x.book(lives));
        }
        // with a BOOK on the tape, and with one that has a FAULT
        for (String text : new String[] {"start ada;", "start 7"}) {
            BathMinutes x = busy();
            BathMinutes y = busy();
            Check.text(x, text);
            Check.text(y, text);
            c.due("book(2) of '" + text + "'", x.book(2), -1000);
            c.due("fault of the latest other one", x.fault(), 3);
            same("book(2) of '" + text + "'", x, y);
        }
    }

    private static void callsThatTell() {
        for (int n = 0; n < SHEETS; n++) {
            int s = n;
            stays("when, clear, block, odds " + s, 0, x -> {
                x.when(s);
                x.clear(s);
                x.block(s);
                x.odds(s, 30, -9);
                return 0;
            });
        }
        stays("load", 0, x -> {
            x.load(0, 200);
            x.load(2, 7);
            return 0;
        });
        stays("papers", 0, x -> x.near(0) + x.through(0) + x.gap(0, 1) > 0 ? 0 : 1);
        // a BOOK that is judged alone, also one that goes far
        BathMinutes x = busy();
        BathMinutes y = busy();
        c.due("judged", Check.book(x, "start ada; minute 60; again eve; renew dev; minute 60; take ada;", 0), 5);
        c.due("its MINUTE", x.told(2), 131);
        c.due("judged, WRONG at once", Check.book(x, "take ada;", 0), 0);
        // as told of the MINUTE and of who is DONE is the same for both
        Check.book(y, "take ada;", 0);
        same("a BOOK that is judged", x, y);
    }

    private static BathMinutes late(int minute) {
        BathMinutes x = busy();
        for (int i = 0; i < 16; i++) {
            x.minutes(60);
        }
        x.minutes(minute - 971);
        x.again(SPOILT);
        x.start(SPOILT);
        return x;
    }

    private static void lastMinute() {
        for (int n : new int[] {1, 2, 60}) {
            BathMinutes x = late(1000);
            BathMinutes y = late(1000);
            c.due("minutes at 1000", x.minutes(n), 0);
            c.due("drawn at 1000", x.drawn(n, n), 0);
            c.due("MINUTE", x.now(0), 1000);
            same("MINUTE 1000", x, y);
        }
        BathMinutes x = late(1000);
        BathMinutes y = late(1000);
        c.due("a BOOK's minute at 1000", Check.book(x, "minute 1;", 1), 0);
        c.due("why", x.told(0), 41);
        c.due("a BOOK's minute at 1000", Check.book(y, "minute 1;", 0), 0);
        same("a BOOK at 1000", x, y);
        // one of which MINUTES are WRONG: what is ahead of them is lived, of them none
        x = late(997);
        c.due("four of three", Check.book(x, "minute 1; minute 3; take eve;", 1), 1);
        c.due("MINUTE", x.now(0), 998);
        c.due("told", x.told(2), 998);
        c.due("one act to undo more", x.undo(), 7);
        c.due("MINUTE", x.now(0), 997);
        c.due("one of one", Check.book(x, "minute 1;", 1), NONE);
        c.due("two of two", Check.book(x, "minute 2;", 1), NONE);
        c.due("MINUTE", x.now(0), 1000);
    }

    private static void nothingToUndo() {
        BathMinutes x = busy();
        BathMinutes y = busy();
        for (int i = 0; i < 8; i++) {
            c.due("undo", x.undo(), 7 - i);
            y.undo();
        }
        for (int i = 0; i < 3; i++) {
            c.due("none is undone", x.undo(), NONE);
        }
        c.due("the ninth act stands", x.now(0), 1);
        same("nothing to undo", x, y);
    }

    private static void fullTape() {
        for (int full : new int[] {921, 930, 939, 940}) {
            BathMinutes x = Check.with("spare 1;");
            for (int i = 0; i < 47; i++) {
                // 'weak 7;spare 2;     '
                x.feed(0x7765616b, 0x20373b73, 0x70617265, 0x20323b20, 0x20202020);
            }
            x.end(full);
            c.due("feed onto " + full, x.feed(0, 0, 0, 0, 0), NONE);
            c.due("none came", x.count(6), full);
            c.due("end of more", x.end(full + 1), false);
            c.due("none went", x.count(6), full);
            x.end(20);
            c.due("what was there is there", x.room(), 2);
            c.due("weak", x.count(4), 7);
        }
    }

    private static void emptyRoom() {
        BathMinutes x = new BathMinutes();
        BathMinutes y = new BathMinutes();
        for (int n : new int[] {LEAST, -1, 0, 1, MOST}) {
            c.due("bath", x.bath(n, 0), NONE);
            c.due("asks", x.asks(n, n), NONE);
            c.due("sheet", answer(z -> z.sheet(n, 0), x), THROWN);
            c.due("start", x.start(n), NONE);
            c.due("take", x.take(n), NONE);
            c.due("again", x.again(n), NONE);
            c.due("renew", x.renew(n), NONE);
            c.due("when", x.when(n), NONE);
            c.due("clear", x.clear(n), NONE);
            c.due("orderAt", x.orderAt(n), NONE);
            c.due("orderWhen", x.orderWhen(n), NONE);
            c.due("near", x.near(n), NONE);
            c.due("through", x.through(n), NONE);
            c.due("gap", x.gap(n, n), NONE);
            c.due("chainAt", x.chainAt(n), NONE);
            c.due("load", x.load(n, 0), NONE);
            c.due("block", x.block(n), NONE);
            c.due("wear", answer(z -> z.wear(n, 0), x), THROWN);
            c.due("mean", answer(z -> z.mean(n), x), THROWN);
            c.due("tag", x.tag(n), NONE);
            c.due("byteAt", x.byteAt(n), NONE);
            c.due("odds", x.odds(n, 1, 1), NONE);
            c.due("told", x.told(n), NONE);
            c.due("said", x.said(n), NONE);
            c.due("restore", x.restore(n), false);
        }
        c.due("jam", x.jam(), NONE);
        c.due("often", x.often(), NONE);
        c.due("ask", x.ask(), NONE);
        c.due("order", x.order(), NONE);
        c.due("who", x.who(), NONE);
        c.due("undo", x.undo(), NONE);
        c.due("fault", x.fault(), 0);
        same("an object that was only asked", x, y);
    }
}
