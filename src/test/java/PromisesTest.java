/** Promise by promise, with answers worked out by hand from the document. */
public final class PromisesTest {
    // DEV holds 1 and lasts 4, STOP holds 1, FIX holds 2
    private static final String ROOM = "bath dev 1 4; bath stop 1 9; bath fix 2 6; paper pearl 3 1 4; paper gloss 2 0 5; "
        + "sheet ada pearl; sheet bob gloss; sheet cleo pearl; spare 1; weak 2; fresh 1;";
    private static final int NONE = BathMinutes.NONE;

    private static final Check c = new Check("PromisesTest");

    public static void main(String[] args) {
        newObject();
        tape();
        roomOfText();
        roomFaults();
        roomLimits();
        textsTooLong();
        baths();
        papers();
        sheets();
        starting();
        taking();
        renewing();
        minutes();
        weakBaths();
        holding();
        laterBathsFirst();
        lastMinute();
        undoing();
        when();
        clear();
        order();
        orderOfAll();
        need();
        jam();
        whoAndAsk();
        near();
        gapAndChain();
        loadAndBlock();
        wearAndMean();
        often();
        tags();
        drawn();
        odds();
        books();
        bookFaults();
        sentences();
        sentenceFaults();
        images();
        constants();
        c.end();
    }

    private static void newObject() {
        BathMinutes x = new BathMinutes();
        int[] counts = {0, 0, 0, 0, 0, 5, 0};
        for (int what = 0; what < counts.length; what++) {
            c.due("new count " + what, x.count(what), counts[what]);
        }
        int[] now = {0, 0, 0, 0, 0, 0, 0, 5};
        for (int what = 0; what < now.length; what++) {
            c.due("new now " + what, x.now(what), now[what]);
        }
        c.due("new fault", x.fault(), 0);
        c.due("new said", x.said(-1), NONE);
        c.due("new undo", x.undo(), NONE);
        c.due("new jam", x.jam(), NONE);
        c.due("new often", x.often(), NONE);
        c.due("new ask", x.ask(), NONE);
        c.due("new told", x.told(0), NONE);
        c.due("new chainAt", x.chainAt(0), NONE);
        c.due("new chain", x.chain(), 0);
        c.due("new orderAt", x.orderAt(0), NONE);
        c.due("new byteAt", x.byteAt(0), NONE);
        c.due("new restore", x.restore(0), false);
        c.due("new drawn", x.drawn(3, 1), 3);
        c.dueThrows("new sheet", () -> x.sheet(0, 0));
        c.dueThrows("new wear", () -> x.wear(0, 0));
        c.dueThrows("new mean", () -> x.mean(0));
        c.due("an empty ROOM", x.room(), 0);
        c.due("its MINUTE", x.now(0), 0);
    }

    private static void tape() {
        BathMinutes x = new BathMinutes();
        // 'bath a 1 1;' with the highest byte of each number first
        c.due("feed", x.feed(0x62617468, 0x20612031, 0x20313b00, -1, 7), 20);
        c.due("count(6)", x.count(6), 20);
        c.due("end below 0", x.end(-1), false);
        c.due("end of more", x.end(21), false);
        c.due("end of all", x.end(20), true);
        c.due("end", x.end(11), true);
        c.due("end of what is gone", x.end(12), false);
        c.due("count(6)", x.count(6), 11);
        c.due("room", x.room(), 1);
        x.feed(0x62617468, 0x20612031, 0x20313b00, -1, 7);
        c.due("end of none", x.end(0), true);
        c.due("none", x.count(6), 0);
        c.due("end of none of none", x.end(0), true);
        c.due("empty then", x.count(6), 0);
        for (int i = 1; i <= 47; i++) {
            c.due("feed " + i, x.feed(0, 0, 0, 0, 0), 20 * i);
        }
        c.due("feed of more than 940", x.feed(0, 0, 0, 0, 0), NONE);
        c.due("none came", x.count(6), 940);
        x.end(921);
        c.due("feed of 941", x.feed(0, 0, 0, 0, 0), NONE);
        x.end(920);
        c.due("feed of 940", x.feed(0, 0, 0, 0, 0), 940);
        c.due("room of no TOKEN", x.room(), -1);
        c.due("empty with a FAULT, too", x.count(6), 0);
    }

    private static void roomOfText() {
        BathMinutes x = new BathMinutes();
        c.due("room", Check.room(x, ROOM), 11);
        int[] counts = {3, 2, 3, 1, 2, 1, 0, -1};
        for (int what = 0; what < counts.length; what++) {
            c.due("count " + what, x.count(what), counts[what]);
        }
        c.due("count(-1)", x.count(-1), NONE);
        c.due("blanks or not", Check.room(x, "bath\na 01 009;paper p 30\n;sheet s p;\n"), 3);
        c.due("leading zeros", x.bath(0, 1), 9);
        c.due("spare without", x.count(3), 0);
        c.due("weak without", x.count(4), 0);
        c.due("fresh without", x.count(5), 5);
        c.due("the new ROOM's SHEETS alone", x.now(1), 1);
        x.start(0);
        x.minutes(3);
        Check.sentence(x, "waiting");
        c.due("a FAULT", Check.room(x, "bath a 1;"), -9);
        c.due("its kind", x.fault(), 1);
        c.due("the ROOM stays", x.count(2), 1);
        c.due("all stays", x.now(0), 3);
        c.due("the SENTENCE stays", x.said(-1), 0);
        c.due("what can be undone stays", x.undo(), 1);
        c.due("a new ROOM", Check.room(x, "spare 3;"), 1);
        c.due("no FAULT", x.fault(), 0);
        c.due("MINUTE 0", x.now(0), 0);
        c.due("no SENTENCE", x.said(-1), NONE);
        c.due("nothing to undo", x.undo(), NONE);
        c.due("'spare'", x.count(3), 3);
        c.due("no BATHS", x.count(0), 0);
        c.due("told as 0", Check.room(x, "spare 0; weak 0; fresh 0;"), 3);
        c.due("none can be made fresh", x.now(7), 0);
        c.due("told as most", Check.room(x, "weak 9; fresh 99; spare 9;"), 3);
        c.due("'spare'", x.count(3), 9);
        c.due("'weak'", x.count(4), 9);
        c.due("'fresh'", x.count(5), 99);
        c.due("a PAPER without BATHS", Check.room(x, "paper p;sheet s p;"), 2);
        c.due("it is DONE", x.start(0), 0);
        c.due("it is DONE", x.now(3), 1);
    }

    private static void fault(String text, int place, int kind) {
        BathMinutes x = new BathMinutes();
        c.due("room of '" + text + "'", Check.room(x, text), -1 - place);
        c.due("fault of '" + text + "'", x.fault(), kind);
    }

    private static void roomFaults() {
        // 1: no TOKEN, or one that can't come
        fault("Bath a 1 1;", 0, 1);
        fault("bath a 1 1.", 10, 1);
        fault("bath abcdefgh 1 1;", 5, 1);
        fault("bath a1 1 1;", 5, 1);
        fault("bath a 1000 1;", 7, 1);
        fault("bath a 1a 1;", 7, 1);
        fault("bath a 1\t1;", 8, 1);
        fault("start a;", 0, 1);
        fault("foo a;", 0, 1);
        fault("7;", 0, 1);
        fault(";", 0, 1);
        fault("bath a 1 1 1;", 11, 1);
        fault("bath a 1 1; bath b 1", 20, 1);
        fault("bath a 1 1  \n", 13, 1);
        fault("bath 1 1 1;", 5, 1);
        fault("paper p 1;", 8, 1);
        fault("bath a 1 1; paper p;", 19, 1);
        fault("bath a 1 1; paper p 1 2;", 22, 1);
        fault("spare x;", 6, 1);
        fault("spare 3 4;", 8, 1);
        for (String key : Oracle.WORDS) {
            fault("bath " + key + " 1 1;", 5, 1);
        }
        fault("paper p; sheet s done;", 17, 1);
        // 2: a NUMBER that is not as told
        fault("bath a 0 1;", 7, 2);
        fault("bath a 5 1;", 7, 2);
        fault("bath a 4 0;", 9, 2);
        fault("bath a 4 100;", 9, 2);
        fault("bath a 4 99; paper p 31;", 21, 2);
        fault("spare 10;", 6, 2);
        fault("weak 10;", 5, 2);
        fault("fresh 100;", 6, 2);
        // 3: NAMES and LINES that are told again
        fault("bath a 1 1; bath a 1 1;", 17, 3);
        fault("bath a 1 1; paper a 1;", 18, 3);
        fault("paper p; sheet p p;", 15, 3);
        fault("paper p; sheet s p; sheet s p;", 26, 3);
        fault("paper p; sheet s q;", 17, 3);
        fault("bath b 1 1; paper p 1; sheet s b;", 31, 3);
        fault("paper p; sheet s p; sheet t s;", 28, 3);
        fault("sheet s p;", 8, 3);
        fault("paper p; bath a 1 1;", 9, 3);
        fault("spare 1; spare 1;", 9, 3);
        fault("weak 1; weak x", 8, 3);
        fault("fresh 1; fresh 1;", 9, 3);
    }

    private static void roomLimits() {
        String six = "bath a 1 1;bath b 1 1;bath c 1 1;bath d 1 1;bath e 1 1;bath f 1 1;";
        c.due("six BATHS", Check.room(new BathMinutes(), six), 6);
        fault(six + "bath g 1 1;", 66, 4);
        fault(six + "bath 7", 66, 4);
        // of one TOKEN the least: behind a 'paper' it is 3
        fault(six + "paper p 1 1 1 1 1 1;bath g 1 1;", 86, 3);
        String five = "paper a;paper b;paper c;paper d;paper e;";
        c.due("five PAPERS", Check.room(new BathMinutes(), five), 5);
        fault(five + "paper f;", 40, 4);
        String eight = "paper p;sheet a p;sheet b p;sheet c p;sheet d p;sheet e p;sheet f p;sheet g p;sheet h p;";
        c.due("eight SHEETS", Check.room(new BathMinutes(), eight), 9);
        fault(eight + "sheet i p;", 88, 4);
    }

    private static String blanks(int n) {
        StringBuilder t = new StringBuilder();
        for (int i = 0; i < n; i++) {
            t.append(i % 7 == 6 ? '\n' : ' ');
        }
        return t.toString();
    }

    private static void textsTooLong() {
        c.due("900 bytes", Check.room(new BathMinutes(), "spare 1;" + blanks(892)), 1);
        fault("spare 1;" + blanks(893), 900, 1);
        fault(blanks(930), 900, 1);
        // read whole, as it begins ahead: then the most bytes told
        fault(blanks(898) + "spare 1;", 900, 1);
        fault(blanks(899) + "spare 1;", 900, 1);
        fault(blanks(893) + "spare 12;", 899, 2);
        fault(blanks(893) + "spare 1;", 900, 1);
        fault(blanks(899) + "foo;", 899, 1);
        fault(blanks(900) + "foo;", 900, 1);
        fault(blanks(892) + "spare 1;foo", 900, 1);
        fault(blanks(894) + "spare 12;", 900, 1);
        fault(blanks(893) + "bath a 1 1;", 900, 1);
        fault("spare 1;.", 8, 1);
        fault("." + blanks(920), 0, 1);
        BathMinutes x = Check.with(ROOM);
        c.due("a BOOK of 400", Check.book(x, "start ada;" + blanks(390), 0), NONE);
        c.due("a BOOK of 401", Check.book(x, "start ada;" + blanks(391), 0), -402);
        c.due("fault", x.fault(), 1);
        c.due("a SENTENCE of 200", Check.sentence(x, "done" + blanks(196)), 1);
        c.due("a SENTENCE of 201", Check.sentence(x, "done" + blanks(197)), -201);
        c.due("fault", x.fault(), 1);
        c.due("a SENTENCE of 201 whose WORD is read whole", Check.sentence(x, blanks(198) + "done"), -201);
    }

    private static void baths() {
        BathMinutes x = Check.with(ROOM);
        int[][] due = {{1, 4, 0, 0, 1, 0}, {1, 9, 0, 0, 1, 0}, {2, 6, 0, 0, 1, 0}};
        for (int b = 0; b < 3; b++) {
            for (int what = 0; what < 6; what++) {
                c.due("bath " + b + " " + what, x.bath(b, what), due[b][what]);
            }
        }
        c.due("bath(3)", x.bath(3, 0), NONE);
        c.due("bath(-1)", x.bath(-1, 0), NONE);
        c.due("bath(0, 6)", x.bath(0, 6), NONE);
        c.due("bath(0, -1)", x.bath(0, -1), NONE);
        x.start(1);
        c.due("had", x.bath(0, 2), 1);
        c.due("in it", x.bath(0, 3), 2);
        c.due("not OPEN", x.bath(0, 4), 0);
        c.due("OPEN BATHS", x.now(6), 6);
    }

    private static void papers() {
        BathMinutes x = Check.with(ROOM);
        int[][] due = {{3, 1, 4}, {2, 0, 5}};
        for (int p = 0; p < 2; p++) {
            for (int b = 0; b < 3; b++) {
                c.due("asks " + p + " " + b, x.asks(p, b), due[p][b]);
            }
        }
        c.due("asks(2, 0)", x.asks(2, 0), NONE);
        c.due("asks(0, 3)", x.asks(0, 3), NONE);
        c.due("asks(-1, 0)", x.asks(-1, 0), NONE);
        c.due("asks(0, -1)", x.asks(0, -1), NONE);
        c.due("through(0)", x.through(0), 8);
        c.due("through(1)", x.through(1), 7);
        c.due("through(2)", x.through(2), NONE);
        c.due("through(-1)", x.through(-1), NONE);
    }

    private static void sheetDue(BathMinutes x, int s, int... due) {
        for (int what = 0; what < due.length; what++) {
            c.due("sheet " + s + " " + what, x.sheet(s, what), due[what]);
        }
    }

    private static void sheets() {
        BathMinutes x = Check.with(ROOM);
        sheetDue(x, 0, 0, 0, -1, 0, 0, 0, 0);
        sheetDue(x, 1, 1, 0, -1, 0, 0, 0, 0);
        c.dueThrows("sheet(3, 0)", () -> x.sheet(3, 0));
        c.dueThrows("sheet(-1, 0)", () -> x.sheet(-1, 0));
        c.dueThrows("sheet(0, 7)", () -> x.sheet(0, 7));
        c.dueThrows("sheet(0, -1)", () -> x.sheet(0, -1));
        x.start(0);
        sheetDue(x, 0, 0, 1, 0, 3, 0, 0, 1);
    }

    private static void starting() {
        BathMinutes x = Check.with(ROOM);
        c.due("start", x.start(0), 0);
        c.due("not WAITING", x.start(0), 1);
        c.due("not OPEN", x.start(1), 2);
        c.due("no such one", x.start(3), NONE);
        c.due("no such one", x.start(-1), NONE);
        c.due("WAITING", x.now(1), 6);
        c.due("in BATHS", x.now(2), 1);
        c.due("tried in vain", x.sheet(1, 6), 0);
        x = Check.with("bath a 1 1; bath b 1 9; paper p 0 2; paper q 0 0; sheet s p; sheet t q; sheet u p;");
        c.due("into the first that is asked for", x.start(0), 0);
        c.due("its BATH", x.sheet(0, 2), 1);
        c.due("no BATH: DONE", x.start(1), 0);
        sheetDue(x, 1, 1, 2, -1, 0, 0, 0, 1);
        c.due("DONE", x.now(3), 2);
        c.due("only the first one is looked at", x.start(2), 2);
        // it is used up: it HOLDS more, but has had as many as it LASTS
        x = Check.with("bath a 2 1; paper p 2; sheet s p; sheet t p;");
        c.due("start", x.start(0), 0);
        c.due("used up", x.start(1), 2);
        c.due("used up, not OPEN", x.bath(0, 4), 0);
    }

    private static void taking() {
        BathMinutes x = Check.with(ROOM);
        c.due("in no BATH", x.take(0), 1);
        c.due("not SPOILT", x.again(0), 1);
        x.start(0);
        c.due("not SPOILT", x.again(0), 1);
        c.due("take", x.take(0), 0);
        sheetDue(x, 0, 0, 3, -1, 0, 0, 0, 1);
        c.due("SPOILT", x.now(4), 1);
        c.due("OPEN again", x.bath(0, 4), 1);
        c.due("has had it", x.bath(0, 2), 1);
        c.due("in no BATH", x.take(0), 1);
        c.due("again", x.again(0), 0);
        sheetDue(x, 0, 0, 0, -1, 0, 0, 0, 1);
        c.due("start", x.start(0), 0);
        c.due("tries", x.sheet(0, 6), 2);
        for (int s = -1; s < 4; s += 4) {
            c.due("no such one", x.take(s), NONE);
            c.due("no such one", x.again(s), NONE);
        }
    }

    private static void renewing() {
        BathMinutes x = Check.with("bath a 1 2; bath b 1 9; paper p 1 3; sheet s p; sheet t p; sheet u p; fresh 1;");
        c.due("has had none", x.renew(0), 1);
        x.start(0);
        c.due("a SHEET is in it", x.renew(0), 3);
        x.minutes(1);
        c.due("renew", x.renew(0), 0);
        c.due("has had none", x.bath(0, 2), 0);
        c.due("fresh ones left", x.now(7), 0);
        c.due("as told", x.count(5), 1);
        c.due("1 ahead of 2", x.renew(0), 1);
        x.start(1);
        c.due("2 ahead of 3", x.renew(0), 2);
        c.due("no such one", x.renew(2), NONE);
        c.due("no such one", x.renew(-1), NONE);
    }

    private static void minutes() {
        BathMinutes x = Check.with(ROOM);
        c.due("minutes(0)", x.minutes(0), NONE);
        c.due("minutes(61)", x.minutes(61), NONE);
        c.due("minutes(-1)", x.minutes(-1), NONE);
        c.due("no MINUTE went", x.now(0), 0);
        x.start(0);
        c.due("minutes(2)", x.minutes(2), 2);
        sheetDue(x, 0, 0, 1, 0, 1, 0, 0, 1);
        x.minutes(1);
        sheetDue(x, 0, 0, 1, 1, 1, 0, 0, 1);
        c.due("start", x.start(1), 0);
        x.minutes(1);
        sheetDue(x, 0, 0, 1, 2, 4, 0, 0, 1);
        sheetDue(x, 1, 1, 1, 0, 1, 0, 0, 1);
        x.minutes(1);
        // by 'gloss' STOP is left out, FIX HOLDS two
        sheetDue(x, 1, 1, 1, 2, 5, 0, 0, 1);
        c.due("in FIX", x.bath(2, 3), 3);
        c.due("FIX is full", x.now(6), 3);
        x.minutes(3);
        sheetDue(x, 0, 0, 2, -1, 0, 0, 0, 1);
        c.due("DONE", x.now(3), 1);
        c.due("MINUTE", x.now(0), 8);
        c.due("minutes(60)", x.minutes(60), 60);
        c.due("DONE", x.now(3), 3);
        c.due("now(-1)", x.now(-1), NONE);
        c.due("now(8)", x.now(8), NONE);
    }

    private static void weakBaths() {
        // LASTS 5: the fourth one is the first for which 2 * 3 is not fewer
        BathMinutes x = Check.with("bath a 4 5; paper p 3; sheet s p; sheet t p; sheet u p; sheet v p; sheet w p; weak 2;");
        for (int s = 0; s < 4; s++) {
            c.due("start", x.start(s), 0);
            c.due("LEFT of " + s, x.sheet(s, 3), s < 3 ? 3 : 5);
        }
        // LASTS 4: the third one, as twice two are just as many
        x = Check.with("bath a 4 4; paper p 3; sheet s p; sheet t p; sheet u p; weak 9;");
        for (int s = 0; s < 3; s++) {
            c.due("start", x.start(s), 0);
            c.due("LEFT of " + s, x.sheet(s, 3), s < 2 ? 3 : 12);
        }
        // by going on, too; the one that is renewed is not weak
        x = Check.with("bath a 1 9; bath b 1 2; paper p 1 2; sheet s p; sheet t p; weak 4;");
        x.start(0);
        x.minutes(3);
        c.due("DONE", x.now(3), 1);
        x.start(1);
        x.minutes(1);
        c.due("LEFT in a weak one", x.sheet(1, 3), 6);
        x.take(1);
        x.renew(1);
        x.again(1);
        x.start(1);
        x.minutes(1);
        c.due("LEFT in a fresh one", x.sheet(1, 3), 2);
    }

    private static void holding() {
        // B HOLDS one for ten minutes, 'spare' is 2
        BathMinutes x = Check.with("bath a 2 9; bath b 1 9; paper p 2 9; paper q 3 1; sheet s p; sheet t q; spare 2;");
        x.start(0);
        x.start(1);
        x.minutes(2);
        c.due("nobody is held", x.now(5), 0);
        c.due("block of one with minutes LEFT", x.block(1), NONE);
        x.minutes(1);
        c.due("held", x.now(5), 2);
        sheetDue(x, 1, 1, 1, 0, 0, 1, 1, 1);
        c.due("block", x.block(1), 1);
        x.minutes(1);
        sheetDue(x, 1, 1, 1, 0, 0, 2, 2, 1);
        x.minutes(1);
        // OVER since its START is told of one that is SPOILT, too
        sheetDue(x, 1, 1, 3, -1, 0, 0, 2, 1);
        c.due("block of a SPOILT one", x.block(1), NONE);
        x.again(1);
        sheetDue(x, 1, 1, 0, -1, 0, 0, 2, 1);
        x.minutes(5);
        x.start(1);
        sheetDue(x, 1, 1, 1, 0, 3, 0, 0, 2);
        // OVER here is counted anew in each BATH
        x = Check.with("bath a 1 9; bath b 1 9; bath c 1 9; paper p 1 1 1; paper q 0 3 0; paper r 0 0 5; sheet s p; sheet t q; sheet u r; spare 2;");
        x.start(1);
        x.start(0);
        x.minutes(1);
        sheetDue(x, 0, 0, 1, 0, 0, 1, 1, 1);
        x.minutes(1);
        x.start(2);
        sheetDue(x, 0, 0, 1, 0, 0, 2, 2, 1);
        x.minutes(1);
        sheetDue(x, 0, 0, 1, 1, 1, 0, 2, 1);
        x.minutes(2);
        sheetDue(x, 0, 0, 1, 1, 0, 2, 4, 1);
        x.minutes(1);
        sheetDue(x, 0, 0, 3, -1, 0, 0, 4, 1);
        // 'spare' 0: SPOILT at once
        x = Check.with("bath a 1 9; bath b 1 1; paper p 1 2; sheet s p; sheet t p;");
        x.start(0);
        x.minutes(1);
        x.start(1);
        x.minutes(1);
        c.due("SPOILT", x.now(4), 2);
    }

    private static void laterBathsFirst() {
        // S leaves B in the same MINUTE in which T comes into it: the last BATH first
        BathMinutes x = Check.with("bath a 1 9; bath b 1 9; paper p 2 2; sheet s p; sheet t p; sheet u p;");
        x.start(0);
        x.minutes(2);
        x.start(1);
        x.minutes(2);
        c.due("DONE", x.now(3), 1);
        c.due("in B", x.bath(1, 3), 2);
        // of one BATH the SHEET with the least number first
        x = Check.with("bath a 2 9; bath b 1 9; paper p 2 5; sheet s p; sheet t p; spare 9;");
        x.start(1);
        x.start(0);
        x.minutes(2);
        c.due("in B", x.bath(1, 3), 1);
        c.due("held", x.now(5), 2);
        // who comes into a BATH in a MINUTE has no minute less there
        c.due("LEFT", x.sheet(0, 3), 5);
    }

    private static void lastMinute() {
        BathMinutes x = Check.with("bath a 1 99; paper p 30; sheet s p;");
        for (int i = 0; i < 16; i++) {
            x.minutes(60);
        }
        x.start(0);
        c.due("39 of 39", x.minutes(20), 20);
        c.due("20 of 60", x.minutes(60), 20);
        c.due("MINUTE", x.now(0), 1000);
        c.due("DONE", x.now(3), 1);
        c.due("all are over", x.minutes(1), 0);
        c.due("drawn", x.drawn(5, 1), 0);
        c.due("undo", x.undo(), 7);
        c.due("MINUTE", x.now(0), 980);
        x.minutes(9);
        c.due("no matter", x.when(0), 1);
        c.due("too many MINUTES", Check.book(x, "minute 12;", 0), 0);
        c.due("told", x.told(0), 41);
        c.due("as many as are left", Check.book(x, "minute 11;", 1), NONE);
        c.due("MINUTE", x.told(2), 1000);
        c.due("one more", Check.book(x, "minute 1;", 0), 0);
    }

    private static void undoing() {
        BathMinutes x = Check.with(ROOM);
        x.start(0);
        x.start(0);
        x.take(1);
        x.again(1);
        x.renew(1);
        x.minutes(61);
        x.drawn(0, 1);
        c.due("only what was done", x.undo(), 0);
        c.due("undone", x.now(1), 7);
        c.due("had", x.bath(0, 2), 0);
        c.due("none", x.undo(), NONE);
        x.start(0);
        x.take(0);
        x.renew(0);
        x.again(0);
        x.minutes(4);
        x.drawn(3, 5);
        c.due("drawn", x.undo(), 5);
        c.due("MINUTE", x.now(0), 4);
        c.due("minutes", x.undo(), 4);
        c.due("MINUTE", x.now(0), 0);
        c.due("WAITING", x.now(1), 7);
        c.due("again", x.undo(), 3);
        c.due("SPOILT", x.now(4), 1);
        c.due("renew", x.undo(), 2);
        c.due("had", x.bath(0, 2), 1);
        c.due("can be made fresh", x.now(7), 1);
        c.due("take", x.undo(), 1);
        c.due("in", x.now(2), 1);
        c.due("start", x.undo(), 0);
        c.due("none", x.undo(), NONE);
        for (int i = 1; i <= 10; i++) {
            x.minutes(i);
        }
        // a call that does nothing drops nothing
        x.take(2);
        for (int i = 7; i >= 0; i--) {
            c.due("undo", x.undo(), i);
        }
        c.due("eight at most", x.undo(), NONE);
        c.due("MINUTE", x.now(0), 3);
        c.due("judged", Check.book(x, "start ada;", 0), NONE);
        c.due("none", x.undo(), NONE);
        c.due("none lived", Check.book(x, "take ada;", 1), 0);
        c.due("none", x.undo(), NONE);
        c.due("one lived", Check.book(x, "start ada; start ada;", 1), 1);
        c.due("undo", x.undo(), 0);
        c.due("WAITING", x.now(1), 7);
    }

    private static void when() {
        BathMinutes x = Check.with(ROOM);
        c.due("WAITING", x.when(0), NONE);
        x.start(0);
        c.due("when", x.when(0), 8);
        x.minutes(7);
        c.due("when", x.when(0), 1);
        x.minutes(1);
        c.due("DONE", x.when(0), 0);
        x.start(1);
        x.take(1);
        c.due("SPOILT", x.when(1), NONE);
        c.due("no such one", x.when(3), NONE);
        c.due("no such one", x.when(-1), NONE);
        // used up for ever: held, then SPOILT
        x = Check.with("bath a 1 9; bath b 1 1; paper p 1 2; sheet s p; sheet t p; spare 9;");
        x.start(0);
        x.minutes(1);
        x.start(1);
        c.due("it goes", x.when(0), 2);
        c.due("it will be SPOILT", x.when(1), NONE);
    }

    private static void clear() {
        BathMinutes x = Check.with("bath a 1 9; bath b 1 9; paper p 2 5; sheet s p; sheet t p; sheet u p;");
        c.due("now", x.clear(0), 0);
        x.start(0);
        // S is in A for 2, in B from 2 to 7: T may come into B at 7 at the soonest, so into A at 5
        c.due("clear", x.clear(1), 5);
        c.due("not WAITING", x.clear(0), NONE);
        c.due("no such one", x.clear(3), NONE);
        c.due("no such one", x.clear(-1), NONE);
        x.minutes(3);
        c.due("clear", x.clear(1), 2);
        // with 'spare' it may be OVER in A: at 4 it is, at 3 it would be SPOILT
        x = Check.with("bath a 1 9; bath b 1 9; paper p 2 5; sheet s p; sheet t p; spare 1;");
        x.start(0);
        c.due("clear with spare", x.clear(1), 4);
        // R goes ahead of S in B and would have S SPOILT
        x = Check.with("bath a 1 9; bath b 1 9; paper p 4 3; paper q 0 6; sheet s p; sheet r q;");
        x.start(0);
        c.due("none is SPOILT by it", x.clear(1), 7);
        // one that will be SPOILT in any case is no matter
        x = Check.with("bath a 2 9; bath b 1 1; bath d 1 9; paper p 3 1 0; paper q 0 0 4; sheet s p; sheet t p; sheet u q;");
        x.start(0);
        x.start(1);
        c.due("SPOILT in any case", x.clear(2), 0);
        // 60 MINUTES are told yet
        x = Check.with("bath a 1 9; bath b 1 9; paper p 30 30; paper r 0 30; sheet s p; sheet t r; sheet u r;");
        x.start(0);
        c.due("its BATH is free till then", x.clear(1), 0);
        x.minutes(1);
        c.due("free again behind 59", x.clear(1), 59);
        x.undo();
        x.start(1);
        c.due("60", x.clear(2), 60);
        // 61 are not: A is weak for S, which is in B from 31 to 61 then
        x = Check.with("bath a 1 2; bath b 1 9; paper p 30 30; paper r 0 30; sheet s p; sheet t r; sheet u r; sheet v p; weak 1;");
        x.start(3);
        x.take(3);
        x.start(0);
        x.start(1);
        c.due("61", x.clear(2), NONE);
        x.minutes(1);
        c.due("60", x.clear(2), 60);
        // behind 10 MINUTES S is in A for 20 more; V would be in D for 30 from 1 on
        x = Check.with("bath a 1 9; bath b 1 9; bath d 1 9; paper p 30 0 30; paper q 1 0 0; paper r 0 0 5; paper t 0 1 30; "
            + "sheet s p; sheet u r; sheet v t;");
        x.start(0);
        x.minutes(10);
        c.due("D is free till then", x.clear(1), 0);
        c.due("too long ahead of S", x.clear(2), 49);
        // S will be SPOILT in MINUTE 204 from now, with V or without it; V waits for U in F
        x = Check.with("bath a 1 2; bath b 1 2; bath d 1 2; bath e 1 2; bath f 1 4; bath g 1 1; paper p 30 30 30 30 30 1; "
            + "paper q 1 1 1 1 1 1; paper r 0 0 0 0 30 0; paper w 0 0 0 0 5 0; "
            + "sheet s p; sheet t q; sheet u r; sheet v w; weak 9; spare 9;");
        x.start(1);
        x.minutes(20);
        x.start(0);
        x.start(2);
        c.due("S is held in 203", x.load(4, 200), 1);
        c.due("SPOILT in any case by then", x.clear(3), 30);
        // not DONE 200 MINUTES behind
        x = Check.with("bath a 1 9; bath b 1 9; bath d 1 9; bath e 1 9; bath f 1 9; bath g 1 9; "
            + "paper p 30 30 30 30 30 30; paper q 30 30 30 30 30 29; sheet s p; sheet t q; weak 4;");
        c.due("180 MINUTES", x.clear(0), 0);
        x = Check.with("bath a 1 2; bath b 1 2; bath d 1 2; bath e 1 2; bath f 1 2; bath g 1 2; "
            + "paper p 30 30 30 30 30 30; paper q 1 1 1 1 1 1; sheet s p; sheet t q; weak 4;");
        x.start(1);
        x.minutes(20);
        c.due("204 MINUTES", x.clear(0), NONE);
        x = Check.with("bath a 1 2; bath b 1 2; bath d 1 2; bath e 1 2; bath f 1 2; bath g 1 9; "
            + "paper p 30 30 30 30 30 30; paper q 1 1 1 1 1 1; sheet s p; sheet t q; weak 4;");
        x.start(1);
        x.minutes(20);
        c.due("200 MINUTES", x.clear(0), 0);
        c.due("an ORDER of 200 MINUTES", order(x, 0), 200);
    }

    private static int order(BathMinutes x, int... sheets) {
        Check.bytes(x, sheets);
        return x.order();
    }

    private static void row(BathMinutes x, String call, int[] at, int[] when) {
        for (int k = 0; k < at.length; k++) {
            c.due(call + " at " + k, x.orderAt(k), at[k]);
            c.due(call + " when " + k, x.orderWhen(k), when[k]);
        }
        for (int k : new int[] {-1, at.length}) {
            c.due(call + " at " + k, x.orderAt(k), NONE);
            c.due(call + " when " + k, x.orderWhen(k), NONE);
        }
    }

    private static void order() {
        // JOHNSON's rule: P (5, 1) and Q (1, 5): Q first, done at 1 + 5 + 1
        BathMinutes x = Check.with("bath a 1 99; bath b 1 99; paper p 5 1; paper q 1 5; sheet s p; sheet t q; sheet u p;");
        c.due("order", order(x, 0, 1), 7);
        row(x, "order", new int[] {1, 0}, new int[] {0, 1});
        c.due("tape is empty", x.count(6), 0);
        c.due("order the other way round", order(x, 1, 0), 7);
        row(x, "order", new int[] {1, 0}, new int[] {0, 1});
        c.due("alike ones: the least first", order(x, 2, 0), 11);
        row(x, "alike", new int[] {0, 2}, new int[] {0, 5});
        c.due("one", order(x, 2), 6);
        row(x, "one", new int[] {2}, new int[] {0});
        c.due("none", order(x), NONE);
        c.due("four", order(x, 0, 1, 2, 0), NONE);
        c.due("alike", order(x, 1, 1), NONE);
        c.due("alike, apart", order(x, 1, 0, 1), NONE);
        c.due("no such one", order(x, 3), NONE);
        c.due("no such one", order(x, 255), NONE);
        c.due("empty in any case", x.count(6), 0);
        row(x, "what was told stays", new int[] {2}, new int[] {0});
        x.start(0);
        c.due("not WAITING", order(x, 0), NONE);
        Check.room(x, "spare 1;");
        row(x, "it stays with a new ROOM", new int[] {2}, new int[] {0});
        // in the same MINUTE
        x = Check.with("bath a 2 99; paper p 5; paper q 0; sheet s p; sheet t p; sheet u q;");
        c.due("at once", order(x, 0, 1, 2), 5);
        row(x, "at once", new int[] {0, 1, 2}, new int[] {0, 0, 0});
        c.due("DONE by its START", order(x, 2), 0);
        // in no row: A LASTS for one
        x = Check.with("bath a 1 1; paper p 5; sheet s p; sheet t p;");
        c.due("in no row", order(x, 0, 1), NONE);
        c.due("one of them", order(x, 1), 5);
    }

    private static void orderOfAll() {
        // three by JOHNSON's rule: P (3, 6), Q (5, 2), R (1, 2): R, P, Q
        BathMinutes x = Check.with("bath a 1 99; bath b 1 99; paper p 3 6; paper q 5 2; paper r 1 2; sheet s p; sheet t q; sheet u r;");
        // R 0-1, 1-3; P starts at 1: A 1-4, B 4-10; Q starts at 5: A 5-10, B 10-12
        c.due("order of three", order(x, 0, 1, 2), 12);
        row(x, "three", new int[] {2, 0, 1}, new int[] {0, 1, 5});
    }

    private static void need() {
        BathMinutes x = Check.with("bath a 1 2; bath b 1 1; bath d 4 3; paper p 1 1 1; paper q 1 0 1; "
            + "sheet s p; sheet t p; sheet u p; sheet v q; sheet w q; spare 9;");
        c.due("need of A: 5 by 2", x.bath(0, 5), 2);
        c.due("need of B: 3 by 1", x.bath(1, 5), 2);
        c.due("need of D: 5 by 3", x.bath(2, 5), 1);
        x.start(0);
        c.due("A has had one: 4 come", x.bath(0, 5), 2);
        c.due("B: still 3", x.bath(1, 5), 2);
        x.minutes(1);
        // S is in B now: 2 come, none is left of B
        c.due("need of B", x.bath(1, 5), 2);
        c.due("D: 5 yet", x.bath(2, 5), 1);
        x.minutes(1);
        c.due("D has had one: 4 come, 2 are left", x.bath(2, 5), 1);
        x.start(3);
        x.take(3);
        c.due("SPOILT ones don't come: 3, 2 are left", x.bath(2, 5), 1);
        c.due("A has had two: 3 come", x.bath(0, 5), 2);
        x.renew(0);
        c.due("A is fresh: 3 come", x.bath(0, 5), 1);
    }

    private static void jam() {
        BathMinutes x = Check.with("bath a 2 9; bath b 1 9; bath d 4 9; paper p 4 3 9; paper q 4 1 6; sheet s p; sheet t q;");
        // A: 8 by 2, B: 4 by 1, D: 15 by 4
        c.due("of like ones the first", x.jam(), 0);
        x.start(1);
        // A: 4 by 2, B: 3, D: 9 by 4
        c.due("jam", x.jam(), 1);
        x.start(0);
        c.due("none is WAITING", x.jam(), 0);
        x = Check.with("bath a 3 9; bath b 4 9; paper p 5 7; sheet s p;");
        c.due("5 by 3 are fewer than 7 by 4", x.jam(), 1);
        x = Check.with("bath a 3 9; bath b 4 9; paper p 0 0; ");
        c.due("no SHEETS", x.jam(), 0);
    }

    private static int who(BathMinutes x, int... pairs) {
        Check.bytes(x, pairs);
        return x.who();
    }

    private static void whoAndAsk() {
        BathMinutes x = Check.with("bath a 1 9; bath b 1 9; bath d 1 9; paper p 3 1 4; paper q 3 1 5; paper r 3 2 5; paper t 2 2 0; "
            + "sheet aa p; sheet bb q; sheet cc r; sheet dd t; sheet ee p;");
        c.due("ask ahead of any", x.ask(), NONE);
        c.due("who", who(x, 0, 3), 0b10111);
        c.due("tape", x.count(6), 0);
        // A: all four alike; B: 3; D: 2
        c.due("ask", x.ask(), 2);
        c.due("who", who(x, 1, 2), 0b01100);
        // A: 1; B: 2; D: 1
        c.due("of like ones the first", x.ask(), 0);
        c.due("who", who(x, 0, 3, 2, 5), 0b00110);
        c.due("ask", x.ask(), 1);
        c.due("nobody", who(x, 0, 3, 0, 2), 0);
        c.due("above 0 alone", x.ask(), 1);
        c.due("the same twice", who(x, 0, 3, 0, 3), 0b10111);
        c.due("0 minutes", who(x, 2, 0), 0b01000);
        c.due("one", x.ask(), 0);
        c.due("SHEET 0 alone", who(Check.with("bath a 1 9; paper p 3; sheet s p;"), 0, 3), 1);
        c.due("a byte above 127", who(x, 0, 131), 0);
        c.due("six", who(x, 0, 3, 1, 1, 2, 4, 0, 3, 1, 1, 2, 4), 0b10001);
        c.due("none", who(x), NONE);
        c.due("odd", who(x, 0, 3, 1), NONE);
        c.due("seven", who(x, 0, 3, 0, 3, 0, 3, 0, 3, 0, 3, 0, 3, 0, 3), NONE);
        c.due("no such BATH", who(x, 3, 0), NONE);
        c.due("no such BATH", who(x, 0, 3, 255, 0), NONE);
        c.due("tape", x.count(6), 0);
        c.due("ask by the latest", x.ask(), 0);
        who(x, 0, 3);
        Check.room(x, "spare 1;");
        c.due("what was told stays", x.ask(), 2);
        c.due("no BATHS", who(x, 0, 0), NONE);
        x = Check.with("bath a 1 1; bath b 1 1; paper p 3 1; paper q 3 2; sheet s p; sheet t q;");
        who(x, 0, 3);
        c.due("by B they differ", x.ask(), 1);
        c.due("SHEET 0", who(x, 1, 1), 1);
        c.due("one is left in any case", x.ask(), 0);
        x = Check.with("bath a 1 1; paper p 1;");
        c.due("no SHEETS", who(x, 0, 1), 0);
        c.due("ask", x.ask(), NONE);
    }

    private static void near() {
        BathMinutes x = Check.with("bath a 1 9; bath b 1 9; paper p 3 3; paper q 5 2; paper r 1 4; paper t 9 9;");
        // from P: Q 3, R 3, T 12; from Q: P 3, R 6, T 11; from T: P 12, Q 11, R 13
        c.due("of like ones the first", x.near(0), 1);
        c.due("near", x.near(1), 0);
        c.due("near", x.near(2), 0);
        c.due("near", x.near(3), 1);
        c.due("no such one", x.near(4), NONE);
        c.due("no such one", x.near(-1), NONE);
        c.due("no other one", Check.with("bath a 1 1; paper p 1;").near(0), NONE);
        c.due("alike ones", Check.with("paper p; paper q; paper r;").near(2), 0);
    }

    private static void gapAndChain() {
        BathMinutes x = Check.with("bath a 4 1; bath b 4 1; bath d 4 1; paper p 3 1 4; paper q 2 0 5; paper r 0 9 0; weak 9;");
        // P: A 0-3, B 3-4, D 4-8; Q behind: D from g + 2 on, A from g on: g is 6; P behind P: D: 4
        c.due("gap(0, 1)", x.gap(0, 1), 6);
        c.due("gap(0, 0)", x.gap(0, 0), 4);
        // Q: A 0-2, D 2-7; P behind: A from 2 on, D g + 4 from 7 on
        c.due("gap(1, 0)", x.gap(1, 0), 3);
        c.due("gap(1, 1)", x.gap(1, 1), 5);
        // P is in B from 3 to 4: R can't be there ahead of it, as it takes 9
        c.due("gap(0, 2)", x.gap(0, 2), 4);
        c.due("gap(2, 2)", x.gap(2, 2), 9);
        // R is in B till 9: P comes there behind 3
        c.due("gap(2, 0)", x.gap(2, 0), 6);
        c.due("gap(1, 2)", x.gap(1, 2), 0);
        c.due("gap(2, 1)", x.gap(2, 1), 0);
        c.due("no such ones", x.gap(3, 0), NONE);
        c.due("no such ones", x.gap(0, 3), NONE);
        c.due("no such ones", x.gap(-1, 0), NONE);
        c.due("no such ones", x.gap(0, -1), NONE);
        // P Q R: 6 + 0; P R Q: 4 + 0; Q P R: 3 + 4; Q R P: 0 + 6; R P Q: 6 + 6; R Q P: 0 + 3
        c.due("chain", x.chain(), 3);
        int[] row = {2, 1, 0};
        for (int k = 0; k < 3; k++) {
            c.due("chainAt " + k, x.chainAt(k), row[k]);
        }
        c.due("chainAt(3)", x.chainAt(3), NONE);
        c.due("chainAt(-1)", x.chainAt(-1), NONE);
        Check.room(x, "bath a 1 1; paper p 1; paper q 1;");
        c.due("what was told stays", x.chainAt(0), 2);
        c.due("chain", x.chain(), 1);
        c.due("of like ones the first", x.chainAt(0), 0);
        c.due("of like ones the first", x.chainAt(1), 1);
        c.due("chainAt(2)", x.chainAt(2), NONE);
        Check.room(x, "bath a 1 1; paper p 1;");
        c.due("chain of one", x.chain(), 0);
        c.due("chainAt(0)", x.chainAt(0), 0);
        c.due("chainAt(1)", x.chainAt(1), NONE);
        // the short one may go ahead in a BATH that the first one asks for later on
        x = Check.with("bath a 1 1; bath b 1 1; paper p 9 1; paper q 0 4; paper r 0 0;");
        c.due("ahead of it", x.gap(0, 1), 0);
        c.due("behind it", x.gap(1, 0), 0);
        c.due("nothing asked", x.gap(2, 2), 0);
        c.due("nothing asked", x.gap(0, 2), 0);
    }

    private static void loadAndBlock() {
        BathMinutes x = Check.with(ROOM);
        x.start(0);
        int[] bathAt = {0, 0, 0, 1, 2, 2, 2, 2, -1};
        for (int k = 0; k < bathAt.length; k++) {
            for (int b = 0; b < 3; b++) {
                c.due("load " + b + " " + k, x.load(b, k), bathAt[k] == b ? 1 : 0);
            }
        }
        c.due("load(0, 200)", x.load(0, 200), 0);
        c.due("load(0, 201)", x.load(0, 201), NONE);
        c.due("load(0, -1)", x.load(0, -1), NONE);
        c.due("load(3, 0)", x.load(3, 0), NONE);
        c.due("load(-1, 0)", x.load(-1, 0), NONE);
        c.due("all stays", x.now(0), 0);
        c.due("block", x.block(0), NONE);
        c.due("block(3)", x.block(3), NONE);
        c.due("block(-1)", x.block(-1), NONE);
        // held by a BATH that nobody is in: it has had as many as it LASTS
        x = Check.with("bath a 1 9; bath b 1 9; bath d 1 1; paper p 1 0 1; sheet s p; sheet t p; spare 9;");
        x.start(0);
        x.minutes(1);
        x.start(1);
        x.minutes(3);
        c.due("held", x.now(5), 2);
        c.due("nobody is in the way", x.block(1), 0);
        // behind a BATH that is not asked for
        x = Check.with("bath a 1 9; bath b 1 9; bath d 2 9; paper p 1 0 9; sheet s p; sheet t p; sheet u p; spare 9;");
        for (int s = 0; s < 3; s++) {
            x.start(s);
            x.minutes(1);
        }
        c.due("two are in the way", x.block(2), 3);
    }

    private static void wearAndMean() {
        BathMinutes x = Check.with("bath a 4 6; bath b 1 9; paper p 2 4; sheet s p; sheet t p; sheet u p; sheet v p; spare 9;");
        c.due("wear", x.wear(0, 0), 0);
        c.due("wear", x.wear(0, 1), 1);
        x.start(0);
        x.start(1);
        c.due("2 by 6", x.wear(0, 0), 1);
        c.due("2 by 6", x.wear(0, 1), 3);
        c.dueThrows("wear(2, 0)", () -> x.wear(2, 0));
        c.dueThrows("wear(-1, 0)", () -> x.wear(-1, 0));
        c.dueThrows("wear(0, 2)", () -> x.wear(0, 2));
        c.dueThrows("wear(0, -1)", () -> x.wear(0, -1));
        c.due("mean", x.mean(0), 0);
        c.due("mean", x.mean(1), 1);
        x.minutes(4);
        // T was OVER for 3: at 2, 3 and 4
        c.due("mean", x.mean(0), 3);
        c.due("mean", x.mean(1), 4);
        x.minutes(1);
        c.due("1 by 1", x.mean(0), 1);
        c.due("1 by 1", x.mean(1), 1);
        x.minutes(1);
        c.due("in B then", x.bath(1, 3), 2);
        c.due("it is not counted any more", x.mean(0), 1);
        c.dueThrows("mean(2)", () -> x.mean(2));
        c.dueThrows("mean(-1)", () -> x.mean(-1));
        BathMinutes y = Check.with("bath a 1 1;");
        c.dueThrows("mean without SHEETS", () -> y.mean(0));
    }

    private static void often() {
        BathMinutes x = Check.with(ROOM);
        c.due("none", x.often(), NONE);
        x.start(2);
        c.due("often", x.often(), 2);
        x.take(2);
        x.start(1);
        c.due("of like ones the first", x.often(), 1);
        x.take(1);
        x.again(2);
        x.start(2);
        c.due("often", x.often(), 2);
        x.undo();
        c.due("undone", x.often(), 1);
    }

    private static void tags() {
        BathMinutes x = Check.with("bath b 1 9; bath abcdefg 1 2; paper p 1 30; sheet zyxwvut p; sheet t p; weak 9; spare 9;");
        c.due("tag", Check.tag(x, 0), "zyxwvut waits");
        x.start(0);
        c.due("tag", Check.tag(x, 0), "zyxwvut in b 1");
        x.minutes(1);
        c.due("tag", Check.tag(x, 0), "zyxwvut in abcdefg 30");
        x.minutes(30);
        c.due("tag", Check.tag(x, 0), "zyxwvut done");
        x.start(1);
        x.minutes(1);
        c.due("tag", Check.tag(x, 1), "t in abcdefg 39");
        x.minutes(29);
        c.due("tag", Check.tag(x, 1), "t in abcdefg 10");
        x.minutes(1);
        c.due("tag", Check.tag(x, 1), "t in abcdefg 9");
        x.take(1);
        c.due("tag", Check.tag(x, 1), "t spoilt");
        c.due("no such one", x.tag(2), NONE);
        c.due("no such one", x.tag(-1), NONE);
        c.due("the latest stays", x.byteAt(2), 's');
        c.due("byteAt(-1)", x.byteAt(-1), NONE);
        c.due("byteAt(7)", x.byteAt(7), 't');
        c.due("byteAt(8)", x.byteAt(8), NONE);
        Check.room(x, "spare 1;");
        c.due("it stays with a new ROOM", x.byteAt(0), 't');
        x = Check.with("bath a 1 9; bath b 1 1; paper p 1 9; sheet s p; sheet t p; spare 9;");
        x.start(0);
        x.minutes(1);
        x.start(1);
        x.minutes(2);
        c.due("held", Check.tag(x, 1), "t in a 0");
    }

    private static int x;

    private static int draw(int n) {
        x = x * 1103515245 + 12345;
        return (x >>> 8) % n;
    }

    /** The same draws, done by the calls of the face. */
    private static void liveByCalls(BathMinutes y, int n, int seed, int sheets, int baths) {
        x = seed;
        for (int i = 0; i < n && y.now(0) < 1000; i++) {
            int what = draw(8);
            if (what < 3 && sheets > 0) {
                y.start(draw(sheets));
            }
            if (what == 3 && sheets > 0) {
                y.again(draw(sheets));
            }
            if (what == 4 && baths > 0) {
                y.renew(draw(baths));
            }
            if (what == 5) {
                if (draw(4) == 0 && sheets > 0) {
                    y.take(draw(sheets));
                }
            }
            y.minutes(1);
        }
    }

    private static void sameState(BathMinutes y, BathMinutes z, int sheets, int baths) {
        for (int what = 0; what < 8; what++) {
            c.due("now " + what, y.now(what), z.now(what));
            for (int s = 0; s < sheets && what < 7; s++) {
                c.due("sheet " + s + " " + what, y.sheet(s, what), z.sheet(s, what));
            }
            for (int b = 0; b < baths && what < 6; b++) {
                c.due("bath " + b + " " + what, y.bath(b, what), z.bath(b, what));
            }
        }
    }

    private static void drawn() {
        for (int seed = -20; seed < 60; seed++) {
            BathMinutes y = Check.with(ROOM);
            BathMinutes z = Check.with(ROOM);
            c.due("drawn", y.drawn(60, seed * 77777777), 60);
            liveByCalls(z, 60, seed * 77777777, 3, 3);
            sameState(y, z, 3, 3);
        }
        BathMinutes y = Check.with("paper p; sheet s p; sheet t p;");
        BathMinutes z = Check.with("paper p; sheet s p; sheet t p;");
        c.due("drawn without BATHS", y.drawn(60, 5), 60);
        liveByCalls(z, 60, 5, 2, 0);
        sameState(y, z, 2, 0);
        c.due("drawn without SHEETS", Check.with("bath a 1 1;").drawn(7, 5), 7);
        c.due("drawn(1)", z.drawn(1, 1), 1);
        c.due("drawn(0)", y.drawn(0, 1), NONE);
        c.due("drawn(61)", y.drawn(61, 1), NONE);
        c.due("undo", y.undo(), 0);
        c.due("MINUTE", y.now(0), 0);
    }

    private static void odds() {
        BathMinutes y = Check.with(ROOM);
        y.start(1);
        y.minutes(1);
        for (int s = 0; s < 3; s++) {
            int done = 0;
            for (int i = 0; i < 30; i++) {
                BathMinutes z = Check.with(ROOM);
                z.start(1);
                z.minutes(1);
                liveByCalls(z, 40, Integer.MAX_VALUE - 9 + i, 3, 3);
                done += z.sheet(s, 1) == 2 ? 1 : 0;
            }
            c.due("odds of " + s, y.odds(s, 30, Integer.MAX_VALUE - 9), done);
        }
        c.due("all stays", y.now(0), 1);
        c.due("undo", y.undo(), 1);
        c.due("odds(3)", y.odds(3, 1, 1), NONE);
        c.due("odds(-1)", y.odds(-1, 1, 1), NONE);
        c.due("odds of 1", Check.with("paper p; sheet s p;").odds(0, 1, 1), 1);
        c.due("odds of 0", y.odds(0, 0, 1), NONE);
        c.due("odds of 31", y.odds(0, 31, 1), NONE);
        // fewer, if MINUTE is 1000 by then: seven MINUTES are too few
        BathMinutes z = Check.with("bath a 1 99; paper p 8; sheet s p;");
        c.due("some are DONE", z.odds(0, 30, 1) > 0, true);
        for (int i = 0; i < 16; i++) {
            z.minutes(60);
        }
        z.minutes(33);
        c.due("none is DONE", z.odds(0, 30, 1), 0);
    }

    private static void toldDue(BathMinutes y, int... due) {
        for (int what = 0; what < 4; what++) {
            c.due("told " + what, y.told(what), due[what]);
        }
        c.due("told(4)", y.told(4), NONE);
        c.due("told(-1)", y.told(-1), NONE);
    }

    private static void books() {
        BathMinutes y = Check.with(ROOM);
        c.due("told ahead of any", y.told(0), NONE);
        c.due("book", Check.book(y, "start ada; minute 8; start bob; minute 1;", 0), NONE);
        toldDue(y, 0, 4, 9, 1);
        c.due("all stays", y.now(1), 7);
        c.due("MINUTE", y.now(0), 0);
        c.due("an empty BOOK", Check.book(y, " ", 1), NONE);
        toldDue(y, 0, 0, 0, 0);
        c.due("nothing to undo", y.undo(), NONE);
        c.due("1", Check.book(y, "start ada; start ada;", 0), 1);
        toldDue(y, 1, 1, 0, 0);
        c.due("2", Check.book(y, "minute 3; start ada; start bob;", 0), 2);
        toldDue(y, 2, 2, 3, 0);
        c.due("11", Check.book(y, "take ada;", 0), 0);
        toldDue(y, 11, 0, 0, 0);
        c.due("21", Check.book(y, "start ada; again ada;", 0), 1);
        toldDue(y, 21, 1, 0, 0);
        c.due("31", Check.book(y, "renew dev;", 0), 0);
        toldDue(y, 31, 0, 0, 0);
        c.due("33", Check.book(y, "start ada; renew dev;", 0), 1);
        toldDue(y, 33, 1, 0, 0);
        c.due("32", Check.book(y, "start ada; take ada; renew dev; again ada; start ada; take ada; renew dev;", 0), 6);
        toldDue(y, 32, 6, 0, 0);
        c.due("-1000", Check.book(y, "start ada;", 2), -1000);
        c.due("the tape stays", y.count(6), 10);
        c.due("-1000", y.book(-1), -1000);
        toldDue(y, 32, 6, 0, 0);
        c.due("lived", y.book(1), NONE);
        c.due("tape", y.count(6), 0);
        c.due("in", y.now(2), 1);
        c.due("lived as far as it is not WRONG", Check.book(y, "minute 2; take ada; take ada; minute 5;", 1), 2);
        toldDue(y, 11, 2, 2, 0);
        c.due("MINUTE", y.now(0), 2);
        c.due("SPOILT", y.now(4), 1);
        c.due("undo", y.undo(), 1);
        c.due("in", y.now(2), 1);
        c.due("MINUTE", y.now(0), 0);
        c.due("told stays", y.told(0), 11);
    }

    private static void bookFault(String text, int place, int kind) {
        BathMinutes y = Check.with(ROOM);
        Check.book(y, "take ada;", 0);
        c.due("book of '" + text + "'", Check.book(y, text, 1), -2 - place);
        c.due("fault of '" + text + "'", y.fault(), kind);
        c.due("tape", y.count(6), 0);
        c.due("nothing is lived", y.now(1), 7);
        toldDue(y, 11, 0, 0, 0);
        Check.text(y, "done");
        y.book(7);
        c.due("book(-1000) leaves it", y.fault(), kind);
        y.sentence();
        c.due("the latest one", y.fault(), 0);
    }

    private static void bookFaults() {
        bookFault("start ada", 9, 1);
        bookFault("start ada; bath", 11, 1);
        bookFault("start ada; ada;", 11, 1);
        bookFault("start;", 5, 1);
        bookFault("start 3;", 6, 1);
        bookFault("start done;", 6, 1);
        bookFault("start ada bob;", 10, 1);
        bookFault("minute ada;", 7, 1);
        bookFault("minute 0;", 7, 2);
        bookFault("minute 61;", 7, 2);
        bookFault("start dora;", 6, 3);
        bookFault("start dev;", 6, 3);
        bookFault("take pearl;", 5, 3);
        bookFault("again fix;", 6, 3);
        bookFault("renew ada;", 6, 3);
        bookFault("renew pearl;", 6, 3);
        StringBuilder forty = new StringBuilder();
        for (int i = 0; i < 40; i++) {
            forty.append("minute 1;");
        }
        BathMinutes y = Check.with(ROOM);
        c.due("forty LINES", Check.book(y, forty.toString(), 0), NONE);
        c.due("told", y.told(1), 40);
        bookFault(forty + "minute 1;", 360, 4);
        bookFault(forty + " take 7", 361, 4);
        bookFault(forty + "7", 360, 1);
        c.due("60", Check.book(y, "minute 60;", 0), NONE);
    }

    private static void said(BathMinutes y, String text, int ones, int... sheets) {
        c.due("sentence '" + text + "'", Check.sentence(y, text), ones);
        c.due("fault of '" + text + "'", y.fault(), 0);
        c.due("said '" + text + "'", y.said(-1), sheets.length);
        for (int k = 0; k < sheets.length; k++) {
            c.due("said '" + text + "' " + k, y.said(k), sheets[k]);
        }
        c.due("said '" + text + "', one more", y.said(sheets.length), NONE);
        c.due("said '" + text + "', -2", y.said(-2), NONE);
    }

    private static void sentences() {
        BathMinutes y = Check.with("bath a 2 9; bath b 1 9; paper p 2 9; paper q 3 1; sheet r p; sheet s p; sheet t q; sheet u q; sheet v q; spare 5;");
        c.due("no SENTENCE", y.said(-1), NONE);
        c.due("no SENTENCE", y.said(0), NONE);
        y.start(0);
        y.take(0);
        y.start(1);
        y.start(2);
        y.minutes(5);
        // R is SPOILT; S is in B with 6 LEFT; T is held in A, OVER for 3; U, V are WAITING
        said(y, "waiting", 1, 3, 4);
        said(y, "spoilt", 1, 0);
        said(y, "done", 1);
        said(y, "held", 1, 2);
        said(y, "in a", 1, 2);
        said(y, "in b", 1, 1);
        said(y, "of p", 1, 0, 1);
        said(y, "of q", 1, 2, 3, 4);
        said(y, "left = 0", 1, 0, 2, 3, 4);
        said(y, "left > 5", 1, 1);
        said(y, "left > 6", 1);
        said(y, "left < 6", 1, 0, 2, 3, 4);
        said(y, "left<007", 1, 0, 1, 2, 3, 4);
        said(y, "over = 3", 1, 2);
        said(y, "over > 0", 1, 2);
        said(y, "over < 1", 1, 0, 1, 3, 4);
        said(y, "tries = 1", 1, 0, 1, 2);
        said(y, "tries < 1", 1, 3, 4);
        said(y, "number > 3", 1, 4);
        said(y, "number = 0", 1, 0);
        said(y, "number < 999", 1, 0, 1, 2, 3, 4);
        said(y, "not waiting", 2, 0, 1, 2);
        said(y, "not not waiting", 3, 3, 4);
        said(y, "(waiting)", 2, 3, 4);
        said(y, "not (waiting or held)", 4, 0, 1);
        said(y, "not waiting or held", 3, 0, 1, 2);
        // 'and' joins more closely than 'or'
        said(y, "waiting or held and of p", 3, 3, 4);
        said(y, "of p and waiting or held", 3, 2);
        said(y, "(waiting or held) and number < 3", 4, 2);
        said(y, "waiting and number = 3 or spoilt or in b and left = 6", 5, 0, 1, 3);
        said(y, "not waiting and not spoilt", 4, 1, 2);
        y.minutes(6);
        // S is DONE in MINUTE 11; T was SPOILT
        said(y, "done", 1, 1);
        said(y, "over = 5 and spoilt", 2, 2);
        y.again(2);
        said(y, "over = 5 and waiting", 2, 2);
        y.start(2);
        said(y, "over = 0 and tries = 2", 2, 2);
        y.undo();
        c.due("as it is now", y.said(-1), 0);
        BathMinutes z = new BathMinutes();
        c.due("without SHEETS", Check.sentence(z, "not done"), 2);
        c.due("without SHEETS", z.said(-1), 0);
    }

    private static void sentenceFault(String text, int place, int kind) {
        BathMinutes y = Check.with(ROOM);
        Check.sentence(y, "number = 1");
        c.due("sentence of '" + text + "'", Check.sentence(y, text), -1 - place);
        c.due("fault of '" + text + "'", y.fault(), kind);
        c.due("tape", y.count(6), 0);
        c.due("it stays", y.said(0), 1);
    }

    private static String times(String text, int n) {
        StringBuilder t = new StringBuilder();
        for (int i = 0; i < n; i++) {
            t.append(text);
        }
        return t.toString();
    }

    private static void sentenceFaults() {
        sentenceFault("", 0, 1);
        sentenceFault("done and", 8, 1);
        sentenceFault("done done", 5, 1);
        sentenceFault("done;", 4, 1);
        sentenceFault("and done", 0, 1);
        sentenceFault("ada", 0, 1);
        sentenceFault("(done", 5, 1);
        sentenceFault("done)", 4, 1);
        sentenceFault("()", 1, 1);
        sentenceFault("not", 3, 1);
        sentenceFault("in done", 3, 1);
        sentenceFault("in 3", 3, 1);
        sentenceFault("in ada", 3, 3);
        sentenceFault("in pearl", 3, 3);
        sentenceFault("in nowhere", 3, 3);
        sentenceFault("in nosuch", 3, 3);
        sentenceFault("of dev", 3, 3);
        sentenceFault("of ada", 3, 3);
        sentenceFault("left 3", 5, 1);
        sentenceFault("left <", 6, 1);
        sentenceFault("left ( 3", 5, 1);
        sentenceFault("left < = 3", 7, 1);
        sentenceFault("left < x", 7, 1);
        sentenceFault("left < 1000", 7, 1);
        sentenceFault("number done", 7, 1);
        sentenceFault("start", 0, 1);
        sentenceFault("done or . ", 8, 1);
        BathMinutes y = Check.with(ROOM);
        c.due("eight within one another", Check.sentence(y, times("not ", 7) + "done"), 8);
        c.due("eight within one another", Check.sentence(y, times("(", 7) + "done" + times(")", 7)), 8);
        sentenceFault(times("not ", 8) + "done", 32, 4);
        sentenceFault(times("not ", 8) + "foo", 32, 1);
        sentenceFault(times("(", 8) + "done" + times(")", 8), 8, 4);
        sentenceFault(times("(not ", 4) + "held", 20, 4);
        c.due("side by side", Check.sentence(y, times("not ", 7) + "done or " + times("not ", 7) + "held"), 16);
        c.due("twenty", Check.sentence(y, "done" + times(" or done", 19)), 20);
        c.due("all of them", y.said(-1), 0);
        c.due("twenty", Check.sentence(y, "(done)" + times("and(done)", 9)), 20);
        sentenceFault("done" + times(" or done", 20), 160, 4);
        sentenceFault("(done)" + times("and(done)", 9) + "or held", 90, 4);
        sentenceFault("(done)" + times("and(done)", 9) + "or not held", 90, 4);
        sentenceFault("(done)" + times("and(done)", 9) + "or(held)", 89, 4);
        sentenceFault("(done)" + times("and(done)", 9) + "or )", 90, 1);
        sentenceFault("(done)" + times("and(done)", 9) + ")", 87, 1);
    }

    private static void images() {
        BathMinutes y = Check.with(ROOM);
        c.due("nothing is kept", y.restore(0), false);
        c.due("image(2)", y.image(2), false);
        c.due("image(-1)", y.image(-1), false);
        c.due("restore(2)", y.restore(2), false);
        c.due("restore(-1)", y.restore(-1), false);
        Check.sentence(y, "waiting");
        y.start(0);
        y.minutes(2);
        c.due("image", y.image(1), true);
        c.due("nothing is kept in 0", y.restore(0), false);
        c.due("it can be undone yet", y.undo(), 1);
        Check.room(y, "bath q 4 9; paper p 1; sheet s p;");
        y.minutes(7);
        c.due("image", y.image(0), true);
        order(y, 0);
        y.tag(0);
        Check.text(y, "done");
        c.due("restore", y.restore(1), true);
        c.due("the tape stays", y.count(6), 4);
        c.due("nothing can be undone", y.undo(), NONE);
        c.due("MINUTE", y.now(0), 2);
        c.due("in DEV", y.bath(0, 3), 1);
        c.due("LEFT", y.sheet(0, 3), 1);
        c.due("HOLDS", y.bath(2, 0), 2);
        c.due("asks", y.asks(1, 2), 5);
        c.due("the SENTENCE", y.said(-1), 2);
        c.due("'weak'", y.count(4), 2);
        c.due("what was told stays", y.orderAt(0), 0);
        c.due("what was told stays", y.byteAt(0), 's');
        c.due("NAMES", Check.tag(y, 1), "bob waits");
        y.minutes(6);
        c.due("DONE", y.now(3), 1);
        c.due("restore once more", y.restore(1), true);
        c.due("as kept", y.now(3), 0);
        c.due("restore", y.restore(0), true);
        c.due("no SENTENCE there", y.said(-1), NONE);
        c.due("MINUTE", y.now(0), 7);
        c.due("BATHS", y.count(0), 1);
        c.due("its NAME", Check.tag(y, 0), "s waits");
        y.start(0);
        c.due("kept anew", y.image(0), true);
        y.undo();
        y.restore(0);
        c.due("as kept anew", y.now(2), 1);
    }

    private static void constants() {
        c.due("NONE", BathMinutes.NONE, -1);
    }
}
