import java.util.ArrayDeque;

/** The edges of what is fed, told and done: promises 1 to 15, 31 to 36 and 38 to 44. */
public final class EdgesTest {
    private static final int NONE = BathMinutes.NONE;
    private static final int LEAST = Integer.MIN_VALUE;
    private static final int MOST = Integer.MAX_VALUE;
    private static final String EIGHT = "sheet sa p; sheet sb p; sheet sc p; sheet sd p; sheet se p; sheet sf p; sheet sg p; sheet sh p;";

    private static final Check c = new Check("EdgesTest");

    public static void main(String[] args) {
        newObject();
        objectsApart();
        bytesOfANumber();
        fullTape();
        endOfTape();
        newRoom();
        open();
        need();
        asks();
        sheet();
        nothingOfOthers();
        now();
        start();
        takeAndAgain();
        renew();
        spareMinutes();
        overInAll();
        weak();
        minutes();
        thousand();
        undo();
        undoOfEach();
        undoByTurns();
        bookUndone();
        wear();
        mean();
        meanOfAll();
        often();
        tag();
        drawn();
        drawnOfFew();
        book();
        told();
        said();
        images();
        imagesOfRooms();
        count();
        c.end();
    }

    private static void newObject() {
        BathMinutes x = new BathMinutes();
        c.due("an empty tape", x.end(1), false);
        c.due("an empty tape", x.end(0), true);
        int[] counts = {0, 0, 0, 0, 0, 5, 0};
        int[] now = {0, 0, 0, 0, 0, 0, 0, 5};
        for (int what = 0; what < 8; what++) {
            c.due("count " + what, x.count(what), what < 7 ? counts[what] : NONE);
            c.due("now " + what, x.now(what), now[what]);
        }
        c.due("fault", x.fault(), 0);
        c.due("an empty tape is a ROOM", x.room(), 0);
        x = new BathMinutes();
        c.due("an empty tape is a BOOK", x.book(0), NONE);
        c.due("told of it", x.told(0) * 1000 + x.told(1) * 100 + x.told(2) * 10 + x.told(3), 0);
        x = new BathMinutes();
        c.due("an empty tape is no SENTENCE", x.sentence(), -1);
        c.due("its FAULT", x.fault(), 1);
        c.due("a SENTENCE", Check.sentence(x, "not done or held"), 3);
        c.due("said of no SHEETS", x.said(NONE), 0);
        c.due("said of no SHEETS", x.said(0), NONE);
        c.due("no BATH is told", Check.sentence(x, "in a"), -4);
        c.due("no PAPER is told", Check.sentence(x, "of a"), -4);
        c.due("a BOOK", Check.book(x, "minute 60; minute 60;", 1), NONE);
        c.due("MINUTE", x.now(0), 120);
        c.due("undo", x.undo(), 0);
        c.due("minutes", x.minutes(60), 60);
        c.due("drawn", x.drawn(60, MOST), 60);
        c.due("MINUTE", x.now(0), 120);
        c.due("chain", x.chain(), 0);
        c.due("image", x.image(0), true);
        c.due("restore", x.restore(0), true);
        c.due("MINUTE", x.now(0), 120);
        c.due("nothing can be undone", x.undo(), NONE);
        c.due("NONE", BathMinutes.NONE, -1);
    }

    private static void objectsApart() {
        BathMinutes x = Check.with("bath a 1 9; paper p 3; sheet s p;");
        BathMinutes y = new BathMinutes();
        x.start(0);
        x.minutes(2);
        Check.text(x, "done");
        c.due("another object", y.count(0) + y.count(2) + y.count(6) + y.now(0), 0);
        Check.room(y, "spare 7;");
        c.due("the first one", x.count(3) * 100 + x.count(6) * 10 + x.now(0), 42);
        c.due("the first one", x.sheet(0, 3), 1);
    }

    /** Of twenty bytes each has its own place: of each number the highest first, none with a sign. */
    private static void bytesOfANumber() {
        for (int at = 0; at < 20; at++) {
            for (int b : new int[] {0, 1, 11, 33, 127, 128, 200, 255}) {
                int[] five = {0x20202020, 0x20202020, 0x20202020, 0x20202020, 0x20202020};
                int shift = 24 - at % 4 * 8;
                five[at / 4] = five[at / 4] & ~(255 << shift) | b << shift;
                BathMinutes x = new BathMinutes();
                c.due("feed", x.feed(five[0], five[1], five[2], five[3], five[4]), 20);
                c.due("byte " + b + " at " + at, x.room(), -1 - at);
            }
        }
        BathMinutes x = Check.with("bath a 1 9; paper p 3; sheet s p;");
        x.feed(LEAST, -1, MOST, 0, 1);
        c.due("twenty bytes", x.count(6), 20);
        x.end(2);
        c.due("LEAST begins by 128, 0", x.who(), NONE);
        // 0, 3, of which the higher ones of the number go first
        x.feed(0x00030000, LEAST, LEAST, -1, -1);
        x.end(2);
        c.due("0, 3", x.who(), 1);
        x.feed(0x00000003, LEAST, LEAST, -1, -1);
        x.end(2);
        c.due("0, 0", x.who(), 0);
    }

    private static void fullTape() {
        BathMinutes x = new BathMinutes();
        for (int i = 1; i <= 47; i++) {
            c.due("feed " + i, x.feed(-1, -1, -1, -1, -1), 20 * i);
            c.due("count(6)", x.count(6), 20 * i);
        }
        c.due("960 would be more than 940", x.feed(-1, -1, -1, -1, -1), NONE);
        c.due("none come", x.count(6), 940);
        for (int n : new int[] {939, 930, 922, 921}) {
            c.due("end", x.end(n), true);
            c.due("more than 940", x.feed(0, 0, 0, 0, 0), NONE);
            c.due("none come", x.count(6), n);
        }
        c.due("end", x.end(920), true);
        c.due("940 are taken", x.feed(0, 0, 0, 0, 0), 940);
        x.end(919);
        c.due("939 are taken", x.feed(0, 0, 0, 0, 0), 939);
        c.due("room", x.room(), -1);
        c.due("empty with a FAULT, too", x.feed(0, 0, 0, 0, 0), 20);
    }

    private static void endOfTape() {
        BathMinutes x = new BathMinutes();
        for (int length : new int[] {0, 20, 940}) {
            x.end(0);
            for (int i = 0; i < length / 20; i++) {
                x.feed(0, 0, 0, 0, 0);
            }
            for (int n : new int[] {LEAST, -2, -1, length + 1, length + 2, 941, MOST}) {
                c.due("end " + n + " of " + length, x.end(n), false);
                c.due("it stays", x.count(6), length);
            }
            c.due("end of all " + length, x.end(length), true);
            c.due("it stays", x.count(6), length);
            if (length > 0) {
                c.due("one fewer", x.end(length - 1), true);
                c.due("one fewer", x.count(6), length - 1);
                c.due("it is gone", x.end(length), false);
                c.due("one alone", x.end(1), true);
                c.due("one alone", x.count(6), 1);
            }
            c.due("none", x.end(0), true);
            c.due("none", x.count(6), 0);
        }
        // what comes next stands behind what is left: 'spare ' and '4;'
        x.feed(0x73706172, 0x65207878, 0x78787878, 0x78787878, 0x78787878);
        x.end(6);
        x.feed(0x343b2020, 0x20202020, 0x20202020, 0x20202020, 0x20202020);
        c.due("twenty behind six", x.count(6), 26);
        c.due("room", x.room(), 1);
        c.due("spare", x.count(3), 4);
    }

    private static void newRoom() {
        String first = "bath a 1 9; paper p 3; sheet s p; sheet t p; spare 1;";
        String second = "bath b 2 7; bath d 1 8; paper q 1 2; sheet u q;";
        BathMinutes x = Check.with(first);
        BathMinutes y = Check.with(second);
        x.start(0);
        x.minutes(9);
        x.start(1);
        x.take(1);
        x.image(0);
        Check.sentence(x, "done");
        c.due("said", x.said(NONE), 1);
        c.due("a new ROOM", Check.room(x, second), 4);
        c.due("as a new one", Look.of(x), Look.of(y));
        c.due("no SENTENCE", x.said(0), NONE);
        c.due("nothing can be undone", x.undo(), NONE);
        c.due("what is kept stays", x.restore(0), true);
        c.due("what is kept stays", x.now(3), 1);
        // the same text again
        c.due("the ROOM anew", Check.room(x, first), 5);
        c.due("as a new one", Look.of(x), Look.of(Check.with(first)));
        // what other calls told last stays
        Check.bytes(x, 1);
        c.due("order", x.order(), 3);
        c.due("chain", x.chain(), 0);
        Check.bytes(x, 0, 3);
        c.due("who", x.who(), 3);
        c.due("tag", x.tag(1), 7);
        c.due("book", Check.book(x, "start s; minute 5; take s;", 0), 2);
        Check.room(x, "weak 1;");
        c.due("order stays", x.orderAt(0) * 10 + x.orderWhen(0), 10);
        c.due("chain stays", x.chainAt(0), 0);
        c.due("ask stays", x.ask(), 0);
        c.due("tag stays", x.byteAt(0), 't');
        c.due("told stays", x.told(0) * 1000 + x.told(1) * 100 + x.told(2) * 10 + x.told(3), 11251);
        // a FAULT leaves them all
        Check.room(x, "weak 1; weak 1;");
        c.due("order stays", x.orderAt(0) * 10 + x.orderWhen(0), 10);
        c.due("'weak' stays", x.count(4), 1);
    }

    /** A BATH is OPEN, if it has fewer in it than it HOLDS, and has had fewer than it LASTS. */
    private static void open() {
        for (int holds = 1; holds <= 4; holds++) {
            for (int lasts = 1; lasts <= 6; lasts++) {
                BathMinutes x = Check.with("bath a " + holds + " " + lasts + "; paper p 30;" + EIGHT);
                int most = Math.min(holds, lasts);
                for (int s = 0; s < most; s++) {
                    c.due("OPEN", x.bath(0, 4), 1);
                    c.due("OPEN", x.now(6), 1);
                    c.due("start", x.start(s), 0);
                    c.due("had", x.bath(0, 2), s + 1);
                    c.due("in it", x.bath(0, 3), (1 << s + 1) - 1);
                }
                c.due("full or used up", x.bath(0, 4), 0);
                c.due("full or used up", x.now(6), 0);
                c.due("not OPEN", x.start(most), 2);
                c.due("had", x.bath(0, 2), most);
                x.take(0);
                c.due("OPEN again, if it LASTS", x.bath(0, 4), most < lasts ? 1 : 0);
                c.due("not OPEN, if it does not", x.start(most), most < lasts ? 0 : 2);
            }
        }
        // 99 in all
        BathMinutes x = Check.with("bath a 1 99; paper p 1; sheet s p;");
        for (int had = 1; had <= 99; had++) {
            c.due("start", x.start(0), 0);
            x.take(0);
            x.again(0);
        }
        c.due("99 were in it", x.bath(0, 2), 99);
        c.due("it is used up", x.start(0), 2);
        c.due("of 99", x.wear(0, 0) + x.wear(0, 1), 2);
        c.due("need", x.bath(0, 5), 1);
        c.due("tries", x.sheet(0, 6), 99);
        c.due("fresh", x.renew(0), 0);
        c.due("it has had none", x.bath(0, 2), 0);
        c.due("start", x.start(0), 0);
    }

    private static void need() {
        for (int lasts = 1; lasts <= 10; lasts++) {
            BathMinutes x = Check.with("bath a 4 " + lasts + "; bath b 4 1; paper p 3 0;" + EIGHT);
            // eight in rounds of so many, the first one without
            int due = (8 + lasts - 1) / lasts - 1;
            c.due("need of one that LASTS " + lasts, x.bath(0, 5), due);
            c.due("nobody asks for it", x.bath(1, 5), 0);
            x.start(3);
            c.due("one of them has come", x.bath(0, 5), due);
            x.take(3);
            c.due("one is gone", x.bath(0, 5), due);
            x.again(3);
            c.due("it comes once more", x.bath(0, 5), (9 + lasts - 1) / lasts - 1);
        }
        // in the BATH itself, in a later one, DONE, SPOILT: none of these comes
        BathMinutes x = Check.with("bath a 4 99; bath b 4 1; bath d 4 99; paper p 1 1 5;" + EIGHT);
        int due = 7;
        for (int s : new int[] {0, 7}) {
            c.due("eight come, then seven", x.bath(1, 5), due);
            x.start(s);
            c.due("in an earlier one", x.bath(1, 5), due);
            x.minutes(1);
            c.due("in it", x.bath(1, 5), due);
            x.minutes(1);
            c.due("in a later one", x.bath(1, 5), due);
            x.minutes(5);
            c.due("DONE", x.sheet(s, 1), 2);
            c.due("DONE", x.bath(1, 5), due);
            x.renew(1);
            due--;
            c.due("it is fresh: one fewer", x.bath(1, 5), due);
        }
        x.start(1);
        c.due("six come", x.bath(1, 5), 5);
        x.take(1);
        c.due("SPOILT: five", x.bath(1, 5), 4);
        x.start(6);
        x.take(6);
        c.due("SPOILT: four", x.bath(1, 5), 3);
    }

    private static void asks() {
        BathMinutes x = Check.with("bath a 1 9;bath b 1 9;bath d 1 9;bath e 1 9;bath f 1 9;bath g 1 9;"
            + "paper p 0 1 2 3 4 5;paper q 6 7 8 9 10 11;paper r 12 13 14 15 16 17;paper t 18 19 20 21 22 23;paper u 24 25 26 27 28 30;");
        for (int p = -1; p <= 5; p++) {
            for (int b = -1; b <= 6; b++) {
                boolean none = p < 0 || p > 4 || b < 0 || b > 5;
                c.due("asks " + p + " " + b, x.asks(p, b), none ? NONE : p == 4 && b == 5 ? 30 : p * 6 + b);
            }
        }
        for (int n : new int[] {LEAST, MOST}) {
            c.due("asks " + n, x.asks(n, 0), NONE);
            c.due("asks 0 " + n, x.asks(0, n), NONE);
        }
    }

    private static void row(BathMinutes x, int s, int... due) {
        for (int what = 0; what < due.length; what++) {
            c.due("sheet " + s + " " + what, x.sheet(s, what), due[what]);
        }
    }

    private static void sheet() {
        BathMinutes x = Check.with("bath a 4 9; bath b 1 9; paper o 0 0; paper p 30 1;" + EIGHT + "spare 9; weak 9;");
        row(x, 0, 1, 0, NONE, 0, 0, 0, 0);
        row(x, 7, 1, 0, NONE, 0, 0, 0, 0);
        for (int s = 0; s < 4; s++) {
            x.start(s);
            x.take(s);
        }
        x.start(6);
        x.start(7);
        row(x, 6, 1, 1, 0, 30, 0, 0, 1);
        row(x, 7, 1, 1, 0, 39, 0, 0, 1);
        x.minutes(29);
        row(x, 6, 1, 1, 0, 1, 0, 0, 1);
        x.minutes(1);
        row(x, 6, 1, 1, 1, 1, 0, 0, 1);
        row(x, 7, 1, 1, 0, 9, 0, 0, 1);
        x.minutes(1);
        row(x, 6, 1, 2, NONE, 0, 0, 0, 1);
        row(x, 0, 1, 3, NONE, 0, 0, 0, 1);
    }

    /** One SHEET in one BATH, each of each: nothing of another one is touched by what goes on. */
    private static void nothingOfOthers() {
        for (int b = 0; b < 6; b++) {
            StringBuilder t = new StringBuilder();
            StringBuilder asked = new StringBuilder();
            for (int i = 0; i < 6; i++) {
                t.append("bath b").append((char) ('a' + i)).append(" 1 9;");
                asked.append(i == b ? " 9" : " 0");
            }
            for (int s = 0; s < 8; s++) {
                BathMinutes x = Check.with(t + "paper p" + asked + ";" + EIGHT + "spare 9;");
                x.start(s);
                x.minutes(4);
                for (int other = 0; other < 8; other++) {
                    if (other == s) {
                        row(x, s, 0, 1, b, 5, 0, 0, 1);
                    } else {
                        row(x, other, 0, 0, NONE, 0, 0, 0, 0);
                    }
                }
                for (int other = 0; other < 6; other++) {
                    c.due("had", x.bath(other, 2), other == b ? 1 : 0);
                    c.due("in it", x.bath(other, 3), other == b ? 1 << s : 0);
                }
                c.due("in BATHS", x.now(2), 1 << s);
                c.due("WAITING", x.now(1), 255 & ~(1 << s));
                c.due("often", x.often(), s);
                c.due("mean", x.mean(0), 0);
                c.due("can be made fresh", x.now(7), 5);
                c.due("MINUTE", x.now(0), 4);
            }
        }
    }

    private static void now() {
        BathMinutes x = Check.with("bath a 4 9; bath b 4 9; bath d 4 9; bath e 4 9; bath f 4 9; bath g 4 9;"
            + "paper p 1 1 1 1 1 1;" + EIGHT + "fresh 99;");
        int[] due = {0, 255, 0, 0, 0, 0, 63, 99};
        for (int what = 0; what < 8; what++) {
            c.due("now " + what, x.now(what), due[what]);
        }
        for (int s = 4; s < 8; s++) {
            x.start(s);
        }
        c.due("WAITING", x.now(1), 15);
        c.due("in BATHS", x.now(2), 240);
        c.due("in it", x.bath(0, 3), 240);
        c.due("OPEN", x.now(6), 62);
        x.minutes(1);
        for (int s = 0; s < 4; s++) {
            x.start(s);
        }
        c.due("all are in BATHS", x.now(2), 255);
        c.due("OPEN", x.now(6), 60);
        x.minutes(6);
        c.due("all are DONE", x.now(3), 255);
        c.due("none is WAITING", x.now(1), 0);
        c.due("OPEN: eight of nine were in each", x.now(6), 63);
        c.due("renew", x.renew(5), 0);
        c.due("can be made fresh", x.now(7), 98);
        BathMinutes y = Check.with("bath a 4 9; paper p 9;" + EIGHT);
        for (int s = 0; s < 8; s++) {
            y.start(s);
            y.take(s);
        }
        c.due("all are SPOILT", y.now(4), 255);
    }

    private static void start() {
        // why not, the least: it is not WAITING, and its BATH is not OPEN
        BathMinutes x = Check.with("bath a 1 2; paper p 3; sheet s p; sheet t p; sheet u p;");
        x.start(0);
        c.due("in a BATH that is not OPEN", x.start(0), 1);
        x.minutes(3);
        x.start(1);
        c.due("DONE, the BATH is not OPEN", x.start(0), 1);
        x.take(1);
        c.due("SPOILT, the BATH is not OPEN", x.start(1), 1);
        c.due("WAITING, it is used up", x.start(2), 2);
        row(x, 2, 0, 0, NONE, 0, 0, 0, 0);
        // it is not OVER any more: neither in its BATH nor since its START
        for (int last = 0; last < 2; last++) {
            x = Check.with("bath a 4 9; bath b 1 1; paper p 1 1; sheet s p; sheet t p; spare 9;");
            int s = last;
            x.start(1 - s);
            x.minutes(1);
            x.start(s);
            x.minutes(10);
            row(x, s, 0, 3, NONE, 0, 0, 9, 1);
            c.due("mean", x.mean(0) * 10 + x.mean(1), 92);
            x.again(s);
            row(x, s, 0, 0, NONE, 0, 0, 9, 1);
            x.start(s);
            row(x, s, 0, 1, 0, 1, 0, 0, 2);
            c.due("mean", x.mean(0) * 10 + x.mean(1), 1);
            x.minutes(3);
            x.take(s);
            x.again(s);
            x.start(s);
            row(x, s, 0, 1, 0, 1, 0, 0, 3);
        }
        // for which it asks minutes: the last one alone, none
        x = Check.with("bath a 1 1; bath b 1 1; bath d 1 1; bath e 1 1; bath f 1 1; bath g 1 1;"
            + "paper p 0 0 0 0 0 1; paper q 0 0 0 0 0 0; sheet s p; sheet t q; sheet u p;");
        c.due("the last one", x.start(0), 0);
        c.due("the last one", x.sheet(0, 2), 5);
        c.due("not OPEN, others are", x.start(2), 2);
        c.due("there is none: DONE", x.start(1), 0);
        c.due("DONE", x.sheet(1, 1), 2);
        c.due("once", x.start(1), 1);
        c.due("it was STARTED", x.sheet(1, 6), 1);
        c.due("undo", x.undo(), 1);
        c.due("WAITING", x.sheet(1, 1), 0);
        // without any BATH
        x = Check.with("paper p; sheet s p;");
        c.due("without BATHS", x.start(0), 0);
        c.due("DONE", x.now(3), 1);
        c.due("when", x.when(0), 0);
    }

    private static void takeAndAgain() {
        BathMinutes x = Check.with("bath a 2 9; bath b 1 9; paper p 2 9; sheet s p; sheet t p; spare 1;");
        c.due("WAITING", x.take(0), 1);
        x.start(0);
        x.start(1);
        x.minutes(2);
        c.due("held", x.now(5), 2);
        c.due("take of a held one", x.take(1), 0);
        row(x, 1, 0, 3, NONE, 0, 0, 1, 1);
        c.due("SPOILT", x.take(1), 1);
        x.minutes(9);
        c.due("DONE", x.take(0), 1);
        c.due("DONE", x.again(0), 1);
        c.due("again", x.again(1), 0);
        c.due("WAITING", x.again(1), 1);
        x.start(1);
        c.due("in a BATH", x.again(1), 1);
        c.due("take in its first MINUTE", x.take(1), 0);
        c.due("again", x.again(1), 0);
        // SPOILT by MINUTES, not by take()
        x = Check.with("bath a 1 9; bath b 1 1; paper p 1 1; sheet s p; sheet t p;");
        x.start(0);
        x.minutes(1);
        x.start(1);
        x.minutes(1);
        c.due("SPOILT", x.now(4), 2);
        c.due("in no BATH", x.take(1), 1);
        c.due("again", x.again(1), 0);
        c.due("start", x.start(1), 0);
    }

    private static void renew() {
        BathMinutes x = Check.with("bath a 1 1; paper p 1; sheet s p; fresh 99;");
        for (int i = 98; i >= 0; i--) {
            x.start(0);
            x.take(0);
            x.again(0);
            c.due("renew", x.renew(0), 0);
            if (i < 3 || i == 98) {
                c.due("can be made fresh", x.now(7), i);
            }
        }
        c.due("has had none ahead of no more", x.renew(0), 1);
        c.due("start", x.start(0), 0);
        c.due("no more ahead of a SHEET in it", x.renew(0), 2);
        x.take(0);
        c.due("no more", x.renew(0), 2);
        c.due("as told", x.count(5), 99);
        x.undo();
        c.due("undo", x.undo(), 6);
        c.due("undo", x.undo(), 5);
        c.due("one more again", x.now(7), 1);
        x = Check.with("bath a 1 1; paper p 1; sheet s p; fresh 0;");
        c.due("has had none", x.renew(0), 1);
        x.start(0);
        c.due("none can be made fresh", x.renew(0), 2);
        x.minutes(1);
        c.due("none can be made fresh", x.renew(0), 2);
        // a fresh one of another BATH is one fewer, too
        x = Check.with("bath a 1 9; bath b 1 9; paper p 1 0; paper q 0 1; sheet s p; sheet t q; fresh 1;");
        x.start(0);
        x.start(1);
        c.due("a SHEET is in it", x.renew(0), 3);
        x.minutes(1);
        c.due("renew", x.renew(0), 0);
        c.due("no more", x.renew(1), 2);
    }

    /** It is SPOILT, if it has been OVER here for 'spare' minutes; if the next one is OPEN then, it goes on. */
    private static void spareMinutes() {
        for (int spare = 0; spare <= 9; spare++) {
            for (int late = 0; late <= 10; late++) {
                // S leaves B in MINUTE 2 + late; T has none LEFT in A in MINUTE 2
                BathMinutes x = Check.with("bath a 1 9; bath b 1 9; paper p 2 3; paper q 0 " + (2 + late)
                    + "; sheet s q; sheet t p; spare " + spare + ";");
                x.start(0);
                x.start(1);
                x.minutes(2);
                for (int over = 1; over <= late && over <= spare; over++) {
                    row(x, 1, 0, 1, 0, 0, over, over, 1);
                    c.due("held", x.now(5), 2);
                    x.minutes(1);
                }
                if (late <= spare) {
                    row(x, 1, 0, 1, 1, 3, 0, late, 1);
                    c.due("S is DONE in the same MINUTE", x.now(3), 1);
                } else {
                    row(x, 1, 0, 3, NONE, 0, 0, spare, 1);
                    c.due("in B yet", x.now(2), 1);
                }
                c.due("MINUTE", x.now(0), 2 + Math.min(late, spare));
            }
        }
    }

    /** OVER here is counted anew in each BATH: 9 in each of five, 45 in all. */
    private static void overInAll() {
        BathMinutes x = Check.with("bath a 1 1;bath b 1 1;bath d 1 1;bath e 1 1;bath f 1 1;bath g 1 1;"
            + "paper p 1 1 1 1 1 1;paper q 0 1 1 1 1 1;sheet s p;sheet t q;spare 9;");
        x.start(1);
        x.minutes(5);
        c.due("all but A are used up", x.now(6), 1);
        x.start(0);
        for (int b = 0; b < 5; b++) {
            row(x, 0, 0, 1, b, 1, 0, 9 * b, 1);
            c.due("nobody is held", x.now(5), 0);
            x.minutes(9);
            row(x, 0, 0, 1, b, 0, 9, 9 * b + 9, 1);
            c.due("held by nobody", x.block(0), 0);
            c.due("renew", x.renew(b + 1), 0);
            x.minutes(1);
        }
        c.due("none is left", x.now(7), 0);
        row(x, 0, 0, 1, 5, 1, 0, 45, 1);
        c.due("mean", x.mean(0) * 100 + x.mean(1), 4502);
        x.minutes(1);
        row(x, 0, 0, 2, NONE, 0, 0, 45, 1);
        c.due("'over' of one that is DONE", Check.sentence(x, "over = 45 and done"), 2);
        c.due("it is said of it", x.said(0), 0);
    }

    /** Weak, if twice as many as it has had ahead of it are not fewer than it LASTS. */
    private static void weak() {
        for (int lasts = 1; lasts <= 12; lasts++) {
            BathMinutes x = Check.with("bath a 4 " + lasts + "; paper p 5;" + EIGHT + "weak 9;");
            for (int had = 0; had < lasts && had < 8; had++) {
                c.due("start", x.start(had), 0);
                c.due("LEFT behind " + had + " of " + lasts, x.sheet(had, 3), 2 * had >= lasts ? 14 : 5);
                x.take(had);
            }
        }
        // 'weak' 0, and none told
        for (String weak : new String[] {"", "weak 0;"}) {
            BathMinutes x = Check.with("bath a 4 2; paper p 5;" + EIGHT + weak);
            x.start(0);
            x.start(1);
            c.due("no minutes more", x.sheet(1, 3), 5);
        }
        // of 99: 49 ahead of it are fewer than half, 50 are not
        BathMinutes x = Check.with("bath a 1 99; paper p 5; sheet s p; weak 1;");
        for (int had = 0; had <= 51; had++) {
            x.start(0);
            c.due("LEFT behind " + had, x.sheet(0, 3), had >= 50 ? 6 : 5);
            x.take(0);
            x.again(0);
        }
    }

    private static void minutes() {
        for (int n = 1; n <= 60; n++) {
            BathMinutes x = Check.with("bath a 1 9; paper p 30; sheet s p;");
            x.start(0);
            c.due("minutes " + n, x.minutes(n), n);
            c.due("MINUTE", x.now(0), n);
            c.due("LEFT", x.sheet(0, 3), Math.max(0, 30 - n));
            c.due("DONE", x.now(3), n >= 30 ? 1 : 0);
        }
    }

    private static BathMinutes at(int minute) {
        BathMinutes x = Check.with("bath a 1 99; paper p 30; paper q 0; sheet s p; sheet t q; sheet u p; fresh 1;");
        for (int gone = 0; gone < minute; gone += 60) {
            x.minutes(Math.min(60, minute - gone));
        }
        return x;
    }

    /** A MINUTE is 0 to 999; 1000: all are over. */
    private static void thousand() {
        for (int left = 0; left <= 3; left++) {
            for (int n = 1; n <= 4; n++) {
                BathMinutes x = at(1000 - left);
                c.due("minutes " + n + " of " + left, x.minutes(n), Math.min(n, left));
                c.due("MINUTE", x.now(0), Math.min(1000, 1000 - left + n));
                x = at(1000 - left);
                c.due("drawn " + n + " of " + left, x.drawn(n, n), Math.min(n, left));
                c.due("MINUTE", x.now(0), Math.min(1000, 1000 - left + n));
                x = at(1000 - left);
                c.due("a BOOK of " + n + " of " + left, Check.book(x, "minute " + n + ";", 1), n <= left ? NONE : 0);
                c.due("why", x.told(0), n <= left ? 0 : 41);
                c.due("MINUTE told", x.told(2), n <= left ? 1000 - left + n : 1000 - left);
                c.due("MINUTE", x.now(0), n <= left ? 1000 - left + n : 1000 - left);
            }
        }
        BathMinutes x = at(940);
        c.due("60 of 60", x.minutes(60), 60);
        c.due("at 1000 one can START", x.start(0), 0);
        c.due("at 1000 one without BATHS is DONE", x.start(1), 0);
        c.due("when is told yet", x.when(0), 30);
        c.due("clear is told yet", x.clear(2), 30);
        c.due("load is told yet", x.load(0, 29) * 10 + x.load(0, 30), 10);
        Check.bytes(x, 2);
        c.due("order is told yet", x.order(), 60);
        c.due("take", x.take(0), 0);
        c.due("again", x.again(0), 0);
        c.due("renew", x.renew(0), 0);
        c.due("no MINUTE", x.minutes(60), 0);
        c.due("no MINUTE", x.drawn(60, 1), 0);
        c.due("undo", x.undo(), 7);
        x = at(941);
        c.due("59 of 60", x.minutes(60), 59);
        c.due("it is undone as one", x.undo(), 7);
        c.due("MINUTE", x.now(0), 941);
        c.due("59 DRAWN of 60", x.drawn(60, 9), 59);
        c.due("MINUTE", x.now(0), 1000);
        c.due("it is undone as one", x.undo(), 7);
        c.due("MINUTE", x.now(0), 941);
    }

    private static void undo() {
        BathMinutes x = new BathMinutes();
        c.due("none", x.undo(), NONE);
        for (int acts = 1; acts <= 12; acts++) {
            Check.room(x, "");
            for (int i = 0; i < acts; i++) {
                x.minutes(1);
            }
            for (int more = Math.min(acts, 8) - 1; more >= 0; more--) {
                c.due("undo of " + acts, x.undo(), more);
                c.due("MINUTE", x.now(0), acts - Math.min(acts, 8) + more);
            }
            c.due("none more", x.undo(), NONE);
        }
        // what is undone can be done otherwise; it is the latest then
        x.minutes(5);
        x.minutes(6);
        x.undo();
        x.minutes(7);
        c.due("MINUTE", x.now(0), 16);
        c.due("undo", x.undo(), 1);
        c.due("MINUTE", x.now(0), 9);
    }

    /** Each kind, right behind another one, with nothing refused between them. */
    private static void undoOfEach() {
        BathMinutes x = Check.with("bath a 1 9; paper p 9; sheet s p; sheet t p; fresh 3;");
        String[] seen = new String[9];
        for (int act = 0; act < 8; act++) {
            seen[act] = Look.brief(x);
            switch (act) {
                case 0: c.due("start", x.start(1), 0); break;
                case 1: c.due("take", x.take(1), 0); break;
                case 2: c.due("again", x.again(1), 0); break;
                case 3: c.due("renew", x.renew(0), 0); break;
                case 4: c.due("start", x.start(0), 0); break;
                case 5: c.due("minutes", x.minutes(4), 4); break;
                case 6: c.due("drawn", x.drawn(9, 1), 9); break;
                default: c.due("book", Check.book(x, "minute 2; minute 3;", 1), NONE); break;
            }
        }
        for (int act = 7; act >= 0; act--) {
            c.due("undo", x.undo(), act);
            c.due("as it was", Look.brief(x), seen[act]);
        }
        c.due("none", x.undo(), NONE);
    }

    /** As a row of MINUTES tells, of which eight at most are kept: all places are gone through many times. */
    private static void undoByTurns() {
        for (int acts = 1; acts <= 9; acts++) {
            for (int undone = 1; undone <= 9; undone++) {
                BathMinutes x = new BathMinutes();
                ArrayDeque<Integer> ahead = new ArrayDeque<>();
                for (int turn = 0; turn < 8; turn++) {
                    for (int i = 0; i < acts; i++) {
                        ahead.addLast(x.now(0));
                        if (ahead.size() > 8) {
                            ahead.removeFirst();
                        }
                        x.minutes(1 + turn);
                    }
                    for (int i = 0; i < undone; i++) {
                        boolean none = ahead.isEmpty();
                        int minute = none ? x.now(0) : ahead.removeLast();
                        c.due("undo", x.undo(), none ? NONE : ahead.size());
                        c.due("MINUTE", x.now(0), minute);
                    }
                }
            }
        }
    }

    private static void bookUndone() {
        BathMinutes x = Check.with("bath a 1 9; paper p 3; sheet s p; sheet t p;");
        c.due("no LINE", Check.book(x, "", 1), NONE);
        c.due("nothing to undo", x.undo(), NONE);
        c.due("judged alone", Check.book(x, "start s;", 0), NONE);
        c.due("nothing to undo", x.undo(), NONE);
        c.due("WRONG at once", Check.book(x, "take s; start s;", 1), 0);
        c.due("nothing to undo", x.undo(), NONE);
        c.due("a FAULT", Check.book(x, "start s; start", 1), -16);
        c.due("nothing to undo", x.undo(), NONE);
        c.due("one LINE is lived", Check.book(x, "start s; start s;", 1), 1);
        c.due("in", x.now(2), 1);
        c.due("all are lived", Check.book(x, "minute 3; start t; minute 1; take t; again t; renew a;", 1), NONE);
        c.due("MINUTE", x.now(0), 4);
        c.due("had", x.bath(0, 2), 0);
        c.due("as one", x.undo(), 1);
        c.due("MINUTE", x.now(0), 0);
        c.due("had", x.bath(0, 2), 1);
        c.due("the other one", x.undo(), 0);
        c.due("WAITING", x.now(1), 3);
        for (int i = 0; i < 10; i++) {
            Check.book(x, "minute 1;", 1);
        }
        for (int more = 7; more >= 0; more--) {
            c.due("undo", x.undo(), more);
        }
        c.due("eight at most", x.undo(), NONE);
        c.due("MINUTE", x.now(0), 2);
    }

    private static void wear() {
        for (int lasts : new int[] {1, 2, 6, 8, 99}) {
            BathMinutes x = Check.with("bath a 4 " + lasts + "; paper p 5;" + EIGHT);
            for (int had = 0; had <= lasts && had <= 8; had++) {
                int divisor = divisor(had, lasts);
                c.due("above " + had + " by " + lasts, x.wear(0, 0), had / divisor);
                c.due("below " + had + " by " + lasts, x.wear(0, 1), lasts / divisor);
                if (had < 8) {
                    x.start(had);
                    x.take(had);
                }
            }
        }
    }

    private static int divisor(int a, int b) {
        for (int d = b; d > 1; d--) {
            if (a % d == 0 && b % d == 0) {
                return d;
            }
        }
        return 1;
    }

    private static void mean() {
        BathMinutes none = Check.with("bath a 1 9; paper p 1;");
        c.dueThrows("mean(0) without SHEETS", () -> none.mean(0));
        c.dueThrows("mean(1) without SHEETS", () -> none.mean(1));
        for (int sheets = 1; sheets <= 7; sheets++) {
            StringBuilder more = new StringBuilder();
            for (int s = 1; s < sheets; s++) {
                more.append("sheet t").append((char) ('a' + s)).append(" q;");
            }
            BathMinutes x = Check.with("bath a 1 9; bath b 1 1; paper p 1 1; paper q 0 9; sheet s p;" + more + "spare 9;");
            c.due("none OVER", x.mean(0) * 10 + x.mean(1), 1);
            if (sheets > 1) {
                x.start(1);
                x.start(0);
                for (int over = 1; over <= 9; over++) {
                    x.minutes(1);
                    int divisor = divisor(over, sheets);
                    c.due("above", x.mean(0), over / divisor);
                    c.due("below", x.mean(1), sheets / divisor);
                }
            }
        }
    }

    /** Of all SHEETS together, those that are SPOILT or DONE, too. */
    private static void meanOfAll() {
        BathMinutes x = Check.with("bath a 4 9; bath b 1 1; paper p 1 1; paper q 0 9;" + EIGHT + "spare 9;");
        x.start(0);
        x.minutes(1);
        for (int s = 5; s < 8; s++) {
            x.start(s);
        }
        x.minutes(1);
        c.due("three by eight", x.mean(0) * 10 + x.mean(1), 38);
        x.minutes(1);
        c.due("six by eight", x.mean(0) * 10 + x.mean(1), 34);
        x.take(6);
        c.due("SPOILT, too", x.mean(0) * 10 + x.mean(1), 34);
        x.minutes(1);
        c.due("eight by eight", x.mean(0) * 10 + x.mean(1), 11);
        x.again(6);
        c.due("made AGAIN, too", x.mean(0) * 10 + x.mean(1), 11);
        c.due("often: OVER no matter", x.often(), 0);
        x.start(6);
        c.due("not any more: six by eight", x.mean(0) * 10 + x.mean(1), 34);
        c.due("often", x.often(), 6);
    }

    private static void often() {
        BathMinutes x = Check.with("bath a 4 99; paper p 5;" + EIGHT);
        c.due("none was STARTED", x.often(), NONE);
        c.due("none was STARTED: not one that can't be", x.take(0), 1);
        c.due("none was STARTED", x.often(), NONE);
        for (int s = 7; s >= 0; s--) {
            x.start(s);
            c.due("of like ones the first", x.often(), s);
            x.take(s);
            c.due("SPOILT, too", x.often(), s);
            x.again(s);
        }
        x.start(7);
        c.due("the last one, twice", x.often(), 7);
        x.start(3);
        c.due("of like ones the first", x.often(), 3);
        c.due("without SHEETS", Check.with("bath a 1 1;").often(), NONE);
    }

    private static void tag() {
        BathMinutes x = Check.with("bath a 4 99; bath bbbbbbb 4 99; paper p 1 30; sheet s p; sheet sssssss p; spare 9;");
        c.due("tag", Check.tag(x, 0), "s waits");
        c.due("the shortest", x.byteAt(6) * 1000 + x.byteAt(7), 's' * 1000 - 1);
        x.start(0);
        c.due("tag", Check.tag(x, 0), "s in a 1");
        x.take(0);
        c.due("tag", Check.tag(x, 0), "s spoilt");
        x.again(0);
        for (int i = 0; i < 4; i++) {
            x.start(0);
            x.minutes(1);
            x.take(0);
            x.again(0);
        }
        x.start(1);
        c.due("tag", x.tag(1), 14);
        x.minutes(1);
        c.due("tag", Check.tag(x, 1), "sssssss in bbbbbbb 30");
        c.due("the longest", x.tag(1), 21);
        c.due("its last byte", x.byteAt(20), '0');
        c.due("behind it", x.byteAt(21), NONE);
        c.due("behind it", x.byteAt(22), NONE);
        c.due("ahead of it", x.byteAt(-1), NONE);
        c.due("far off", x.byteAt(MOST), NONE);
        c.due("far off", x.byteAt(LEAST), NONE);
        for (int left = 29; left >= 1; left--) {
            x.minutes(1);
            c.due("tag's length", x.tag(1), left > 9 ? 21 : 20);
            c.due("its last byte", x.byteAt(left > 9 ? 20 : 19), '0' + left % 10);
            c.due("the one ahead", x.byteAt(left > 9 ? 19 : 18), left > 9 ? '0' + left / 10 : ' ');
        }
        x.minutes(1);
        c.due("tag", Check.tag(x, 1), "sssssss done");
        c.due("a shorter one: nothing of the longer one is left", x.byteAt(12), NONE);
        c.due("no such one", x.tag(2), NONE);
        c.due("the latest stays", x.byteAt(0), 's');
        x.undo();
        c.due("it was told as it was then", x.byteAt(8), 'd');
    }

    private static void liveByCalls(BathMinutes y, int n, int seed, int sheets, int baths) {
        int[] x = {seed};
        for (int i = 0; i < n; i++) {
            int what = draw(x, 8);
            if (what <= 2 && sheets > 0) {
                y.start(draw(x, sheets));
            } else if (what == 3 && sheets > 0) {
                y.again(draw(x, sheets));
            } else if (what == 4 && baths > 0) {
                y.renew(draw(x, baths));
            } else if (what == 5 && draw(x, 4) == 0 && sheets > 0) {
                y.take(draw(x, sheets));
            }
            y.minutes(1);
        }
    }

    private static int draw(int[] x, int n) {
        x[0] = x[0] * 1103515245 + 12345;
        return (x[0] >>> 8) % n;
    }

    private static void drawn() {
        String baths = "bath a 2 3; bath b 1 9;";
        String all = baths + "paper p 2 1; paper q 0 3; sheet s p; sheet t q; sheet u p; spare 1; weak 1; fresh 9;";
        int[] seeds = {LEAST, LEAST + 1, -2, -1, 0, 1, 255, 256, MOST - 1, MOST};
        for (int seed : seeds) {
            for (int n : new int[] {1, 2, 59, 60}) {
                BathMinutes x = Check.with(all);
                BathMinutes y = Check.with(all);
                c.due("drawn " + n + " by " + seed, x.drawn(n, seed), n);
                liveByCalls(y, n, seed, 3, 2);
                c.due("as by calls", Look.of(x), Look.of(y));
                c.due("it is undone as one", x.undo(), 0);
                c.due("as ahead of it", Look.of(x), Look.of(Check.with(all)));
                // a 5 draws of 4 without SHEETS, too; it is of the same x then
                x = Check.with(baths);
                y = Check.with(baths);
                c.due("without SHEETS", x.drawn(n, seed), n);
                liveByCalls(y, n, seed, 0, 2);
                c.due("as by calls", Look.of(x), Look.of(y));
                x = Check.with("paper p; sheet s p; sheet t p;");
                y = Check.with("paper p; sheet s p; sheet t p;");
                c.due("without BATHS", x.drawn(n, seed), n);
                liveByCalls(y, n, seed, 2, 0);
                c.due("as by calls", Look.of(x), Look.of(y));
            }
        }
    }

    /** Of one SHEET, of one BATH there is a draw, too; without BATHS the draws of SHEETS go on by the same x. */
    private static void drawnOfFew() {
        String[] rooms = {"bath a 1 3; paper p 2; sheet s p; spare 1; fresh 9;", "paper p;" + EIGHT,
            "bath a 4 9; paper p 9;" + EIGHT, "bath a 1 9; bath b 1 9; paper p 9 9; sheet s p; fresh 9;"};
        int[] sheets = {1, 8, 8, 1};
        int[] baths = {1, 0, 1, 2};
        for (int i = 0; i < rooms.length; i++) {
            for (int seed = -3; seed <= 3; seed++) {
                for (int n = 1; n <= 60; n++) {
                    BathMinutes x = Check.with(rooms[i]);
                    BathMinutes y = Check.with(rooms[i]);
                    x.drawn(n, seed * 1000003);
                    liveByCalls(y, n, seed * 1000003, sheets[i], baths[i]);
                    c.due("as by calls", Look.brief(x), Look.brief(y));
                }
            }
        }
    }

    private static void book() {
        String room = "bath a 1 2; paper p 3; sheet s p; sheet t p; fresh 1;";
        BathMinutes x = Check.with(room);
        // the LINE that is WRONG, from 0 to the last one of forty
        for (int ahead : new int[] {0, 1, 2, 38, 39}) {
            StringBuilder t = new StringBuilder();
            for (int i = 0; i < ahead; i++) {
                t.append("minute 1;");
            }
            c.due("WRONG behind " + ahead, Check.book(x, t + "take s;", 0), ahead);
            c.due("told", x.told(1), ahead);
            c.due("MINUTE told", x.told(2), ahead);
            c.due("tape", x.count(6), 0);
        }
        c.due("all stays as it is", Look.of(x).replaceAll("told.*\n", ""), Look.of(Check.with(room)).replaceAll("told.*\n", ""));
        c.due("judged twice alike", Check.book(x, "start s; minute 3; start t;", 0), NONE);
        c.due("judged twice alike", Check.book(x, "start s; minute 3; start t;", 0), NONE);
        c.due("lived", Check.book(x, "start s; minute 3; start t;", 1), NONE);
        c.due("lived, not twice", Check.book(x, "start s;", 1), 0);
        c.due("why", x.told(0), 1);
        // what a BOOK tells of its own LINES: they are lived as they come
        x = Check.with(room);
        c.due("lived as far as it is not WRONG", Check.book(x, "start s; take s; again s; start s; minute 1; start t; minute 9;", 1), 5);
        c.due("MINUTE", x.now(0), 1);
        c.due("LEFT", x.sheet(0, 3), 2);
        c.due("why: not OPEN", x.told(0), 2);
        // a FAULT leaves what was told; the place 0 and one behind
        c.due("a FAULT at 0", Check.book(x, "bath", 0), -2);
        c.due("a FAULT at 1", Check.book(x, " bath", 1), -3);
        c.due("told stays", x.told(0), 2);
        c.due("a FAULT at 400", Check.book(x, " ".repeat(401), 1), -402);
        c.due("told stays", x.told(1), 5);
    }

    private static void told() {
        String room = "bath a 1 2; bath b 1 9; paper p 3 0; paper q 0 1; sheet s p; sheet t p; sheet u q; fresh 1;";
        BathMinutes x = Check.with(room);
        for (int what = -1; what <= 4; what++) {
            c.due("ahead of any", x.told(what), NONE);
        }
        c.due("-1000", x.book(9), -1000);
        c.due("-1000 is none", x.told(0), NONE);
        Check.book(x, "start", 0);
        c.due("one with a FAULT is none", x.told(0), NONE);
        String[] books = {"", "start s; start s;", "start s; start t;", "take s;", "again s;", "renew a;",
            "start s; minute 3; renew a; start t; minute 3; renew a;", "start s; renew a;",
            "start u; minute 1; start s; minute 3; minute 1;"};
        int[] whys = {0, 1, 2, 11, 21, 31, 32, 33, 0};
        int[] aheads = {0, 1, 1, 0, 0, 0, 5, 1, 5};
        int[] minutes = {0, 0, 0, 0, 0, 0, 6, 0, 5};
        int[] dones = {0, 0, 0, 0, 0, 0, 3, 0, 5};
        for (int lives = 0; lives < 2; lives++) {
            for (int i = 0; i < books.length; i++) {
                x = Check.with(room);
                c.due("book '" + books[i] + "'", Check.book(x, books[i], lives), whys[i] == 0 ? NONE : aheads[i]);
                int[] due = {whys[i], aheads[i], minutes[i], dones[i]};
                for (int what = 0; what < 4; what++) {
                    c.due("told " + what + " of '" + books[i] + "'", x.told(what), due[what]);
                }
                c.due("told(4)", x.told(4), NONE);
                c.due("told(-1)", x.told(-1), NONE);
                c.due("MINUTE", x.now(0), lives == 1 ? minutes[i] : 0);
                c.due("DONE", x.now(3), lives == 1 ? dones[i] : 0);
            }
        }
        // an empty BOOK behind one that was WRONG
        BathMinutes y = Check.with(room);
        Check.book(y, "minute 1; take s;", 1);
        c.due("WRONG", y.told(0), 11);
        c.due("an empty one", Check.book(y, "", 1), NONE);
        c.due("told", y.told(0) * 1000 + y.told(1) * 100 + y.told(2) * 10 + y.told(3), 10);
        // DONE then, of all SHEETS, also those that were ahead of the BOOK
        c.due("another one", Check.book(x, "minute 9;", 0), NONE);
        c.due("MINUTE then", x.told(2), 14);
        c.due("DONE then", x.told(3), 5);
    }

    private static void said() {
        BathMinutes x = Check.with("bath a 4 9; bath b 1 9; paper p 5 1; paper q 0 9;" + EIGHT + "weak 9; spare 9;");
        c.due("there is no SENTENCE", x.said(NONE), NONE);
        Check.sentence(x, "number < 999");
        c.due("all", x.said(NONE), 8);
        for (int k = 0; k < 8; k++) {
            c.due("the k-th", x.said(k), k);
        }
        for (int k : new int[] {8, 9, 31, 32, 33, 63, 64, MOST, -2, -3, LEAST}) {
            c.due("none such " + k, x.said(k), NONE);
        }
        Check.sentence(x, "number > 7");
        c.due("none", x.said(NONE), 0);
        c.due("none", x.said(0), NONE);
        Check.sentence(x, "number > 6");
        c.due("the last one", x.said(NONE) * 10 + x.said(0), 17);
        Check.sentence(x, "number < 1");
        c.due("the first one", x.said(NONE) * 10 + x.said(0), 10);
        Check.sentence(x, "number < 0");
        c.due("none", x.said(NONE), 0);
        // each sign, one below, at and above
        x.start(2);
        int[] all = {0, 1, 7, 8};
        for (int left = 4; left <= 6; left++) {
            said(x, "left < " + left, left == 6 ? all[3] : all[2]);
            said(x, "left = " + left, left == 5 ? all[1] : all[0]);
            said(x, "left > " + left, left == 4 ? all[1] : all[0]);
        }
        said(x, "tries = 1", 1);
        said(x, "tries > 0", 1);
        said(x, "tries > 1", 0);
        said(x, "tries < 1", 7);
        said(x, "held", 0);
        x.minutes(5);
        said(x, "in a", 0);
        said(x, "in b", 1);
        x.start(3);
        x.minutes(1);
        said(x, "done", 1);
        said(x, "left = 4", 1);
        said(x, "waiting", 6);
        said(x, "spoilt", 0);
        said(x, "of p", 8);
        said(x, "of q", 0);
        x.take(3);
        said(x, "spoilt", 1);
        said(x, "left = 0", 8);
        said(x, "not not spoilt", 1);
        said(x, "not(spoilt or done or waiting)", 0);
        said(x, "spoilt and done or waiting", 6);
        said(x, "waiting or spoilt and done", 6);
        said(x, "(waiting or spoilt) and done", 0);
        said(x, "spoilt or done and waiting or done", 2);
    }

    private static void said(BathMinutes x, String text, int many) {
        Check.sentence(x, text);
        c.due("said of '" + text + "'", x.said(NONE), many);
    }

    private static void images() {
        BathMinutes x = Check.with("bath a 1 9; paper p 9; sheet s p; sheet t p; spare 3;");
        for (int k : new int[] {LEAST, -1, 0, 1, 2, MOST}) {
            c.due("nothing is kept in " + k, x.restore(k), false);
        }
        for (int k : new int[] {LEAST, -2, -1, 2, 3, MOST}) {
            c.due("no such place " + k, x.image(k), false);
            c.due("no such place " + k, x.restore(k), false);
        }
        Check.sentence(x, "waiting");
        x.start(0);
        c.due("image", x.image(0), true);
        x.minutes(4);
        c.due("nothing is kept in 1", x.restore(1), false);
        c.due("it stays", x.now(0), 4);
        c.due("image", x.image(1), true);
        c.due("an image leaves what can be undone", x.undo(), 1);
        c.due("undo", x.undo(), 0);
        c.due("restore of 1", x.restore(1), true);
        c.due("as kept", x.sheet(0, 3), 5);
        c.due("nothing can be undone", x.undo(), NONE);
        c.due("restore of 0", x.restore(0), true);
        c.due("as kept", x.sheet(0, 3), 9);
        x.minutes(1);
        c.due("acts behind it can", x.undo(), 0);
        c.due("none ahead of it", x.undo(), NONE);
        // kept anew, the other place stays
        x.take(0);
        c.due("image", x.image(0), true);
        x.restore(1);
        c.due("1 stays", x.now(0), 4);
        x.restore(0);
        c.due("0 is kept anew", x.now(4), 1);
        // as often as one likes
        for (int i = 0; i < 20; i++) {
            x.restore(i % 2);
            c.due("by turns", x.now(4), 1 - i % 2);
            x.minutes(2);
        }
    }

    private static void imagesOfRooms() {
        BathMinutes x = new BathMinutes();
        c.due("image of a new object", x.image(1), true);
        Check.room(x, "bath a 1 9; bath b 2 8; paper p 1 2; sheet s p; spare 1; weak 2; fresh 3;");
        Check.sentence(x, "in b");
        x.start(0);
        x.minutes(1);
        x.renew(0);
        x.image(0);
        Check.room(x, "bath b 1 9; paper q 7; sheet c q;");
        Check.sentence(x, "of q");
        Check.bytes(x, 0);
        x.order();
        x.tag(0);
        Check.book(x, "take c;", 0);
        Check.room(x, "bath");
        Check.text(x, "held");
        c.due("restore", x.restore(0), true);
        int[] counts = {2, 1, 1, 1, 2, 3, 4};
        for (int what = 0; what < counts.length; what++) {
            c.due("count " + what, x.count(what), counts[what]);
        }
        c.due("the SENTENCE is of that ROOM", x.said(0), 0);
        c.due("can be made fresh", x.now(7), 2);
        c.due("HOLDS, LASTS", x.bath(1, 0) * 10 + x.bath(1, 1), 28);
        c.due("asks", x.asks(0, 1), 2);
        c.due("order stays", x.orderAt(0) * 10 + x.orderWhen(0), 0);
        c.due("tag stays", x.byteAt(0), 'c');
        c.due("told stays", x.told(0), 11);
        c.due("fault stays", x.fault(), 1);
        c.due("the tape stays", x.sentence(), 1);
        c.due("another SENTENCE", x.said(NONE), 0);
        c.due("NAMES are told anew", Check.book(x, "take s;", 0), NONE);
        c.due("others are not", Check.book(x, "take c;", 0), -7);
        c.due("restore of a new object", x.restore(1), true);
        c.due("as new", Look.of(x).startsWith(Look.of(new BathMinutes()).split("order")[0]), true);
        c.due("no SENTENCE", x.said(NONE), NONE);
        c.due("restore once more", x.restore(0), true);
        c.due("the SENTENCE as kept", x.said(0), 0);
    }

    private static void count() {
        BathMinutes x = new BathMinutes();
        for (int n : new int[] {LEAST, -2, -1, 7, 8, MOST}) {
            c.due("count " + n, x.count(n), NONE);
        }
        for (int b = 0; b <= 6; b++) {
            StringBuilder t = new StringBuilder();
            for (int i = 0; i < b; i++) {
                t.append("bath ").append((char) ('a' + i)).append(" 1 1;");
            }
            Check.room(x, t.toString());
            c.due("BATHS", x.count(0), b);
            c.due("OPEN", x.now(6), (1 << b) - 1);
            c.due("the last one", x.bath(b - 1, 0), b == 0 ? NONE : 1);
            c.due("behind it", x.bath(b, 0), NONE);
        }
        x.feed(0, 0, 0, 0, 0);
        c.due("bytes of the tape", x.count(6), 20);
        x.end(7);
        c.due("bytes of the tape", x.count(6), 7);
        x.sentence();
        c.due("bytes of the tape", x.count(6), 0);
    }
}
