/** The edges of the texts: TOKENS, ROOMS, BOOKS, SENTENCES, and which FAULT is told where. */
public final class TextEdgesTest {
    private static final int NONE = BathMinutes.NONE;
    private static final String ROOM = "bath dev 2 9; bath fix 1 9; paper pearl 3 4; paper gloss 2 5; "
        + "sheet ada pearl; sheet bob gloss; sheet cleo pearl;";
    private static final String[] KEYS = ("bath paper sheet spare weak fresh start take again renew minute or and not "
        + "waiting done spoilt held in of left over tries number").split(" ");

    private static final Check c = new Check("TextEdgesTest");

    public static void main(String[] args) {
        oneByte();
        everyByteBetween();
        everyByteBehind();
        everyByteInASentence();
        blanks();
        wordsAndNumbers();
        numbersOfARoom();
        howManyOfASort();
        linesToldOnce();
        names();
        keywords();
        orderOfLines();
        linesThatBreakOff();
        greatestRoom();
        booksOfMinutes();
        booksOfLines();
        namesOfABook();
        onesOfASentence();
        withinOneAnother();
        partsOfASentence();
        numbersOfASentence();
        bytesOfARoom();
        bytesOfABook();
        bytesOfASentence();
        firstAlongTheText();
        kindOfTheLatest();
        c.end();
    }

    private static String times(String text, int n) {
        StringBuilder t = new StringBuilder();
        for (int i = 0; i < n; i++) {
            t.append(text);
        }
        return t.toString();
    }

    private static String shown(String text) {
        return text.length() <= 60 ? text : text.substring(0, 20) + ".. (" + text.length() + ")";
    }

    private static void room(String text, int lines) {
        BathMinutes x = new BathMinutes();
        c.due("room '" + shown(text) + "'", Check.room(x, text), lines);
        c.due("its fault '" + shown(text) + "'", x.fault(), 0);
    }

    private static void badRoom(String text, int place, int kind) {
        BathMinutes x = new BathMinutes();
        c.due("room '" + shown(text) + "'", Check.room(x, text), -1 - place);
        c.due("fault '" + shown(text) + "'", x.fault(), kind);
        c.due("tape", x.count(6), 0);
        c.due("no BATHS came", x.count(0) + x.count(1) + x.count(2), 0);
    }

    private static void book(String text) {
        BathMinutes x = Check.with(ROOM);
        c.due("book '" + shown(text) + "'", Check.book(x, text, 0) >= NONE, true);
        c.due("its fault '" + shown(text) + "'", x.fault(), 0);
    }

    private static void badBook(String text, int place, int kind) {
        for (int lives = 0; lives < 2; lives++) {
            BathMinutes x = Check.with(ROOM);
            c.due("book '" + shown(text) + "'", Check.book(x, text, lives), -2 - place);
            c.due("fault '" + shown(text) + "'", x.fault(), kind);
            c.due("tape", x.count(6), 0);
            c.due("nothing is lived", x.now(0) + x.now(2), 0);
            c.due("nothing is told", x.told(0), NONE);
        }
    }

    private static void sentence(String text, int ones) {
        BathMinutes x = Check.with(ROOM);
        c.due("sentence '" + shown(text) + "'", Check.sentence(x, text), ones);
        c.due("its fault '" + shown(text) + "'", x.fault(), 0);
        c.due("it is the SENTENCE", x.said(NONE) >= 0, true);
    }

    private static void badSentence(String text, int place, int kind) {
        BathMinutes x = Check.with(ROOM);
        c.due("sentence '" + shown(text) + "'", Check.sentence(x, text), -1 - place);
        c.due("fault '" + shown(text) + "'", x.fault(), kind);
        c.due("tape", x.count(6), 0);
        c.due("there is none", x.said(NONE), NONE);
    }

    private static boolean isLetter(int b) {
        return b >= 'a' && b <= 'z';
    }

    private static boolean isDigit(int b) {
        return b >= '0' && b <= '9';
    }

    private static boolean isBlank(int b) {
        return b == 32 || b == 10;
    }

    /** Of one byte no text can be but an empty one of one blank. */
    private static void oneByte() {
        for (int b = 0; b < 256; b++) {
            BathMinutes x = new BathMinutes();
            Check.bytes(x, b);
            c.due("room of byte " + b, x.room(), isBlank(b) ? 0 : -1);
            c.due("fault of byte " + b, x.fault(), isBlank(b) ? 0 : 1);
            Check.bytes(x, b);
            c.due("book of byte " + b, x.book(0), isBlank(b) ? NONE : -2);
            c.due("fault of byte " + b, x.fault(), isBlank(b) ? 0 : 1);
            Check.bytes(x, b);
            // '(' begins a ONE; then, as for a blank, the end comes too soon
            c.due("sentence of byte " + b, x.sentence(), isBlank(b) || b == '(' ? -2 : -1);
            c.due("fault of byte " + b, x.fault(), 1);
        }
    }

    private static void withByte(BathMinutes x, String ahead, int b, String behind) {
        int[] bytes = new int[ahead.length() + 1 + behind.length()];
        for (int i = 0; i < bytes.length; i++) {
            bytes[i] = i < ahead.length() ? ahead.charAt(i) : i == ahead.length() ? b : behind.charAt(i - ahead.length() - 1);
        }
        Check.bytes(x, bytes);
    }

    private static void everyByteBetween() {
        for (int b = 0; b < 256; b++) {
            BathMinutes x = new BathMinutes();
            withByte(x, "spare", b, "1;");
            int due = isBlank(b) ? 1 : isLetter(b) || isDigit(b) ? -1 : -1 - 5;
            c.due("'spare', byte " + b + ", '1;'", x.room(), due);
            c.due("its fault", x.fault(), isBlank(b) ? 0 : 1);
        }
    }

    private static void everyByteBehind() {
        for (int b = 0; b < 256; b++) {
            BathMinutes x = new BathMinutes();
            withByte(x, "spare 1", b, "");
            // '1x' is no TOKEN; '1', a blank: the end comes too soon; 10 to 19 are not as told
            int due = b == ';' ? 1 : isLetter(b) || isDigit(b) ? -1 - 6 : isBlank(b) ? -1 - 8 : -1 - 7;
            c.due("'spare 1', byte " + b, x.room(), due);
            c.due("its fault", x.fault(), b == ';' ? 0 : isDigit(b) ? 2 : 1);
        }
    }

    private static void everyByteInASentence() {
        for (int b = 0; b < 256; b++) {
            BathMinutes x = new BathMinutes();
            withByte(x, "left", b, "3");
            boolean isSign = b == '<' || b == '=' || b == '>';
            int due = isSign ? 1 : isLetter(b) || isDigit(b) ? -1 : isBlank(b) ? -1 - 5 : -1 - 4;
            c.due("'left', byte " + b + ", '3'", x.sentence(), due);
            c.due("its fault", x.fault(), isSign ? 0 : 1);
        }
    }

    private static void blanks() {
        room("", 0);
        room(" ", 0);
        room("\n", 0);
        room(" \n \n\n", 0);
        room("spare 1;weak 1;fresh 1;", 3);
        room("  \nspare\n\n1 \n ; \n", 1);
        room("bath\na\n1\n1\n;paper\np\n3;sheet\ns\np;", 3);
        badRoom("spare\t1;", 5, 1);
        badRoom("spare 1;\r", 8, 1);
        badRoom("bath a1 1;", 5, 1);
        badRoom("batha 1 1;", 0, 1);
        badRoom("bath a 1 1 ", 11, 1);
        badRoom("bath a 1 1 \n\n", 13, 1);
        badRoom(" ;", 1, 1);
        badRoom("spare 1;;", 8, 1);
        book("start ada;minute 1;\nstart\nbob\n;");
        book("");
        book("\n \n");
        badBook("startada;", 0, 1);
        badBook("minute1;", 0, 1);
        badBook("start ada;;", 10, 1);
        sentence("(done)or(held)", 4);
        sentence("not(not(done))", 5);
        sentence("left<3", 1);
        sentence(" left\n>\n003 ", 1);
        sentence("left<3 or done", 2);
        badSentence("left<3or done", 5, 1);
        badSentence("notdone", 0, 1);
        badSentence("done ordone", 5, 1);
        badSentence("", 0, 1);
        badSentence("   ", 3, 1);
    }

    private static void wordsAndNumbers() {
        // WORDS of 1 to 7 letters, NUMBERS of 1 to 3 digits
        room("bath a 1 1;", 1);
        room("bath abcdefg 1 1;", 1);
        badRoom("bath abcdefgh 1 1;", 5, 1);
        badRoom("bath abcdefghi 1 1;", 5, 1);
        badRoom("bath " + times("z", 30) + " 1 1;", 5, 1);
        room("bath z 001 001;", 1);
        badRoom("bath z 0001 1;", 7, 1);
        badRoom("bath z 1 0001;", 9, 1);
        badRoom("bath z 1 " + times("1", 30) + ";", 9, 1);
        badRoom("bath z 1 1a;", 9, 1);
        badRoom("bath z 1 a1;", 9, 1);
        badRoom("bath a1 1 1;", 5, 1);
        badRoom("bath 1a 1 1;", 5, 1);
        badRoom("bath A 1 1;", 5, 1);
        badRoom("bath aB 1 1;", 6, 1);
        badRoom("bath a -1 1;", 7, 1);
        badRoom("bath a +1 1;", 7, 1);
        badRoom("bath a 1.1;", 8, 1);
        badRoom("bath a . 1;", 7, 1);
        badRoom("bath a ( 1;", 7, 1);
        badRoom("bath . 1 1;", 5, 1);
        badRoom("bath a 1 1.", 10, 1);
        badRoom("bath a 1 1 .", 11, 1);
        // seven letters that are no WORD told here
        badRoom("freshes 1;", 0, 1);
        badRoom("spared 1;", 0, 1);
        badRoom("spar 1;", 0, 1);
        badBook("minutes 1;", 0, 1);
        badSentence("waitin", 0, 1);
        badSentence("waitings", 0, 1);
        numbersOfSigns();
    }

    /** The number of a sign's byte is not that sign, also where it is told in a run that is no TOKEN. */
    private static void numbersOfSigns() {
        badRoom("bath a 1 1 59", 11, 1);
        badRoom("bath a 1 1 0059", 11, 1);
        badRoom("bath a 1 1 x59", 11, 1);
        badBook("start ada 0059", 10, 1);
        badBook("minute 3 x59", 9, 1);
        badSentence("0040 done)", 0, 1);
        badSentence("x40 done)", 0, 1);
        badSentence("(done 0041", 6, 1);
        badSentence("(done x41", 6, 1);
        for (int sign = '<'; sign <= '>'; sign++) {
            badSentence("left 00" + sign + " 3", 5, 1);
            badSentence("left x" + sign + " 3", 5, 1);
        }
    }

    private static void numbersOfARoom() {
        room("bath a 1 1;", 1);
        room("bath a 4 99;", 1);
        badRoom("bath a 0 1;", 7, 2);
        badRoom("bath a 5 1;", 7, 2);
        badRoom("bath a 999 1;", 7, 2);
        badRoom("bath a 4 0;", 9, 2);
        badRoom("bath a 4 100;", 9, 2);
        badRoom("bath a 000 1;", 7, 2);
        room("bath a 1 1;paper p 0;", 2);
        room("bath a 1 1;paper p 30;", 2);
        badRoom("bath a 1 1;paper p 31;", 19, 2);
        badRoom("bath a 1 1;paper p 999;", 19, 2);
        badRoom("bath a 1 1;bath b 1 1;paper p 30 31;", 33, 2);
        String[] once = {"spare", "weak", "fresh"};
        int[] most = {9, 9, 99};
        for (int i = 0; i < 3; i++) {
            for (int n = 0; n <= most[i]; n++) {
                BathMinutes x = Check.with(once[i] + " " + n + ";");
                c.due(once[i] + " " + n, x.count(3 + i), n);
            }
            badRoom(once[i] + " " + (most[i] + 1) + ";", once[i].length() + 1, 2);
            badRoom(once[i] + " 999;", once[i].length() + 1, 2);
            badRoom(once[i] + ";", once[i].length(), 1);
            badRoom(once[i] + " a;", once[i].length() + 1, 1);
        }
        BathMinutes x = new BathMinutes();
        for (int turn = 0; turn < 6; turn++) {
            int i = turn % 3;
            Check.room(x, once[i] + " 7;");
            c.due("'spare', 0 without", x.count(3), i == 0 ? 7 : 0);
            c.due("'weak', 0 without", x.count(4), i == 1 ? 7 : 0);
            c.due("'fresh', 5 without", x.count(5), i == 2 ? 7 : 5);
            c.due("can be made fresh", x.now(7), i == 2 ? 7 : 5);
        }
        for (int holds = 1; holds <= 4; holds++) {
            c.due("HOLDS", Check.with("bath a " + holds + " 9;").bath(0, 0), holds);
        }
        for (int lasts = 1; lasts <= 99; lasts++) {
            c.due("LASTS", Check.with("bath a 1 " + lasts + ";").bath(0, 1), lasts);
        }
        for (int asked = 0; asked <= 30; asked++) {
            c.due("asks", Check.with("bath a 1 1;paper p " + asked + ";").asks(0, 0), asked);
        }
    }

    private static String baths(int n) {
        StringBuilder t = new StringBuilder();
        for (int i = 0; i < n; i++) {
            t.append("bath b").append((char) ('a' + i)).append(" 1 1;");
        }
        return t.toString();
    }

    private static String papers(int n, String asked) {
        StringBuilder t = new StringBuilder();
        for (int i = 0; i < n; i++) {
            t.append("paper p").append((char) ('a' + i)).append(asked).append(';');
        }
        return t.toString();
    }

    private static String sheets(int n) {
        StringBuilder t = new StringBuilder();
        for (int i = 0; i < n; i++) {
            t.append("sheet s").append((char) ('a' + i)).append(" pa;");
        }
        return t.toString();
    }

    private static void howManyOfASort() {
        for (int n = 0; n <= 6; n++) {
            room(baths(n), n);
            c.due("BATHS", Check.with(baths(n)).count(0), n);
        }
        badRoom(baths(7), 72, 4);
        badRoom(baths(6) + "bath", 72, 4);
        badRoom(baths(6) + "bath ba 1 1;", 72, 4);
        badRoom(baths(6) + "bath 1 1 1;", 72, 4);
        // one fewer, then what is wrong behind that WORD is told
        badRoom(baths(5) + "bath ba 1 1;", 65, 3);
        for (int n = 0; n <= 5; n++) {
            room(papers(n, ""), n);
            c.due("PAPERS", Check.with(papers(n, "")).count(1), n);
        }
        badRoom(papers(6, ""), 45, 4);
        badRoom(papers(5, "") + "paper", 45, 4);
        badRoom(papers(5, "") + "paper pa;", 45, 4);
        badRoom(papers(4, "") + "paper pa;", 42, 3);
        for (int n = 0; n <= 8; n++) {
            room("paper pa;" + sheets(n), n + 1);
            c.due("SHEETS", Check.with("paper pa;" + sheets(n)).count(2), n);
        }
        badRoom("paper pa;" + sheets(9), 105, 4);
        badRoom("paper pa;" + sheets(8) + "sheet", 105, 4);
        badRoom("paper pa;" + sheets(8) + "sheet sa pa;", 105, 4);
        badRoom("paper pa;" + sheets(7) + "sheet sa pa;", 99, 3);
        // of one TOKEN the least: a seventh 'bath' behind a 'paper' is told as that
        badRoom(baths(6) + "paper p 1 1 1 1 1 1;bath", 92, 3);
    }

    private static void linesToldOnce() {
        for (String key : new String[] {"spare", "weak", "fresh"}) {
            int n = key.length();
            badRoom(key + " 1;" + key + " 1;", n + 3, 3);
            badRoom(key + " 0;" + key + " 0;", n + 3, 3);
            badRoom(key + " 1;" + key + " x;", n + 3, 3);
            badRoom(key + " 1;" + key, n + 3, 3);
            badRoom(key + " 1;bath a 1 1;paper p 1;sheet s p;" + key + " 1;", n + 34, 3);
        }
        room("spare 1;weak 1;fresh 1;", 3);
        room("fresh 1;bath a 1 1;weak 2;paper p 3;spare 1;sheet s p;", 6);
        // told once in each ROOM
        BathMinutes x = Check.with("spare 1;weak 2;fresh 3;");
        c.due("a new ROOM", Check.room(x, "fresh 4;weak 5;spare 6;"), 3);
        c.due("a new ROOM", x.count(3) * 100 + x.count(4) * 10 + x.count(5), 654);
    }

    private static void names() {
        // a NAME told twice, in each sort and across them
        badRoom("bath a 1 1;bath a 1 1;", 16, 3);
        badRoom("bath a 1 1;bath b 1 1;bath c 1 1;bath a", 38, 3);
        badRoom("bath a 1 1;paper a 1;", 17, 3);
        badRoom("bath a 1 1;paper p 1;paper p 1;", 27, 3);
        badRoom("bath a 1 1;paper p 1;sheet p p;", 27, 3);
        badRoom("bath a 1 1;paper p 1;sheet a p;", 27, 3);
        badRoom("bath a 1 1;paper p 1;sheet s p;sheet s p;", 37, 3);
        badRoom("paper p;sheet s p;paper s;", 24, 3);
        // of a PAPER: not told, told later, of another sort
        badRoom("sheet s p;", 8, 3);
        badRoom("sheet s p;paper p;", 8, 3);
        badRoom("paper p;sheet s q;", 16, 3);
        badRoom("bath a 1 1;paper p 1;sheet s a;", 29, 3);
        badRoom("paper p;sheet s s;", 16, 3);
        badRoom("paper p;sheet s p;sheet t s;", 26, 3);
        // a NAME of the ROOM ahead is none of this one
        BathMinutes x = Check.with("bath a 1 1;paper p 1;sheet s p;");
        c.due("its NAMES are free", Check.room(x, "bath s 1 1;paper a 1;sheet p a;"), 3);
        c.due("NAMES of a ROOM with a FAULT", Check.room(x, "bath q 1 1;bath r 1 1;paper"), -28);
        c.due("they are free", Check.room(x, "bath r 1 1;paper q 1;sheet s q;"), 3);
        c.due("the old one is not told", Check.book(x, "start p;", 0), -8);
        // alike but for a letter, at the end or at the head
        room("bath a 1 1;bath aa 1 1;bath ab 1 1;bath aaaaaaa 1 1;bath aaaaaa 1 1;bath baaaaaa 1 1;", 6);
        // a NUMBER, a SIGN, the end where a NAME is due
        badRoom("bath 1 1 1;", 5, 1);
        badRoom("bath ;", 5, 1);
        badRoom("bath", 4, 1);
        badRoom("paper 1;", 6, 1);
        badRoom("paper p;sheet 1 p;", 14, 1);
        badRoom("paper p;sheet s 1;", 16, 1);
        badRoom("paper p;sheet s;", 15, 1);
    }

    private static void keywords() {
        for (String key : KEYS) {
            badRoom("bath " + key + " 1 1;", 5, 1);
            badRoom("paper " + key + ";", 6, 1);
            badRoom("paper p;sheet " + key + " p;", 14, 1);
            badRoom("paper p;sheet s " + key + ";", 16, 1);
            badBook("start " + key + ";", 6, 1);
            badBook("take " + key + ";", 5, 1);
            badBook("again " + key + ";", 6, 1);
            badBook("renew " + key + ";", 6, 1);
            badBook("minute " + key + ";", 7, 1);
            badSentence("in " + key, 3, 1);
            badSentence("of " + key, 3, 1);
            // one letter more or less is a NAME, if no WORD told here and of 7 letters at most
            String less = key.substring(1);
            room("bath " + less + " 1 1;", 1);
            if (key.length() < 7) {
                room("bath " + key + "s 1 1;", 1);
                room("bath s" + key + " 1 1;", 1);
            }
        }
        for (String key : KEYS) {
            boolean begins = key.equals("bath") || key.equals("paper") || key.equals("sheet") || key.equals("spare")
                || key.equals("weak") || key.equals("fresh");
            badRoom(key, begins ? key.length() : 0, 1);
            boolean acts = key.equals("start") || key.equals("take") || key.equals("again") || key.equals("renew")
                || key.equals("minute");
            badBook(key, acts ? key.length() : 0, 1);
            boolean stands = key.equals("waiting") || key.equals("done") || key.equals("spoilt") || key.equals("held");
            boolean asks = key.equals("not") || key.equals("in") || key.equals("of") || key.equals("left")
                || key.equals("over") || key.equals("tries") || key.equals("number");
            if (stands) {
                sentence(key, 1);
            } else {
                badSentence(key, asks ? key.length() : 0, 1);
            }
        }
    }

    private static void orderOfLines() {
        badRoom("paper p;bath a 1 1;", 8, 3);
        badRoom("bath a 1 1;paper p 1;bath b 1 1;", 21, 3);
        badRoom("bath a 1 1;paper p 1;sheet s p;bath b 1 1;", 31, 3);
        badRoom("paper p;bath", 8, 3);
        room("spare 1;bath a 1 1;weak 1;bath b 1 1;fresh 1;paper p 1 1;sheet s p;paper q 0 0;sheet t q;", 9);
        // each 'paper' tells one NUMBER for each BATH
        room("paper p;", 1);
        badRoom("paper p 1;", 8, 1);
        badRoom("bath a 1 1;paper p;", 18, 1);
        badRoom("bath a 1 1;bath b 1 1;paper p 1;", 31, 1);
        badRoom("bath a 1 1;bath b 1 1;paper p 1 2 3;", 34, 1);
        badRoom(baths(6) + "paper p 1 1 1 1 1;", 89, 1);
        badRoom(baths(6) + "paper p 1 1 1 1 1 1 1;", 92, 1);
    }

    /** TOKEN by TOKEN: behind a ';' the text is whole, behind each other one the end comes too soon. */
    private static void linesThatBreakOff() {
        String[] texts = {"bath a 1 1 ; paper p 1 ; sheet s p ;", "spare 1 ; weak 1 ; fresh 1 ;", "paper p ; paper q ; sheet s q ;"};
        for (String text : texts) {
            StringBuilder ahead = new StringBuilder();
            int lines = 0;
            for (String token : text.split(" ")) {
                ahead.append(token);
                if (token.equals(";")) {
                    lines++;
                    room(ahead.toString(), lines);
                } else {
                    badRoom(ahead.toString(), ahead.length(), 1);
                    badRoom(ahead + " \n", ahead.length() + 2, 1);
                }
                ahead.append(' ');
            }
        }
    }

    private static void greatestRoom() {
        StringBuilder t = new StringBuilder();
        for (int b = 0; b < 6; b++) {
            t.append("bath bathof").append((char) ('a' + b)).append(" 4 99;");
        }
        for (int p = 0; p < 5; p++) {
            t.append("paper pearls").append((char) ('a' + p)).append(" 30 30 30 30 30 30;");
        }
        for (int s = 0; s < 8; s++) {
            t.append("sheet sheets").append((char) ('a' + s)).append(" pearlsa;");
        }
        t.append("spare 9;weak 9;fresh 99;");
        room(t.toString(), 22);
        String full = t + times(" ", 900 - t.length());
        room(full, 22);
        badRoom(full + " ", 900, 1);
        BathMinutes x = Check.with(full);
        int[] counts = {6, 5, 8, 9, 9, 99, 0};
        for (int what = 0; what < counts.length; what++) {
            c.due("count " + what, x.count(what), counts[what]);
        }
        c.due("all are WAITING", x.now(1), 255);
        c.due("all are OPEN", x.now(6), 63);
        c.due("the last PAPER in the last BATH", x.asks(4, 5), 30);
        c.due("the last BATH", x.bath(5, 0) * 100 + x.bath(5, 1), 499);
        c.due("the last SHEET's TAG", Check.tag(x, 7), "sheetsh waits");
    }

    private static void booksOfMinutes() {
        for (int n = 1; n <= 60; n++) {
            book("minute " + n + ";");
        }
        book("minute 001;");
        book("minute 060;");
        badBook("minute 0;", 7, 2);
        badBook("minute 000;", 7, 2);
        badBook("minute 61;", 7, 2);
        badBook("minute 999;", 7, 2);
        badBook("minute 0060;", 7, 1);
        badBook("minute 1000;", 7, 1);
        badBook("minute;", 6, 1);
        badBook("minute ada;", 7, 1);
        badBook("minute 1 1;", 9, 1);
        badBook("minute 1", 8, 1);
    }

    private static void booksOfLines() {
        for (int n = 0; n <= 40; n++) {
            BathMinutes x = Check.with(ROOM);
            c.due(n + " LINES", Check.book(x, times("minute 1;", n), 0), NONE);
            c.due(n + " LINES", x.told(1), n);
            c.due("MINUTE", x.told(2), n);
        }
        String forty = times("minute 1;", 40);
        badBook(times("minute 1;", 41), 360, 4);
        badBook(forty + "start", 360, 4);
        badBook(forty + "  take nobody;", 362, 4);
        badBook(forty + "renew 7", 360, 4);
        badBook(forty + "again ada;", 360, 4);
        // of one TOKEN the least: one that can't come in any case
        badBook(forty + "bath", 360, 1);
        badBook(forty + "ada", 360, 1);
        badBook(forty + ";", 360, 1);
        badBook(forty + "7", 360, 1);
        badBook(forty + "startings", 360, 1);
        badBook(times("minute 1;", 39) + "minute 61;", 358, 2);
        // judged though it would be WRONG: the FAULT goes ahead of all LINES
        badBook("take ada; start nobody;", 16, 3);
    }

    private static void namesOfABook() {
        for (String act : new String[] {"start", "take", "again"}) {
            int n = act.length() + 1;
            book(act + " ada;");
            book(act + " cleo;");
            badBook(act + " dan;", n, 3);
            badBook(act + " dev;", n, 3);
            badBook(act + " gloss;", n, 3);
            badBook(act + " ad;", n, 3);
            badBook(act + " adaa;", n, 3);
            badBook(act + " abcdefg;", n, 3);
            badBook(act + " abcdefgh;", n, 1);
            badBook(act + " 1;", n, 1);
            badBook(act + ";", n - 1, 1);
            badBook(act, n - 1, 1);
            badBook(act + " ada", n + 3, 1);
            badBook(act + " ada ada;", n + 4, 1);
            badBook(act + " ada 1;", n + 4, 1);
        }
        book("renew dev;");
        book("renew fix;");
        badBook("renew ada;", 6, 3);
        badBook("renew pearl;", 6, 3);
        badBook("renew sink;", 6, 3);
        badBook("renew 1;", 6, 1);
        badBook("renew;", 5, 1);
    }

    private static void onesOfASentence() {
        for (int n = 1; n <= 20; n++) {
            sentence("held" + times(" or held", n - 1), n);
            sentence("held" + times(" and held", n - 1), n);
        }
        badSentence("held" + times(" or held", 20), 160, 4);
        badSentence("held" + times(" and held", 20), 180, 4);
        String twenty = "held" + times(" or held", 19);
        String[] behind = {"not done", "(done)", "waiting", "done", "spoilt", "held", "in dev", "of pearl", "left < 1", "over = 1",
            "tries > 1", "number = 0", "in", "left", "not", "("};
        for (String one : behind) {
            badSentence(twenty + " or " + one, 160, 4);
        }
        // of one TOKEN the least: one that can't come in any case
        for (String one : new String[] {"", "or", "and", ")", ";", "3", "ada", "start", "<", "."}) {
            badSentence(twenty + " or " + one, 160, 1);
        }
        // each 'not', each bracket and each other one counts
        sentence(times("not ", 3) + "held" + times(" or held", 16), 20);
        badSentence(times("not ", 3) + "held" + times(" or held", 17), 148, 4);
        sentence("(held)" + times("or(held)", 9), 20);
        badSentence("(held)" + times("or(held)", 9) + "or held", 81, 4);
        badSentence("(held)" + times("or(held)", 8) + "or not(held)", 77, 4);
        badSentence("(held" + times(" or held", 19) + ")", 153, 4);
    }

    private static void withinOneAnother() {
        for (int n = 0; n <= 7; n++) {
            sentence(times("not ", n) + "held", n + 1);
            sentence(times("(", n) + "held" + times(")", n), n + 1);
        }
        badSentence(times("not ", 8) + "held", 32, 4);
        badSentence(times("not ", 9) + "held", 32, 4);
        badSentence(times("(", 8) + "held" + times(")", 8), 8, 4);
        badSentence(times("(", 9) + "held" + times(")", 9), 8, 4);
        sentence(times("(not ", 3) + "(held))))", 8);
        badSentence(times("(not ", 4) + "held))))", 20, 4);
        badSentence(times("not(", 4) + "held))))", 16, 4);
        badSentence(times("not ", 8) + "in nowhere", 32, 4);
        badSentence(times("not ", 8) + "or", 32, 1);
        badSentence(times("not ", 8), 32, 1);
        badSentence(times("(", 8) + ")", 8, 1);
        // behind a bracket that is closed there is room again
        sentence("(((((((held))))))) or (((((((held)))))))", 16);
        sentence("((((((held)))))and(held))", 9);
        sentence("((((((held) or (held))))))", 9);
        badSentence("(((((((held or (held))))))))", 16, 4);
    }

    private static void partsOfASentence() {
        sentence("in dev", 1);
        sentence("in fix", 1);
        sentence("of gloss", 1);
        badSentence("in ada", 3, 3);
        badSentence("in gloss", 3, 3);
        badSentence("in sink", 3, 3);
        badSentence("in abcdefg", 3, 3);
        badSentence("in abcdefgh", 3, 1);
        badSentence("in 3", 3, 1);
        badSentence("in", 2, 1);
        badSentence("of ada", 3, 3);
        badSentence("of dev", 3, 3);
        badSentence("of paperr", 3, 3);
        badSentence("of 0", 3, 1);
        badSentence("of", 2, 1);
        badSentence("of )", 3, 1);
        badSentence("dev", 0, 1);
        badSentence("done done", 5, 1);
        badSentence("done not held", 5, 1);
        badSentence("done 3", 5, 1);
        badSentence("done (held)", 5, 1);
        badSentence("done;", 4, 1);
        badSentence("(done", 5, 1);
        badSentence("(done or held", 13, 1);
        badSentence("((done)", 7, 1);
        badSentence("(done))", 6, 1);
        badSentence(")", 0, 1);
        badSentence("()", 1, 1);
        badSentence("done or or held", 8, 1);
        badSentence("done and or held", 9, 1);
        badSentence("or done", 0, 1);
        badSentence("not or done", 4, 1);
        badSentence("done not", 5, 1);
    }

    private static void numbersOfASentence() {
        for (String what : new String[] {"left", "over", "tries", "number"}) {
            int n = what.length();
            for (char sign : new char[] {'<', '=', '>'}) {
                sentence(what + sign + "0", 1);
                sentence(what + " " + sign + " 999", 1);
                sentence(what + sign + "000", 1);
                badSentence(what + sign + "1000", n + 1, 1);
                badSentence(what + sign + "0000", n + 1, 1);
                badSentence(what + sign + "a", n + 1, 1);
                badSentence(what + sign + "3a", n + 1, 1);
                badSentence(what + sign, n + 1, 1);
                badSentence(what + sign + sign + "3", n + 1, 1);
                badSentence(what + sign + "3 3", n + 3, 1);
            }
            badSentence(what + " 3", n + 1, 1);
            badSentence(what + "(3", n, 1);
            badSentence(what + ";3", n, 1);
            badSentence(what + " ada", n + 1, 1);
        }
    }

    private static void bytesOfARoom() {
        room("spare 1;" + times(" ", 892), 1);
        room(times("\n", 892) + "spare 1;", 1);
        room(times(" ", 900), 0);
        badRoom(times(" ", 901), 900, 1);
        badRoom(times(" ", 940), 900, 1);
        badRoom("spare 1;" + times(" ", 893), 900, 1);
        badRoom("spare 1;" + times(" ", 932), 900, 1);
        badRoom(times(" ", 893) + "spare 1;", 900, 1);
        // the end of one that is not too long
        badRoom(times(" ", 893) + "spare 1", 900, 1);
        badRoom(times(" ", 892) + "spare 1", 899, 1);
        // TOKENS that begin ahead of it are read whole
        badRoom(times(" ", 893) + "spare 10;", 899, 2);
        badRoom(times(" ", 893) + "spare 1000;", 899, 1);
        badRoom(times(" ", 893) + "spare 1a;", 899, 1);
        badRoom(times(" ", 894) + "spare 10;", 900, 1);
        badRoom(times(" ", 899) + "spare 1;", 900, 1);
        badRoom(times(" ", 899) + "spares 1;", 899, 1);
        badRoom(times(" ", 900) + "spares 1;", 900, 1);
        badRoom("bath a 1 1;" + times(" ", 883) + "bath a 1 1;", 899, 3);
        badRoom("bath a 1 1;" + times(" ", 883) + "bath ab 1 1;", 900, 1);
        badRoom("bath a 1 1;" + times(" ", 884) + "bath a 1 1;", 900, 1);
        badRoom("spare 1;" + times(" ", 891) + "spare 1;", 899, 3);
        badRoom("spare 1;" + times(" ", 892) + "spare 1;", 900, 1);
        badRoom(papers(5, "") + times(" ", 854) + "paper p;", 899, 4);
        badRoom(papers(5, "") + times(" ", 855) + "paper p;", 900, 1);
        badRoom(times(" ", 899) + ";", 899, 1);
        badRoom(times(" ", 900) + ";", 900, 1);
        badRoom("?" + times(" ", 939), 0, 1);
    }

    private static void bytesOfABook() {
        book("start ada;" + times(" ", 390));
        book(times(" ", 390) + "start ada;");
        book(times(" ", 400));
        badBook(times(" ", 401), 400, 1);
        badBook(times(" ", 940), 400, 1);
        badBook("start ada;" + times(" ", 391), 400, 1);
        badBook(times(" ", 391) + "start ada;", 400, 1);
        badBook(times(" ", 391) + "start ada", 400, 1);
        badBook(times(" ", 390) + "start ada", 399, 1);
        badBook(times(" ", 392) + "minute 61;", 399, 2);
        badBook(times(" ", 393) + "minute 61;", 400, 1);
        badBook(times(" ", 393) + "start adam;", 399, 3);
        badBook(times(" ", 394) + "start adam;", 400, 1);
        badBook(times(" ", 399) + "paper", 399, 1);
        badBook(times(" ", 400) + "paper", 400, 1);
        badBook(times("minute 1;", 40) + times(" ", 39) + "minute 1;", 399, 4);
        badBook(times("minute 1;", 40) + times(" ", 40) + "minute 1;", 400, 1);
        badBook("start ada;" + times(" ", 380) + "start bob;;", 400, 1);
        badBook("start ada;" + times(" ", 379) + "start bob;;", 399, 1);
    }

    private static void bytesOfASentence() {
        sentence("done" + times(" ", 196), 1);
        sentence(times(" ", 196) + "done", 1);
        badSentence("done" + times(" ", 197), 200, 1);
        badSentence(times(" ", 197) + "done", 200, 1);
        badSentence(times(" ", 200), 200, 1);
        badSentence(times(" ", 199), 199, 1);
        badSentence(times(" ", 201), 200, 1);
        badSentence(times(" ", 940), 200, 1);
        badSentence(times(" ", 199) + "donee", 199, 1);
        badSentence(times(" ", 200) + "donee", 200, 1);
        badSentence(times(" ", 196) + "in adam", 199, 3);
        badSentence(times(" ", 197) + "in adam", 200, 1);
        badSentence("held" + times(" or held", 19) + times(" ", 42) + "or", 200, 1);
        badSentence("held" + times(" or held", 19) + times(" ", 43) + "or", 200, 1);
        badSentence("held" + times(" or held", 19) + times(" ", 36) + "or held", 195, 4);
        badSentence("held" + times(" or held", 19) + times(" ", 40) + "or held", 199, 4);
        badSentence("held" + times(" or held", 19) + times(" ", 41) + "or held", 200, 1);
        badSentence("held" + times(" ", 195) + "held", 199, 1);
        badSentence("held" + times(" ", 196) + "held", 200, 1);
    }

    private static void firstAlongTheText() {
        badRoom("spare 10;bath a 0 1;", 6, 2);
        badRoom("bath a 0 100;", 7, 2);
        badRoom("bath a 1 100;.", 9, 2);
        badRoom("bath bath 0 1;", 5, 1);
        badRoom("paper p;sheet p q;", 14, 3);
        badRoom("paper p;sheet q q;", 16, 3);
        badRoom("paper p;paper p;paper p;", 14, 3);
        badBook("minute 61;minute 0;", 7, 2);
        badBook("start nobody", 6, 3);
        badBook("take nobody;minute 61;", 5, 3);
        badSentence("in nowhere or in dev dev", 3, 3);
        badSentence("in dev dev or in nowhere", 7, 1);
        badSentence("left < x or in nowhere", 7, 1);
    }

    private static void kindOfTheLatest() {
        BathMinutes x = new BathMinutes();
        c.due("ahead of any", x.fault(), 0);
        String[] rooms = {"spare", "spare 10;", "spare 1;spare", papers(6, "")};
        String[] books = {"start", "minute 0;", "start nobody;", times("minute 1;", 41)};
        String[] sentences = {"not", "?", "in nowhere", times("not ", 8) + "done"};
        int[] sentenceKinds = {1, 1, 3, 4};
        for (int i = 0; i < 4; i++) {
            Check.room(x, rooms[i]);
            c.due("fault of a ROOM", x.fault(), i + 1);
            Check.text(x, "spare 1;");
            c.due("the tape is no matter", x.fault(), i + 1);
            x.room();
            c.due("fault of a good ROOM", x.fault(), 0);
            Check.book(x, books[i], 1);
            c.due("fault of a BOOK", x.fault(), i + 1);
            x.book(2);
            x.book(-1);
            c.due("-1000 leaves it", x.fault(), i + 1);
            x.image(0);
            x.restore(0);
            x.undo();
            x.order();
            x.who();
            c.due("so do others", x.fault(), i + 1);
            Check.book(x, "minute 1;", 0);
            c.due("fault of a good BOOK", x.fault(), 0);
            Check.sentence(x, sentences[i]);
            c.due("fault of a SENTENCE", x.fault(), sentenceKinds[i]);
            Check.sentence(x, "done");
            c.due("fault of a good SENTENCE", x.fault(), 0);
        }
        Check.sentence(x, "in nowhere");
        Check.book(x, "take nobody;", 0);
        c.due("the latest of all", x.fault(), 3);
        Check.book(x, "", 0);
        c.due("an empty BOOK has none", x.fault(), 0);
        Check.sentence(x, "");
        c.due("an empty SENTENCE has one", x.fault(), 1);
        x.end(0);
        x.room();
        c.due("an empty ROOM has none", x.fault(), 0);
    }
}
