/** What all tests share: due answers, and texts fed to an object. */
final class Check {
    private int wrong;
    private int asked;
    private final String name;

    Check(String name) {
        this.name = name;
    }

    void due(String call, long got, long want) {
        asked++;
        if (got != want) {
            wrong++;
            if (wrong <= 40) {
                System.out.println(name + ": " + call + " answered " + got + ", due is " + want);
            }
        }
    }

    void due(String call, boolean got, boolean want) {
        due(call, got ? 1 : 0, want ? 1 : 0);
    }

    void due(String call, String got, String want) {
        if (!got.equals(want)) {
            System.out.println(name + ": " + call + " answered '" + got + "', due is '" + want + "'");
        }
        due(call, got.equals(want), true);
    }

    interface Call {
        int run();
    }

    /** The call throws NoSuchElementException and nothing else. */
    void dueThrows(String call, Call tried) {
        boolean thrown = false;
        try {
            tried.run();
        } catch (java.util.NoSuchElementException e) {
            thrown = true;
        }
        due(call + " throws", thrown, true);
    }

    void end() {
        System.out.println(name + ": " + asked + " answers, " + wrong + " wrong");
        if (wrong != 0) {
            System.exit(1);
        }
    }

    static int wrongOf(Check c) {
        return c.wrong;
    }

    /** The tape has these bytes alone. */
    static void bytes(BathMinutes x, int... bytes) {
        x.end(0);
        int[] five = new int[5];
        for (int from = 0; from < bytes.length; from += 20) {
            for (int n = 0; n < 5; n++) {
                five[n] = 0;
                for (int i = 0; i < 4; i++) {
                    int at = from + n * 4 + i;
                    five[n] = five[n] << 8 | (at < bytes.length ? bytes[at] & 255 : 0);
                }
            }
            x.feed(five[0], five[1], five[2], five[3], five[4]);
        }
        x.end(bytes.length);
    }

    static void text(BathMinutes x, String text) {
        int[] bytes = new int[text.length()];
        for (int i = 0; i < bytes.length; i++) {
            bytes[i] = text.charAt(i);
        }
        bytes(x, bytes);
    }

    static int room(BathMinutes x, String text) {
        text(x, text);
        return x.room();
    }

    static int book(BathMinutes x, String text, int lives) {
        text(x, text);
        return x.book(lives);
    }

    static int sentence(BathMinutes x, String text) {
        text(x, text);
        return x.sentence();
    }

    static BathMinutes with(String room) {
        BathMinutes x = new BathMinutes();
        int lines = room(x, room);
        if (lines < 0) {
            throw new IllegalStateException("no ROOM: " + room + " (" + lines + ")");
        }
        return x;
    }

    static String tag(BathMinutes x, int s) {
        int n = x.tag(s);
        StringBuilder told = new StringBuilder();
        for (int i = 0; i < n; i++) {
            told.append((char) x.byteAt(i));
        }
        return told.toString();
    }
}
