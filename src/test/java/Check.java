import java.util.NoSuchElementException;

/** What the tests share: texts fed to a tape, and answers held against those that are due. */
final class Check {
    /** BODIES 0 to 3: a 20, b 10 (kin a), c 6, d 30 (kin c). KINDS 0 to 4: plain 2, halved 3, joint 2, false 1, doubled 2. */
    static final String PORT = "body a 20;body b 10 kin a;body c 6;body d 30 kin c;"
            + "kind p 2;kind h 3 halved;kind j 2 joint;kind f 1 false;kind w 2 doubled;line 1;dot 1;";

    private int wrong = 0;
    private int answers = 0;
    private String part = "";

    void part(String name) {
        part = name;
    }

    void is(String call, long got, long due) {
        answers++;
        if (got != due) {
            wrong++;
            System.out.println(part + ": " + call + " answered " + got + ", due is " + due);
        }
    }

    void is(String call, boolean got, boolean due) {
        is(call, got ? 1 : 0, due ? 1 : 0);
    }

    void all(String call, long[] got, long... due) {
        is(call + " (length)", got.length, due.length);
        for (int i = 0; i < got.length && i < due.length; i++) {
            is(call + " [" + i + "]", got[i], due[i]);
        }
    }

    void end(String name) {
        System.out.println(wrong == 0 ? name + ": " + answers + " answers are as due" : name + ": " + wrong + " are not");
        if (wrong != 0) {
            System.exit(1);
        }
    }

    static void bytes(SkinLedger s, int... bytes) {
        s.end(0);
        for (int i = 0; i < bytes.length; i += 20) {
            int[] five = new int[5];
            for (int j = 0; j < 20 && i + j < bytes.length; j++) {
                five[j / 4] |= (bytes[i + j] & 255) << 24 - 8 * (j % 4);
            }
            s.feed(five[0], five[1], five[2], five[3], five[4]);
        }
        s.end(bytes.length);
    }

    static void text(SkinLedger s, String text) {
        int[] bytes = new int[text.length()];
        for (int i = 0; i < bytes.length; i++) {
            bytes[i] = text.charAt(i);
        }
        bytes(s, bytes);
    }

    static int port(SkinLedger s, String text) {
        text(s, text);
        return s.port();
    }

    static int book(SkinLedger s, String text) {
        text(s, text);
        return s.book();
    }

    static SkinLedger at(String port) {
        SkinLedger s = new SkinLedger();
        if (port(s, port) < 0) {
            throw new IllegalStateException("no PORT: " + port);
        }
        return s;
    }

    /** The NETS of each BODY as fits() wants them. */
    static void nets(SkinLedger s, int... nets) {
        int[] bytes = new int[2 * nets.length];
        for (int i = 0; i < nets.length; i++) {
            bytes[2 * i] = nets[i] + 10000 >> 8;
            bytes[2 * i + 1] = nets[i] + 10000;
        }
        bytes(s, bytes);
    }

    static String skin(SkinLedger s, int b) {
        int n = s.skin(b);
        StringBuilder text = new StringBuilder();
        for (int i = 0; i < n; i++) {
            text.append((char) s.byteAt(i));
        }
        return text.toString();
    }

    void skinIs(SkinLedger s, int b, String due) {
        String got = skin(s, b);
        if (!got.equals(due)) {
            System.out.println(part + ": skin is " + got + ", due is " + due);
        }
        is("skin " + due, got.equals(due), true);
    }

    void portFault(String text, int kind, int place) {
        SkinLedger s = at("body old 5;");
        is("port of " + text, port(s, text), -1 - place);
        is("fault of " + text, s.fault(), kind);
        is("the old PORT stays ahead of " + text, s.count(0), 1);
        is("the tape is empty behind " + text, s.count(8), 0);
    }

    void bookFault(String text, int kind, int place) {
        SkinLedger s = at(PORT);
        book(s, "year;");
        is("book of " + text, book(s, text), -1 - place);
        is("fault of " + text, s.fault(), kind);
        is("the old BOOK stays ahead of " + text, s.count(7), 1);
        is("the tape is empty behind " + text, s.count(8), 0);
    }

    void noBody(SkinLedger s, int b, int what) {
        boolean thrown = false;
        try {
            s.body(b, what);
        } catch (NoSuchElementException e) {
            thrown = true;
        }
        is("body(" + b + ", " + what + ") throws", thrown, true);
    }

    void noKind(SkinLedger s, int k, int what) {
        boolean thrown = false;
        try {
            s.kind(k, what);
        } catch (NoSuchElementException e) {
            thrown = true;
        }
        is("kind(" + k + ", " + what + ") throws", thrown, true);
    }

    void noDeal(SkinLedger s, int d, int what) {
        boolean thrown = false;
        try {
            s.deal(d, what);
        } catch (NoSuchElementException e) {
            thrown = true;
        }
        is("deal(" + d + ", " + what + ") throws", thrown, true);
    }
}
