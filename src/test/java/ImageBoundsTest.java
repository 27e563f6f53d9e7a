/** The bounds of images: promises 46, 47. */
public final class ImageBoundsTest {
    private static final Check c = new Check();
    private static final int LEAST = Integer.MIN_VALUE;
    private static final int MOST = Integer.MAX_VALUE;

    private static void places() {
        c.part("promise 46: place k (0, 1): true; false: no such one");
        SkinLedger s = Check.at(Check.PORT);
        for (int k : new int[] {-1, 2, 3, LEAST, MOST}) {
            c.is("no such place", s.image(k), false);
            c.is("no such place", s.restore(k), false);
        }
        c.part("promise 47: false: nothing is kept there");
        c.is("nothing yet", s.restore(0), false);
        c.is("nothing yet", s.restore(1), false);
        c.is("BODIES stay", s.count(0), 4);
        c.is("kept", s.image(0), true);
        c.is("nothing there", s.restore(1), false);
        c.is("something here", s.restore(0), true);
        SkinLedger t = Check.at(Check.PORT);
        c.is("kept", t.image(1), true);
        c.is("nothing there", t.restore(0), false);
        c.is("something here", t.restore(1), true);
        c.part("promise 46: each place for itself, the latest is kept");
        for (int i = 0; i < 6; i++) {
            s.year();
            c.is("kept", s.image(i % 2), true);
        }
        c.is("restore", s.restore(0), true);
        c.is("YEAR of 0", s.count(6), 5);
        c.is("restore", s.restore(1), true);
        c.is("YEAR of 1", s.count(6), 6);
        c.is("again", s.restore(0), true);
        c.is("YEAR of 0", s.count(6), 5);
        s.year();
        s.year();
        s.year();
        c.is("what is done behind it is not kept", s.restore(0), true);
        c.is("YEAR of 0", s.count(6), 5);
    }

    private static void empty() {
        c.part("promise 46, 47: an empty PORT");
        SkinLedger s = new SkinLedger();
        c.is("kept", s.image(0), true);
        Check.port(s, Check.PORT);
        s.write(0, 1, 5, 0);
        s.year();
        Check.book(s, "year;");
        c.is("kept", s.image(1), true);
        c.is("the empty one", s.restore(0), true);
        int[] due = {0, 0, 1, 0, 0, 0, 0, 0, 0};
        for (int what = 0; what < 9; what++) {
            c.is("count(" + what + ")", s.count(what), due[what]);
        }
        c.noBody(s, 0, 0);
        c.noKind(s, 0, 0);
        c.noDeal(s, 0, 0);
        c.is("the other", s.restore(1), true);
        int[] other = {4, 5, 1, 1, 1, 1, 1, 1, 0};
        for (int what = 0; what < 9; what++) {
            c.is("count(" + what + ")", s.count(what), other[what]);
        }
    }

    private static void all() {
        c.part("promise 46, 47: the most there can be");
        SkinLedger s = Check.at("body a 99;body b 98;body d 97;body e 96;body g 95;body h 94;body i 93;body j 92;"
                + "body abcdefg 91 kin j;kind m 1;kind n 2 doubled;kind o 3 halved;kind p 4 false;kind q 5 joint;"
                + "kind hijklmn 1;line 9;dot 8;");
        for (int i = 0; i < 60; i++) {
            c.is("write", s.write(i % 8, 1 + i % 8, 40 + i, 5), i);
        }
        s.scar(58, 1);
        s.strike(59);
        s.dies(8, 7);
        Check.book(s, "scar 57 credit;" + "year;".repeat(39));
        c.is("kept", s.image(1), true);
        Check.port(s, "body x 5;body y 5;kind z 1;line 0;");
        for (int i = 0; i < 5; i++) {
            s.write(0, 1, 99, 0);
            s.strike(i);
        }
        s.dies(0, 1);
        c.is("restored", s.restore(1), true);
        int[] due = {9, 6, 9, 8, 60, 52, 0, 40, 0};
        for (int what = 0; what < 9; what++) {
            c.is("count(" + what + ")", s.count(what), due[what]);
        }
        for (int b = 0; b < 9; b++) {
            c.is("ROOM", s.body(b, 0), 99 - b);
            c.is("kin", s.body(b, 1), b == 8 ? 7 : -1);
            c.is("lives", s.body(b, 2), b == 8 ? 0 : 1);
        }
        int[] sort = {0, 1, 2, 3, 4, 0};
        for (int k = 0; k < 6; k++) {
            c.is("SIZE", s.kind(k, 0), k == 5 ? 1 : k + 1);
            c.is("sort", s.kind(k, 1), sort[k]);
        }
        for (int d = 0; d < 5; d++) {
            c.is("state", s.deal(d, 5), 0);
            c.is("SUM", s.deal(d, 2), 40 + d);
        }
        c.is("the heir with himself", s.deal(7, 5), 2);
        c.is("scarred", s.read(58, 1), 0);
        c.is("struck", s.deal(59, 5), 1);
        c.is("a line", s.body(3, 6), 9);
        c.is("no line", s.body(0, 6), 0);
        c.is("a NAME", Check.skin(s, 8).startsWith("- j 47 hijklmno;"), true);
        c.is("nothing can be undone", s.undo(), -1);
        c.is("the BOOK", s.judge(1), -1);
        c.is("its first", s.read(57, 0), 0);
        c.is("its others", s.count(6), 39);
    }

    private static void stays() {
        c.part("promise 47: the tape, and what other calls told last, stays; nothing can be undone");
        SkinLedger s = Check.at(Check.PORT);
        s.year();
        s.image(0);
        s.image(1);
        s.year();
        s.feed(0x79656172, 0x3b000000, 0, 0, 0);
        s.end(5);
        c.is("image leaves the tape", s.image(1) ? s.count(8) : -1, 5);
        c.is("a refused one leaves what can be undone", s.restore(2), false);
        c.is("undo", s.undo(), 1);
        c.is("image leaves what can be undone", s.image(1), true);
        c.is("undo", s.undo(), 0);
        s.year();
        c.is("restore", s.restore(0), true);
        c.is("nothing", s.undo(), -1);
        c.is("the tape", s.count(8), 5);
        c.is("it is a BOOK yet", s.book(), 1);
        c.is("LINES", s.count(7), 1);
        s.restore(0);
        c.is("the BOOK is as kept: none", s.count(7), 0);
    }

    public static void main(String[] args) {
        places();
        empty();
        all();
        stays();
        c.end("ImageBoundsTest");
    }
}
