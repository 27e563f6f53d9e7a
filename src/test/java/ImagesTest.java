/** Promises 46 to 48: images and counts. */
public final class ImagesTest {
    private static final Check c = new Check();

    private static void promise46and47() {
        c.part("promise 46, 47");
        SkinLedger s = new SkinLedger();
        c.is("no such", s.image(2), false);
        c.is("no such", s.image(-1), false);
        c.is("nothing kept", s.restore(0), false);
        c.is("nothing kept", s.restore(1), false);
        c.is("no such", s.restore(2), false);
        c.is("no such", s.restore(-1), false);
        c.is("of nothing", s.image(1), true);
        Check.port(s, Check.PORT);
        s.write(0, 1, 9, 0);
        s.write(1, 3, 9, 1);
        s.scar(0, 1);
        s.strike(1);
        s.year();
        s.dies(2, 0);
        Check.book(s, "year;ring;");
        c.is("kept", s.image(0), true);
        c.is("undo stays", s.undo(), 5);
        c.is("place 1 is another", s.restore(1), true);
        c.is("of nothing", s.count(0), 0);
        c.is("no DEALS", s.count(4), 0);
        c.is("no BOOK", s.count(7), 0);
        Check.port(s, "body z 5;line 7;dot 3;");
        s.feed(1, 2, 3, 4, 5);
        c.is("restored", s.restore(0), true);
        c.is("the tape stays", s.count(8), 20);
        c.is("BODIES", s.count(0), 4);
        c.is("KINDS", s.count(1), 5);
        c.is("line", s.count(2), 1);
        c.is("dot", s.count(3), 1);
        c.is("DEALS", s.count(4), 2);
        c.is("open", s.count(5), 1);
        c.is("YEAR", s.count(6), 1);
        c.is("BOOK", s.count(7), 2);
        c.is("scarred", s.read(0, 1), 0);
        c.is("c is dead", s.body(2, 2), 0);
        c.is("a lives", s.body(0, 2), 1);
        c.is("lines", s.body(3, 6), 1);
        c.is("LEFT", s.body(3, 3), 26);
        c.is("kin", s.body(1, 1), 0);
        c.is("sort", s.kind(2, 1), 4);
        c.skinIs(s, 1, "- a ? p;+ d 9 hx;");
        c.is("the BOOK's LINES", s.judge(1), 1);
        c.is("YEAR", s.count(6), 2);
        c.is("nothing could be undone ahead of that", s.undo(), 0);
        c.is("nothing", s.undo(), -1);
        s.write(0, 1, 5, 0);
        s.restore(0);
        c.is("nothing", s.undo(), -1);
        c.is("again as kept", s.count(4), 2);
        s.write(0, 1, 5, 0);
        s.image(0);
        s.write(0, 1, 5, 0);
        s.restore(0);
        c.is("kept anew", s.count(4), 3);
        // nothing of a DEAL is of the one that stood in its place
        s = Check.at(Check.PORT);
        s.year();
        s.year();
        s.write(0, 3, 9, 1);
        s.write(3, 0, 8, 2);
        s.scar(0, 0);
        s.scar(1, 1);
        s.strike(1);
        s.image(0);
        Check.port(s, "body x 50;body y 50;kind z 1;");
        s.write(1, 0, 50, 0);
        s.write(0, 1, 60, 0);
        s.write(0, 1, 60, 0);
        s.restore(0);
        int[] first = {0, 3, 9, 1, 2, 0, 0, 3, 1, 4};
        int[] second = {3, 0, 8, 2, 2, 1, 3, 0, 0, 8};
        for (int what = 0; what < 10; what++) {
            c.is("deal(0, " + what + ")", s.deal(0, what), first[what]);
            c.is("deal(1, " + what + ")", s.deal(1, what), second[what]);
        }
        c.is("two DEALS", s.count(4), 2);
    }

    private static void whatStays() {
        c.part("promise 47, what stays");
        SkinLedger s = Check.at(Check.PORT);
        s.image(0);
        s.write(0, 1, 9, 0);
        s.write(1, 0, 5, 0);
        s.ring();
        Check.bytes(s, 0, 1, 0);
        s.pack();
        Check.book(s, "year;ring;ring;");
        s.judge(0);
        s.skin(0);
        s.scar(0, 0);
        s.scar(0, 1);
        Check.nets(s, 4, -4, 0, 0);
        c.is("fits", s.fits(9), 1);
        Check.book(s, "year");
        c.is("restore", s.restore(0), true);
        c.is("ringAt", s.ringAt(1), 1);
        c.is("packed", s.packed(0), 0);
        c.is("judged", s.judged(0), 8);
        c.is("byteAt", s.byteAt(0), '+');
        c.is("fit", s.fit(0, 1), 9);
        c.is("fault", s.fault(), 1);
    }

    private static void promise48() {
        c.part("promise 48");
        SkinLedger s = Check.at("body a 99;body b 99;kind p 1;kind q 2;kind r 3;line 4;dot 5;");
        s.write(0, 1, 9, 0);
        s.write(1, 0, 5, 0);
        s.write(1, 0, 5, 0);
        s.strike(0);
        for (int i = 0; i < 6; i++) {
            s.year();
        }
        Check.book(s, "year;year;year;year;year;year;year;");
        s.feed(0, 0, 0, 0, 0);
        s.end(8);
        int[] due = {2, 3, 4, 5, 3, 2, 6, 7, 8};
        for (int what = 0; what < due.length; what++) {
            c.is("count(" + what + ")", s.count(what), due[what]);
        }
        c.is("another what", s.count(9), -1);
        c.is("another what", s.count(-1), -1);
        c.is("another what", s.count(Integer.MIN_VALUE), -1);
    }

    /** Each call with numbers far from any that are told: none throws but those that the document names. */
    private static void farNumbers() {
        c.part("far numbers");
        int[] far = {Integer.MIN_VALUE, Integer.MIN_VALUE + 1, -1000, -2, -1, 0, 1, 9, 31, 32, 60, 64, 99, 100, 512,
            640, 1 << 30, Integer.MAX_VALUE};
        for (int a : far) {
            SkinLedger s = Check.at(Check.PORT);
            for (int b : far) {
                for (int d : far) {
                    SkinLedger t = Check.at(Check.PORT);
                    t.write(a, b, d, 0);
                    t.write(0, 1, a, b);
                    t.owed(a, b, d);
                    t.between(a, b, d);
                    t.ringsFor(a, b, d);
                }
                s.read(a, b);
                s.mark(a, b);
                s.scar(a, b);
                s.dies(a, b);
                s.can(a, b);
                s.aged(a, b);
                s.owes(a, b);
                s.chain(a, b);
                s.trade(a, b);
                s.price(a, b);
                s.fit(a, b);
                s.lasts(a, b);
                s.feed(a, b, a, b, a);
                s.fits(a);
                farThrown(s, a, b);
            }
            s.end(a);
            s.strike(a);
            s.ringAt(a);
            s.ringOf(a);
            s.fullest(a);
            s.skin(a);
            s.byteAt(a);
            s.greatest(a);
            s.judge(a);
            s.judged(a);
            s.packed(a);
            s.lost(a);
            s.proof(a);
            s.witness(a);
            s.image(a);
            s.restore(a);
            s.count(a);
        }
        c.is("no call threw", true, true);
    }

    private static void farThrown(SkinLedger s, int a, int b) {
        if (a < 0 || a > 3 || b < 0 || b > 6) {
            c.noBody(s, a, b);
        }
        if (a < 0 || a > 4 || b < 0 || b > 1) {
            c.noKind(s, a, b);
        }
        c.noDeal(s, a, b);
    }

    public static void main(String[] args) {
        promise46and47();
        whatStays();
        promise48();
        farNumbers();
        c.end("ImagesTest");
    }
}
