import java.util.NoSuchElementException;

/** Each call that is refused, and each that only looks: all stays as it was. */
public final class RefusedTest {
    private static final Check c = new Check();
    private static final long THROWN = 1L << 40;
    private static final int LEAST = Integer.MIN_VALUE;
    private static final int MOST = Integer.MAX_VALUE;

    private interface Call {
        int on(SkinLedger s);
    }

    private interface Made {
        SkinLedger make();
    }

    private static long answer(Call call, SkinLedger s) {
        try {
            return call.on(s);
        } catch (NoSuchElementException e) {
            return THROWN;
        }
    }

    /** Of two that are made alike one is asked the call; but for the parts named, what is told by both is the same. */
    private static void same(String name, Made made, Call call, long due, int... but) {
        for (int part = 0; part < Told.PARTS; part++) {
            boolean isHeld = true;
            for (int b : but) {
                isHeld &= b != part;
            }
            SkinLedger asked = made.make();
            long answer = answer(call, asked);
            if (part == 0) {
                c.is(name, answer, due);
            }
            if (isHeld) {
                String was = Told.part(made.make(), part);
                c.is(name + " leaves part " + part, Told.part(asked, part).equals(was), true);
            }
        }
    }

    private static final String TEXT = "body a 18;body b 10 kin a;body c 6;body d 30 kin c;"
            + "kind p 2;kind h 3 halved;kind j 2 joint;kind f 1 false;kind w 2 doubled;kind z 9;line 2;dot 1;";

    /** DEALS open, struck, closed, scarred and LOST, a dead one, a RING, a BOOK, two images, and each of the calls that tell on. */
    private static SkinLedger rich() {
        SkinLedger s = Check.at(TEXT);
        s.write(2, 3, 6, 4);
        s.image(1);
        s.write(0, 1, 9, 0);
        s.write(1, 0, 5, 0);
        s.write(0, 3, 8, 1);
        s.write(3, 0, 7, 2);
        s.strike(0);
        s.year();
        s.cut();
        s.dies(2, 0);
        s.write(1, 0, 6, 0);
        s.scar(3, 0);
        s.scar(3, 1);
        Check.book(s, "year;deal a b 5 p;scar 1 debt;ring;strike 3;strike 3;");
        s.judge(0);
        s.ring();
        s.image(0);
        Check.bytes(s, 0, 1, 0, 3, 1, 1, 0, 0, 0);
        s.pack();
        Check.nets(s, -6, 2, 0, 4);
        s.fits(9);
        s.skin(0);
        Check.port(s, "body a 0;");
        Check.text(s, "body tape 7;dot 3;");
        return s;
    }

    /** All is made so that it is told by rich() itself, not by a PORT without anything. */
    private static void richIsRich() {
        c.part("what is held against");
        SkinLedger s = rich();
        c.is("DEALS", s.count(4), 6);
        c.is("open", s.count(5), 4);
        c.is("fault", s.fault(), 2);
        c.is("RING", s.ringAt(1), 5);
        c.is("judged", s.judged(0), 4);
        c.is("LINES done", s.judged(1), 5);
        c.is("packed", s.packed(0), 0);
        c.is("fit", s.fit(0, 0), 6);
        c.is("byteAt", s.byteAt(0), '+');
        c.is("lost", s.lost(-1), 1);
        c.is("tape", s.count(8), 18);
        c.is("place 0", s.restore(0), true);
        c.is("DEALS of it", s.count(4), 6);
        c.is("place 1", s.restore(1), true);
        c.is("DEALS of it", s.count(4), 1);
    }

    private static SkinLedger sixty() {
        SkinLedger s = Check.at("body a 99;body b 99;kind p 1;");
        for (int i = 0; i < 60; i++) {
            s.write(i % 2, 1 - i % 2, 5, 0);
        }
        return s;
    }

    private static SkinLedger lateYear() {
        SkinLedger s = Check.at(TEXT);
        for (int i = 0; i < 99; i++) {
            s.year();
        }
        return s;
    }

    private static SkinLedger fullTape() {
        SkinLedger s = Check.at(TEXT);
        s.write(0, 1, 5, 0);
        for (int i = 0; i < 32; i++) {
            s.feed(i == 0 ? 0x6c696e65 : 0x20202020, i == 0 ? 0x20373b20 : 0x20202020, 0x20202020, 0x20202020, 0x20202020);
        }
        return s;
    }

    private static SkinLedger noRing() {
        SkinLedger s = Check.at(TEXT);
        s.write(0, 1, 5, 0);
        s.write(1, 0, 5, 1);
        s.write(1, 3, 5, 0);
        return s;
    }

    private static SkinLedger tooManyLost() {
        SkinLedger s = Check.at("body a 99;body b 99;kind p 1;");
        for (int i = 0; i < 5; i++) {
            s.write(0, 1, 5, 0);
            s.scar(i, 0);
            if (i == 3) {
                s.scar(2, 1);
                Check.nets(s, 18, -18);
                s.fits(9);
            }
        }
        for (int i = 0; i < 5; i++) {
            s.scar(i, 1);
        }
        Check.nets(s, 20, -20);
        return s;
    }

    private static void texts() {
        c.part("promise 2: none come, if it would have more than 640");
        same("feed", RefusedTest::fullTape, s -> s.feed(1, 2, 3, 4, 5), -1);
        c.part("promise 3: false");
        for (int n : new int[] {-1, 19, LEAST, MOST}) {
            same("end", RefusedTest::rich, s -> s.end(n) ? 1 : 0, 0);
        }
        c.part("promise 4: the PORT stays");
        for (String text : new String[] {"?", "body a 5;line 10;", "body a 5;kind a 5;", "kind p 1;body", " ".repeat(601)}) {
            same("port of " + text, RefusedTest::rich, s -> Check.port(s, text) < 0 ? 1 : 0, 1, Told.LATEST, Told.TAPE);
        }
        c.part("promise 33: the BOOK stays");
        for (String text : new String[] {"?", "year;strike 60;", "year;dies z z;", "ring;".repeat(41), "year;year"}) {
            same("book of " + text, RefusedTest::rich, s -> Check.book(s, text) < 0 ? 1 : 0, 1, Told.LATEST, Told.TAPE);
        }
    }

    private static void throwing() {
        c.part("A call that throws changes nothing");
        for (int b : new int[] {-1, 4, LEAST, MOST}) {
            same("body", RefusedTest::rich, s -> s.body(b, 0), THROWN);
        }
        for (int what : new int[] {-1, 7}) {
            same("body", RefusedTest::rich, s -> s.body(0, what), THROWN);
        }
        for (int k : new int[] {-1, 6}) {
            same("kind", RefusedTest::rich, s -> s.kind(k, 0), THROWN);
        }
        for (int what : new int[] {-1, 2}) {
            same("kind", RefusedTest::rich, s -> s.kind(0, what), THROWN);
        }
        for (int d : new int[] {-1, 6, 60}) {
            same("deal", RefusedTest::rich, s -> s.deal(d, 0), THROWN);
        }
        for (int what : new int[] {-1, 10}) {
            same("deal", RefusedTest::rich, s -> s.deal(0, what), THROWN);
        }
    }

    private static void acts() {
        c.part("promise 11: WRITE not done");
        same("no lender", RefusedTest::rich, s -> s.write(-1, 1, 5, 0), -1);
        same("no lender", RefusedTest::rich, s -> s.write(4, 1, 5, 0), -1);
        same("no debtor", RefusedTest::rich, s -> s.write(0, -1, 5, 0), -1);
        same("no debtor", RefusedTest::rich, s -> s.write(0, 4, 5, 0), -1);
        same("no SUM", RefusedTest::rich, s -> s.write(0, 1, 0, 0), -1);
        same("no SUM", RefusedTest::rich, s -> s.write(0, 1, 100, 0), -1);
        same("no KIND", RefusedTest::rich, s -> s.write(0, 1, 5, -1), -1);
        same("no KIND", RefusedTest::rich, s -> s.write(0, 1, 5, 6), -1);
        same("1", RefusedTest::rich, s -> s.write(0, 0, 5, 0), -11);
        same("1, a dead lender", RefusedTest::rich, s -> s.write(2, 0, 5, 0), -11);
        same("1, a dead debtor", RefusedTest::rich, s -> s.write(0, 2, 5, 0), -11);
        same("2", RefusedTest::rich, s -> s.write(0, 1, 5, 5), -12);
        same("3", RefusedTest::rich, s -> s.write(3, 0, 5, 5), -13);
        same("7", RefusedTest::sixty, s -> s.write(0, 1, 5, 0), -17);
        c.part("promise 12: STRIKE not done");
        same("4, none", RefusedTest::rich, s -> s.strike(-1), 4);
        same("4, none", RefusedTest::rich, s -> s.strike(6), 4);
        same("4, struck", RefusedTest::rich, s -> s.strike(0), 4);
        same("4, closed", RefusedTest::rich, s -> s.strike(2), 4);
        same("5", RefusedTest::noLine, s -> s.strike(0), 5);
        c.part("promise 13: SCAR not done");
        same("NONE", RefusedTest::rich, s -> s.scar(1, -1), -1);
        same("NONE", RefusedTest::rich, s -> s.scar(1, 2), -1);
        same("4, none", RefusedTest::rich, s -> s.scar(-1, 0), 4);
        same("4, none", RefusedTest::rich, s -> s.scar(6, 1), 4);
        same("4, struck", RefusedTest::rich, s -> s.scar(0, 0), 4);
        same("4, closed", RefusedTest::rich, s -> s.scar(2, 1), 4);
        same("6, scarred", RefusedTest::rich, s -> s.scar(3, 0), 6);
        same("6, buried", RefusedTest::buried, s -> s.scar(0, 1), 6);
        c.part("promises 17 to 20: RING, DIES, YEAR, undo not done");
        same("cut", RefusedTest::noRing, s -> s.cut(), -1);
        same("dies, no such one", RefusedTest::rich, s -> s.dies(-1, 0), -1);
        same("dies, no such one", RefusedTest::rich, s -> s.dies(4, 0), -1);
        same("dies, no such heir", RefusedTest::rich, s -> s.dies(0, -1), -1);
        same("dies, no such heir", RefusedTest::rich, s -> s.dies(0, 4), -1);
        same("dies, one", RefusedTest::rich, s -> s.dies(0, 0), -11);
        same("dies, dead", RefusedTest::rich, s -> s.dies(2, 0), -11);
        same("dies, a dead heir", RefusedTest::rich, s -> s.dies(0, 2), -11);
        same("year", RefusedTest::lateYear, s -> s.year(), -1);
        same("undo", RefusedTest::restored, s -> s.undo(), -1);
    }

    private static SkinLedger noLine() {
        SkinLedger s = Check.at("body a 5;body b 3;kind p 2;kind q 1;line 2;");
        s.write(0, 1, 5, 0);
        return s;
    }

    private static SkinLedger buried() {
        SkinLedger s = Check.at(TEXT);
        s.write(0, 1, 5, 0);
        s.dies(1, 2);
        return s;
    }

    private static SkinLedger restored() {
        SkinLedger s = rich();
        s.restore(0);
        return s;
    }

    private static SkinLedger wrongAtOnce() {
        SkinLedger s = rich();
        Check.book(s, "scar 0 debt;year;");
        return s;
    }

    private static void searches() {
        c.part("promise 34: -2: another lives; a BOOK of which nothing is done");
        same("judge", RefusedTest::rich, s -> s.judge(-1), -2);
        same("judge", RefusedTest::rich, s -> s.judge(2), -2);
        same("judge", RefusedTest::wrongAtOnce, s -> s.judge(0), 0, Told.LATEST);
        same("judge", RefusedTest::wrongAtOnce, s -> s.judge(1), 0, Told.LATEST);
        same("judge", RefusedTest::lateYear, s -> s.judge(1), -1, Told.LATEST);
        c.part("promise 36: NONE: not as told");
        int[][] packs = {{}, {0}, {0, 1}, {4, 1, 0}, {0, 4, 0}, {0, 1, 6}, {255, 1, 0}, new int[21]};
        for (int[] bytes : packs) {
            same("pack", RefusedTest::rich, s -> packOf(s, bytes), -1, Told.TAPE);
        }
        c.part("promise 38: NONE");
        same("price", RefusedTest::rich, s -> s.price(-1, 1), -1);
        same("price", RefusedTest::rich, s -> s.price(4, 1), -1);
        same("price", RefusedTest::rich, s -> s.price(0, 0), -1);
        same("price", RefusedTest::rich, s -> s.price(0, 100), -1);
        c.part("promise 40: NONE: not as told, more than 4 LOST");
        same("fits", RefusedTest::rich, s -> s.fits(9), -1, Told.TAPE);
        same("fits to 0", RefusedTest::rich, s -> fitsOf(s, 0), -1, Told.TAPE);
        same("fits to 21", RefusedTest::rich, s -> fitsOf(s, 21), -1, Told.TAPE);
        same("fits", RefusedTest::tooManyLost, s -> s.fits(9), -1, Told.TAPE);
        c.part("promises 45 to 47: NONE, false");
        same("lasts", RefusedTest::rich, s -> s.lasts(-1, 1), -1);
        same("lasts", RefusedTest::rich, s -> s.lasts(3, 1), -1);
        for (int k : new int[] {-1, 2}) {
            same("image", RefusedTest::rich, s -> s.image(k) ? 1 : 0, 0);
            same("restore", RefusedTest::rich, s -> s.restore(k) ? 1 : 0, 0);
        }
        for (int k = 0; k < 2; k++) {
            int place = k;
            same("restore", RefusedTest::noRing, s -> s.restore(place) ? 1 : 0, 0);
        }
    }

    private static int packOf(SkinLedger s, int[] bytes) {
        Check.bytes(s, bytes);
        return s.pack();
    }

    private static int fitsOf(SkinLedger s, int most) {
        Check.nets(s, 0, 0, 0, 0);
        return s.fits(most);
    }

    /** A call that only looks, with what it may be asked: it leaves all, also what other calls told last. */
    private static void looks() {
        c.part("calls that look");
        same("looks at a PORT", RefusedTest::rich, s -> {
            for (int i = -2; i < 11; i++) {
                s.count(i);
                for (int j = -2; j < 5; j++) {
                    s.read(i, j);
                    s.mark(i, j);
                }
            }
            return s.fault();
        }, 2);
        same("looks at DEALS", RefusedTest::rich, s -> {
            for (int i = -1; i < 7; i++) {
                s.fullest(i);
                s.greatest(i);
                s.witness(i);
                s.proof(i);
                s.lost(i);
                s.ringOf(i);
                s.ringAt(i);
                s.packed(i);
                s.judged(i);
                s.byteAt(i);
            }
            return s.settled() >= 0 ? 1 : 0;
        }, 1);
        same("looks by two numbers", RefusedTest::rich, s -> {
            for (int i = -1; i < 5; i++) {
                for (int j = -1; j < 3; j++) {
                    s.aged(i, j);
                    s.owes(i, j);
                    s.chain(i, j);
                    s.trade(i, j);
                    s.can(i, j);
                    s.fit(i, j);
                }
            }
            return 0;
        }, 0);
        same("looks by three numbers", RefusedTest::rich, s -> {
            for (int i = -1; i < 5; i++) {
                for (int j = -1; j < 5; j++) {
                    s.between(i, j, -1);
                    s.ringsFor(i, j, 5);
                    s.ringsFor(i, j, 0);
                    s.owed(i, j, 1);
                }
            }
            return 0;
        }, 0);
        same("price", RefusedTest::rich, s -> s.price(0, 9), 0);
        same("lasts by law 0", RefusedTest::rich, s -> s.lasts(0, 5) > 0 ? 1 : 0, 1);
        same("lasts by law 1", RefusedTest::rich, s -> s.lasts(1, 5) > 0 ? 1 : 0, 1);
        same("lasts by law 2", RefusedTest::rich, s -> s.lasts(2, 5) > 0 ? 1 : 0, 1);
        c.part("calls that tell anew what is told on, and no more");
        same("judge", RefusedTest::rich, s -> s.judge(0), 5, Told.LATEST);
        same("ring", RefusedTest::rich, s -> s.ring() >= 0 ? 1 : 0, 1, Told.LATEST);
        same("a ring() that there was not", RefusedTest::ringGone, s -> s.ring(), -1);
        same("skin", RefusedTest::rich, s -> s.skin(3) > 0 ? 1 : 0, 1, Told.LATEST);
        same("skin of no such BODY", RefusedTest::rich, s -> s.skin(4), -1);
        same("pack", RefusedTest::rich, s -> packOf(s, new int[] {0, 1, 0}), 1, Told.LATEST, Told.TAPE);
        same("fits", RefusedTest::rich, s -> fitsOf(s, 9) >= 0 ? 1 : 0, 1, Told.LATEST, Told.TAPE);
        same("image", RefusedTest::rich, s -> s.image(0) ? 1 : 0, 1);
    }

    /** A RING told by ring() that is none any more. */
    private static SkinLedger ringGone() {
        SkinLedger s = Check.at(TEXT);
        s.write(0, 1, 5, 0);
        s.write(1, 0, 5, 0);
        s.ring();
        s.strike(0);
        return s;
    }

    public static void main(String[] args) {
        richIsRich();
        texts();
        throwing();
        acts();
        searches();
        looks();
        c.end("RefusedTest");
    }
}
