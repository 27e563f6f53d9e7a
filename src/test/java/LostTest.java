/** Promises 39 to 44: what is LOST, what fits, what is OWED, and by whom it is known. */
public final class LostTest {
    private static final Check c = new Check();

    private static SkinLedger withLost() {
        SkinLedger s = Check.at(Check.PORT);
        s.write(0, 1, 5, 0);
        s.write(0, 3, 8, 1);
        s.write(3, 0, 7, 2);
        s.write(1, 3, 6, 3);
        s.write(1, 0, 4, 4);
        return s;
    }

    private static void scarBoth(SkinLedger s, int d) {
        s.scar(d, 0);
        s.scar(d, 1);
    }

    private static void promise39() {
        c.part("promise 39");
        SkinLedger s = withLost();
        c.is("none", s.lost(-1), 0);
        c.is("none", s.lost(0), -1);
        s.scar(0, 0);
        c.is("KNOWN by the DEBT", s.lost(-1), 0);
        s.scar(0, 1);
        s.scar(2, 1);
        scarBoth(s, 3);
        scarBoth(s, 4);
        c.is("three", s.lost(-1), 3);
        c.is("the first", s.lost(0), 0);
        c.is("joint by one", s.lost(1), 2);
        c.is("false ones are not", s.lost(2), 4);
        c.is("no more", s.lost(3), -1);
        c.is("below", s.lost(-2), -1);
        s.strike(2);
        c.is("open ones", s.lost(-1), 2);
        s.scar(1, 0);
        s.dies(3, 1);
        c.is("a buried one's MARK", s.lost(-1), 3);
        c.is("it", s.lost(1), 1);
    }

    private static void promise40and41() {
        c.part("promise 40, 41");
        SkinLedger s = new SkinLedger();
        c.is("ahead of any", s.fit(0, 0), -1);
        c.is("nobody, none LOST", s.fits(1), 1);
        c.is("none", s.fit(0, 0), -1);
        s = withLost();
        int[] nets = {5 + 4 - 7 - 8, -5 + 8, 0, 7 - 4 - 0};
        Check.nets(s, nets);
        c.is("nothing LOST", s.fits(20), 1);
        c.is("none", s.fit(0, 0), -1);
        Check.nets(s, -6, 3, 0, 4);
        c.is("not as told", s.fits(20), 0);
        Check.nets(s, -6, 3, 1, 3);
        c.is("also of one without DEALS", s.fits(20), 0);
        s.scar(2, 0);
        Check.nets(s, -6, 3, 0, 3);
        c.is("joint: its SUM", s.fits(20), 1);
        c.is("least", s.fit(0, 0), 7);
        c.is("greatest", s.fit(0, 1), 7);
        c.is("another what", s.fit(0, 2), -1);
        c.is("another what", s.fit(0, -1), -1);
        c.is("no such", s.fit(1, 0), -1);
        c.is("no such", s.fit(-1, 0), -1);
        Check.nets(s, -19, 3, 0, 16);
        c.is("20", s.fits(20), 1);
        c.is("greatest", s.fit(0, 1), 20);
        Check.nets(s, -19, 3, 0, 16);
        c.is("to 19", s.fits(19), 0);
        c.is("none FITS", s.fit(0, 1), -1);
        Check.nets(s, 1, 3, 0, -4);
        c.is("not 0", s.fits(20), 0);
        // halved and doubled
        scarBoth(s, 1);
        scarBoth(s, 4);
        Check.nets(s, -6, 3, 0, 3);
        // joint and halved are between a and d: 7 - 4; doubled 8 of a to b
        c.is("one joint SUM for each halved one", s.fits(20), 20);
        // joint s with halved t: s - t/2 = 3, t/2 from 0 to 10, s from 3 to 13
        c.is("halved", s.fit(0, 0), 1);
        c.is("halved", s.fit(0, 1), 20);
        c.is("joint", s.fit(1, 0), 3);
        c.is("joint", s.fit(1, 1), 13);
        c.is("doubled", s.fit(2, 0), 4);
        c.is("doubled", s.fit(2, 1), 4);
    }

    private static void fitsWrongly() {
        c.part("promise 40, not as told");
        SkinLedger s = withLost();
        scarBoth(s, 0);
        Check.nets(s, -6, 3, 0, 3);
        c.is("fits", s.fits(5), 1);
        int[] most = {0, 21, -1, Integer.MAX_VALUE};
        for (int n : most) {
            Check.nets(s, -6, 3, 0, 3);
            c.is("most " + n, s.fits(n), -1);
            c.is("the tape is empty", s.count(8), 0);
            c.is("the latest that was not NONE", s.fit(0, 0), 5);
        }
        Check.nets(s, -6, 3, 0);
        c.is("too few", s.fits(5), -1);
        Check.nets(s, -6, 3, 0, 3, 0);
        c.is("too many", s.fits(5), -1);
        s.end(0);
        c.is("none", s.fits(5), -1);
        c.is("the latest that was not NONE", s.fit(0, 1), 5);
        s.scar(2, 0);
        scarBoth(s, 1);
        scarBoth(s, 4);
        Check.nets(s, -6, 3, 0, 3);
        c.is("four", s.fits(5) >= 0, true);
        s.write(3, 0, 5, 0);
        scarBoth(s, 5);
        c.is("five LOST", s.lost(-1), 5);
        Check.nets(s, -6, 3, 0, 3);
        c.is("more than 4", s.fits(5), -1);
        // dead ones are of no matter, but their bytes are told
        s = withLost();
        scarBoth(s, 0);
        s.dies(2, 0);
        Check.nets(s, -6, 3, 50, 3);
        c.is("a dead one's NET", s.fits(5), 1);
        Check.nets(s, -6, 3, 3);
        c.is("his bytes", s.fits(5), -1);
        Check.nets(s, -6, 3, -10000, 3);
        c.is("fit", s.fits(4), 0);
        // four of one and the same pair
        s = Check.at("body a 99;body b 99;kind p 1;");
        for (int i = 0; i < 4; i++) {
            s.write(0, 1, 5, 0);
            scarBoth(s, i);
        }
        Check.nets(s, 42, -42);
        c.is("all ways", s.fits(20), 5340);
        c.is("least", s.fit(3, 0), 1);
        c.is("greatest", s.fit(3, 1), 20);
        Check.nets(s, 4, -4);
        c.is("one way", s.fits(20), 1);
        c.is("greatest", s.fit(0, 1), 1);
        Check.nets(s, 80, -80);
        c.is("one way", s.fits(20), 1);
        c.is("least", s.fit(0, 0), 20);
        Check.nets(s, 81, -81);
        c.is("none", s.fits(20), 0);
        Check.nets(s, 42, -41);
        c.is("none", s.fits(20), 0);
    }

    private static void promise42() {
        c.part("promise 42");
        SkinLedger s = withLost();
        c.is("by all", s.owed(0, 15, 0), 5 + 4);
        c.is("by all", s.owed(0, 15, 1), 9);
        c.is("by none", s.owed(0, 0, 0), 0);
        c.is("by none", s.owed(0, 0, 1), 0);
        c.is("by b", s.owed(0, 2, 0), 5);
        c.is("by b", s.owed(0, 2, 1), 5);
        c.is("by d: no MARK of the other", s.owed(0, 8, 1), 4);
        c.is("joint by both", s.owed(3, 9, 0), 7);
        c.is("joint by one", s.owed(3, 1, 0), 0);
        c.is("joint by one", s.owed(3, 1, 1), 99);
        c.is("false", s.owed(1, 8, 1), 0);
        c.is("doubled", s.owed(1, 1, 0), 8);
        scarBoth(s, 0);
        scarBoth(s, 1);
        scarBoth(s, 3);
        scarBoth(s, 4);
        c.is("scarred", s.owed(0, 15, 0), 0);
        c.is("99 and half of it", s.owed(0, 15, 1), 99 + 49);
        c.is("twice 99, 0 of a false one", s.owed(1, 15, 1), 198);
        c.is("with a MARK on one found", s.owed(0, 8, 1), 49);
        s.strike(4);
        c.is("open ones", s.owed(1, 15, 1), 0);
        c.is("no such", s.owed(4, 15, 0), -1);
        c.is("no such", s.owed(-1, 15, 0), -1);
        c.is("no such set", s.owed(0, 16, 0), -1);
        c.is("no such set", s.owed(0, -1, 0), -1);
        c.is("another what", s.owed(0, 15, 2), -1);
        c.is("another what", s.owed(0, 15, -1), -1);
        s = withLost();
        s.dies(3, 0);
        c.is("the heir's, by the dead", s.owed(0, 8, 0), 0);
        c.is("the debt to b, by the dead", s.owed(1, 8, 0), 0);
        s.write(1, 2, 9, 0);
        s.dies(2, 0);
        c.is("by a dead one found", s.owed(1, 4, 0), 9);
        c.is("the dead lend nothing", s.owed(3, 15, 1), 0);
    }

    private static void promise43() {
        c.part("promise 43");
        SkinLedger s = withLost();
        c.is("a", s.proof(0), 1);
        c.is("b", s.proof(1), 1);
        c.is("c", s.proof(2), 0);
        c.is("d: joint", s.proof(3), 9);
        c.is("no such", s.proof(4), -1);
        c.is("no such", s.proof(-1), -1);
        s.scar(0, 0);
        c.is("b and a", s.proof(0), 3);
        s.scar(1, 0);
        c.is("b and d", s.proof(0), 10);
        scarBoth(s, 0);
        c.is("what none knows is not OWED", s.proof(0), 8);
        s.dies(3, 2);
        c.is("by the dead, too", s.proof(0), 8);
        // fewest ahead of the least bits
        s = Check.at("body a 9;body b 9;body d 9;body e 9;kind p 1;kind h 1 halved;");
        s.write(3, 0, 5, 0);
        s.write(3, 1, 5, 0);
        c.is("e alone", s.proof(3), 8);
        s.scar(0, 0);
        c.is("a and b", s.proof(3), 3);
        s.write(3, 2, 5, 0);
        c.is("a and e", s.proof(3), 9);
        s.write(2, 0, 1, 1);
        c.is("a VALUE of 0 needs none", s.proof(2), 0);
    }

    private static void promise44() {
        c.part("promise 44");
        SkinLedger s = withLost();
        c.is("none", s.witness(5), -1);
        c.is("none", s.witness(-1), -1);
        c.is("the least", s.witness(0), 1);
        c.is("the least", s.witness(1), 1);
        c.is("joint: both", s.witness(2), 9);
        c.is("false, too", s.witness(3), 2);
        s.scar(0, 0);
        c.is("b", s.witness(0), 2);
        s.scar(0, 1);
        c.is("none", s.witness(0), -1);
        s.scar(2, 1);
        c.is("joint by one", s.witness(2), -1);
        s.dies(0, 2);
        c.is("a dead one, too", s.witness(1), 1);
        s.strike(1);
        c.is("struck, too", s.witness(1), 1);
        s = Check.at("body a 9;body b 1 kin a;kind j 2 joint;kind p 2;");
        s.write(0, 1, 5, 0);
        c.is("joint on one", s.witness(0), 1);
        s.write(1, 0, 3, 1);
        s.cut();
        c.is("came off", s.witness(1), -1);
        c.is("joint on one", s.witness(0), 1);
        s = Check.at("body a 9;body b 9;body d 9;kind p 2;");
        s.write(2, 1, 5, 0);
        c.is("as bits", s.witness(0), 2);
        s.scar(0, 1);
        c.is("the CREDIT", s.witness(0), 4);
    }

    public static void main(String[] args) {
        promise39();
        promise40and41();
        fitsWrongly();
        promise42();
        promise43();
        promise44();
        c.end("LostTest");
    }
}
