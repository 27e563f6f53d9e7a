/** The bounds of what is LOST, what FITS, what is OWED and by whom it is known: promises 39 to 44. */
public final class LostBoundsTest {
    private static final Check c = new Check();
    private static final int LEAST = Integer.MIN_VALUE;
    private static final int MOST = Integer.MAX_VALUE;
    private static final String TWO = "body a 99;body b 99;kind p 1;kind w 1 doubled;kind h 1 halved;kind f 1 false;kind j 1 joint;";

    private static void write(SkinLedger s, int lender, int debtor, int sum, int kind, boolean isLost) {
        int d = s.write(lender, debtor, sum, kind);
        c.is("write", d >= 0, true);
        if (isLost) {
            s.scar(d, 0);
            s.scar(d, 1);
        }
    }

    private static int fits(SkinLedger s, int most, int... nets) {
        Check.nets(s, nets);
        int answer = s.fits(most);
        c.is("the tape is empty", s.count(8), 0);
        return answer;
    }

    private static void promise39() {
        c.part("promise 39: how many (k NONE), or the k-th DEAL. NONE: none such");
        SkinLedger s = Check.at(TWO);
        c.is("none", s.lost(-1), 0);
        c.is("none", s.lost(0), -1);
        for (int i = 0; i < 60; i++) {
            write(s, 0, 1, 5, 0, true);
        }
        c.is("all", s.lost(-1), 60);
        c.is("the first", s.lost(0), 0);
        c.is("the last", s.lost(59), 59);
        for (int k : new int[] {-2, 60, LEAST, MOST}) {
            c.is("none such", s.lost(k), -1);
        }
        c.part("LOST are open DEALS that are not KNOWN, but false ones");
        for (int k = 0; k < 5; k++) {
            for (int side = 0; side < 2; side++) {
                s = Check.at(TWO);
                s.write(0, 1, 1, k);
                c.is("KNOWN", s.lost(-1), 0);
                s.scar(0, side);
                c.is("by one MARK, KIND " + k, s.lost(-1), k == 4 ? 1 : 0);
                s.scar(0, 1 - side);
                c.is("by none, KIND " + k, s.lost(-1), k == 3 ? 0 : 1);
                c.is("it", s.lost(0), k == 3 ? -1 : 0);
                s.strike(0);
                c.is("struck", s.lost(-1), 0);
                s.undo();
                s.dies(0, 1);
                c.is("closed", s.lost(-1), 0);
            }
        }
    }

    private static void mostSum() {
        c.part("promise 40: SUMS to a told one (1 to 20)");
        for (int most = 1; most <= 20; most++) {
            SkinLedger s = Check.at(TWO);
            write(s, 0, 1, 99, 0, true);
            write(s, 0, 1, 1, 0, true);
            c.is("the least", fits(s, most, 2, -2), 1);
            c.is("the greatest", fits(s, most, 2 * most, -2 * most), 1);
            c.is("it", s.fit(0, 0), most);
            c.is("it", s.fit(1, 1), most);
            c.is("in the midst", fits(s, most, most + 1, -most - 1), most);
            c.is("from 1", s.fit(0, 0), 1);
            c.is("to the told one", s.fit(0, 1), most);
            c.is("from 1", s.fit(1, 0), 1);
            c.is("to the told one", s.fit(1, 1), most);
            c.is("one more", fits(s, most, 2 * most + 1, -2 * most - 1), 0);
            c.is("none FITS", s.fit(0, 0), -1);
            c.is("one less", fits(s, most, 1, -1), 0);
        }
        SkinLedger s = Check.at(TWO);
        write(s, 0, 1, 99, 0, true);
        c.is("fits", fits(s, 9, 7, -7), 1);
        for (int most : new int[] {-1, 0, 21, LEAST, MOST}) {
            c.is("no such SUM", fits(s, most, 7, -7), -1);
            c.is("the latest that was not NONE", s.fit(0, 0), 7);
        }
        c.part("FITS by each KIND");
        int[][] value = {{1, 20}, {2, 40}, {0, 10}, {0, 0}, {1, 20}};
        int[] ways = {1, 1, 1, 0, 1};
        for (int k = 0; k < 5; k++) {
            if (k != 3) {
                s = Check.at(TWO);
                write(s, 1, 0, 50, k, true);
                c.is("the least", fits(s, 20, -value[k][0], value[k][0]), ways[k]);
                c.is("SUM", s.fit(0, 0), 1);
                c.is("the greatest", fits(s, 20, -value[k][1], value[k][1]), ways[k]);
                c.is("SUM", s.fit(0, 1), 20);
                c.is("too great", fits(s, 20, -value[k][1] - 1, value[k][1] + 1), 0);
                c.is("too little", fits(s, 20, 1 - value[k][0], value[k][0] - 1), 0);
            }
        }
        s = Check.at(TWO);
        write(s, 0, 1, 50, 2, true);
        c.is("half, cut: two SUMS", fits(s, 20, 9, -9), 2);
        c.is("least", s.fit(0, 0), 18);
        c.is("greatest", s.fit(0, 1), 19);
        c.is("the greatest alone", fits(s, 20, 10, -10), 1);
        c.is("twice: no odd one", fits(doubled(), 20, 9, -9), 0);
    }

    private static SkinLedger doubled() {
        SkinLedger s = Check.at(TWO);
        write(s, 0, 1, 50, 1, true);
        return s;
    }

    private static void fourAtMost() {
        c.part("promise 40: more than 4 LOST");
        for (int n = 0; n <= 6; n++) {
            SkinLedger s = Check.at(TWO);
            write(s, 0, 1, 9, 0, false);
            write(s, 0, 1, 9, 3, true);
            for (int i = 0; i < n; i++) {
                write(s, 0, 1, 9, 0, true);
            }
            int[] ways = {1, 1, 1, 1, 1, -1, -1};
            c.is("the least of " + n, fits(s, 20, 9 + n, -9 - n), ways[n]);
            for (int i = -1; i <= 7; i++) {
                c.is("fit(" + i + ", 0)", s.fit(i, 0), n <= 4 && i >= 0 && i < n ? 1 : -1);
                c.is("fit(" + i + ", 1)", s.fit(i, 1), n <= 4 && i >= 0 && i < n ? 1 : -1);
            }
        }
        SkinLedger s = Check.at("body a 99;body b 99;kind h 1 halved;");
        for (int i = 0; i < 4; i++) {
            write(s, 0, 1, 9, 0, true);
        }
        c.is("all 160000 pairs of halves", fits(s, 20, 20, -20), halves());
        write(s, 0, 1, 9, 0, true);
        c.is("five", fits(s, 20, 20, -20), -1);
        c.is("the latest that was not NONE", s.fit(3, 1), 20);
        s.strike(4);
        c.is("four again", fits(s, 1, 0, 0), 1);
        c.is("the latest", s.fit(3, 1), 1);
    }

    private static int halves() {
        int ways = 0;
        for (int code = 0; code < 160000; code++) {
            int sum = (code % 20 + 1) / 2 + (code / 20 % 20 + 1) / 2 + (code / 400 % 20 + 1) / 2 + (code / 8000 + 1) / 2;
            ways += sum == 20 ? 1 : 0;
        }
        return ways;
    }

    private static void nets() {
        c.part("promise 40: of each BODY two bytes: the NET and 10000, the higher first; NONE: not as told");
        SkinLedger s = Check.at(TWO);
        write(s, 0, 1, 9, 0, true);
        int[][] bytes = {{}, {39}, {39, 16, 39}, {39, 16, 39, 16, 39}, {39, 16, 39, 16, 39, 16}, new int[20], new int[640]};
        for (int[] told : bytes) {
            Check.bytes(s, told);
            c.is(told.length + " bytes", s.fits(5), -1);
            c.is("the tape is empty", s.count(8), 0);
            c.is("ahead of any", s.fit(0, 0), -1);
        }
        Check.bytes(s, 39, 17, 39, 15);
        c.is("1 and -1", s.fits(5), 1);
        Check.bytes(s, 17, 39, 15, 39);
        c.is("the lower first", s.fits(5), 0);
        c.is("no BODIES, no bytes", new SkinLedger().fits(1), 1);
        SkinLedger t = Check.at("kind p 1;");
        c.is("no BODIES, no bytes", t.fits(20), 1);
        Check.bytes(t, 39, 16);
        c.is("no BODIES, two bytes", t.fits(20), -1);
        c.part("promise 40: the least NET and the greatest that can be told");
        s = Check.at(TWO);
        for (int i = 0; i < 50; i++) {
            write(s, 0, 1, 99, 1, false);
        }
        write(s, 0, 1, 99, 0, false);
        write(s, 0, 1, 1, 0, false);
        c.is("NET", s.body(0, 4), 10000);
        Check.bytes(s, 78, 32, 0, 0);
        c.is("10000 and -10000", s.fits(1), 1);
        Check.bytes(s, 78, 32, 0, 1);
        c.is("10000 and -9999", s.fits(1), 0);
        write(s, 0, 1, 1, 0, false);
        for (int told : new int[] {0, 1, 255}) {
            Check.bytes(s, 78, 33, told, told);
            c.is("-10001 can't be told", s.fits(1), 0);
        }
        s = Check.at("body a 9;kind p 1;");
        Check.bytes(s, 255, 255);
        c.is("the greatest told", s.fits(1), 0);
        Check.bytes(s, 39, 16);
        c.is("0", s.fits(1), 1);
        c.part("promise 40: of dead ones of no matter; the NETS of all who live are as told");
        s = Check.at("body a 9;body b 9;body d 9;kind p 1;");
        write(s, 0, 1, 5, 0, true);
        c.is("of all", fits(s, 9, 3, -3, 0), 1);
        c.is("also of one without DEALS", fits(s, 9, 3, -3, 1), 0);
        c.is("also of one without DEALS", fits(s, 9, 3, -3, -1), 0);
        c.is("also of the lender", fits(s, 9, 4, -3, 0), 0);
        c.is("also of the debtor", fits(s, 9, 3, -4, 0), 0);
        s.dies(2, 0);
        for (int told : new int[] {-10000, 0, 1, 55535}) {
            c.is("of no matter", fits(s, 9, 3, -3, told), 1);
        }
        c.is("but his bytes are told", fits(s, 9, 3, -3), -1);
        s.dies(1, 0);
        c.is("closed, none LOST", fits(s, 9, 0, 777, 777), 1);
        c.is("of him who lives", fits(s, 9, 1, 777, 777), 0);
        s = Check.at("body a 9;body b 9;body d 9;kind p 1;");
        write(s, 0, 1, 5, 0, true);
        s.dies(1, 2);
        c.is("the heir's NET", fits(s, 9, 3, 9999, -3), 1);
        c.is("the heir's NET", fits(s, 9, 3, -3, 0), 0);
    }

    /** Two LOST DEALS that meet in one BODY, by each order of the BODIES and each way of the DEALS. */
    private static void chains() {
        c.part("promise 40: NETS that hang on more than one SUM");
        int[][] orders = {{0, 1, 2}, {0, 2, 1}, {1, 0, 2}, {1, 2, 0}, {2, 0, 1}, {2, 1, 0}};
        for (int[] order : orders) {
            for (int way = 0; way < 4; way++) {
                for (int k = 0; k < 5; k++) {
                    if (k != 3) {
                        chain(order, way, k);
                    }
                }
            }
        }
    }

    /** SUMS of 4 and 7; each NET one more and one less than as they FIT. */
    private static void chain(int[] order, int way, int k) {
        SkinLedger s = Check.at("body a 9;body b 9;body d 9;kind p 1;kind w 1 doubled;kind h 1 halved;kind f 1 false;kind j 1 joint;");
        int[] nets = new int[3];
        int[] value = {4, 8, 2, 0, 4};
        int[] other = {7, 14, 3, 0, 7};
        for (int i = 0; i < 2; i++) {
            boolean isTurned = (way >> i & 1) == 1;
            int lender = order[isTurned ? i + 1 : i];
            int debtor = order[isTurned ? i : i + 1];
            write(s, lender, debtor, 50 + i, k, true);
            nets[lender] += i == 0 ? value[k] : other[k];
            nets[debtor] -= i == 0 ? value[k] : other[k];
        }
        c.is("it FITS", fits(s, 20, nets), k == 2 ? 4 : 1);
        c.is("the first, least", s.fit(0, 0), 4);
        c.is("the first, greatest", s.fit(0, 1), k == 2 ? 5 : 4);
        c.is("the second, least", s.fit(1, 0), k == 2 ? 6 : 7);
        c.is("the second, greatest", s.fit(1, 1), 7);
        for (int b = 0; b < 3; b++) {
            for (int by = -1; by <= 1; by += 2) {
                nets[b] += by;
                c.is("another NET of " + b, fits(s, 20, nets), 0);
                nets[b] -= by;
            }
        }
    }

    private static void promise41() {
        c.part("promise 41: NONE: none such, none FITS, another what, or ahead of any");
        SkinLedger s = new SkinLedger();
        for (int i : new int[] {-1, 0, 3, 4, LEAST, MOST}) {
            c.is("ahead of any", s.fit(i, 0), -1);
            c.is("ahead of any", s.fit(i, 1), -1);
        }
        Check.port(s, TWO);
        write(s, 0, 1, 9, 0, true);
        write(s, 0, 1, 9, 0, true);
        c.is("NONE", fits(s, 0, 5, -5), -1);
        c.is("ahead of any that was not NONE", s.fit(0, 0), -1);
        c.is("fits", fits(s, 20, 9, -9), 8);
        for (int what : new int[] {-1, 2, LEAST, MOST}) {
            c.is("another what", s.fit(0, what), -1);
            c.is("another what", s.fit(1, what), -1);
        }
        for (int i : new int[] {-1, 2, 4, LEAST, MOST}) {
            c.is("none such", s.fit(i, 0), -1);
            c.is("none such", s.fit(i, 1), -1);
        }
        c.is("least", s.fit(1, 0), 1);
        c.is("greatest", s.fit(1, 1), 8);
        s.undo();
        s.undo();
        s.strike(0);
        Check.port(s, "");
        c.is("as it was told", s.fit(1, 1), 8);
        c.is("none LOST", s.fits(20), 1);
        c.is("none such", s.fit(0, 0), -1);
    }

    private static void promise42() {
        c.part("promise 42: those found (bits); NONE: no such ones");
        SkinLedger s = Check.at("body a 9;body b 9;body d 9;body e 9;body g 9;body h 9;body i 9;body j 9;body l 9;kind p 1;");
        write(s, 0, 8, 7, 0, false);
        write(s, 8, 0, 9, 0, false);
        c.is("none found", s.owed(0, 0, 0), 0);
        c.is("none found", s.owed(0, 0, 1), 0);
        c.is("all found", s.owed(0, 511, 0), 7);
        c.is("all found", s.owed(8, 511, 1), 9);
        c.is("the first", s.owed(0, 1, 0), 7);
        c.is("the last", s.owed(0, 256, 0), 7);
        c.is("the others", s.owed(0, 254, 0), 0);
        c.is("the others", s.owed(0, 254, 1), 0);
        for (int found : new int[] {-1, 512, 513, 1024, LEAST, MOST}) {
            c.is("no such ones", s.owed(0, found, 0), -1);
            c.is("no such ones", s.owed(0, found, 1), -1);
        }
        for (int b : new int[] {-1, 9, LEAST, MOST}) {
            c.is("no such BODY", s.owed(b, 1, 0), -1);
            c.is("no such BODY", s.owed(b, 1, 1), -1);
        }
        for (int what : new int[] {-1, 2, LEAST, MOST}) {
            c.is("another what", s.owed(0, 1, what), -1);
        }
        c.is("nobody", new SkinLedger().owed(0, 0, 0), -1);
        s = Check.at("body a 9;kind p 1;");
        c.is("alone", s.owed(0, 1, 0), 0);
        c.is("another one", s.owed(0, 2, 0), -1);
        c.part("AT MOST: VALUE of a SUM of 99");
        int[] due = {99, 198, 49, 0, 99};
        for (int k = 0; k < 5; k++) {
            s = Check.at(TWO);
            write(s, 0, 1, 1, k, true);
            for (int found = 0; found < 4; found++) {
                c.is("SURELY", s.owed(0, found, 0), 0);
                c.is("AT MOST by KIND " + k, s.owed(0, found, 1), found == 0 ? 0 : due[k]);
                c.is("not to the debtor", s.owed(1, found, 1), 0);
            }
        }
        s = Check.at(TWO);
        write(s, 0, 1, 60, 4, false);
        int[] surely = {0, 0, 0, 60};
        int[] atMost = {0, 99, 99, 60};
        for (int found = 0; found < 4; found++) {
            c.is("joint, SURELY", s.owed(0, found, 0), surely[found]);
            c.is("joint, AT MOST", s.owed(0, found, 1), atMost[found]);
        }
        c.part("OWED: also dead ones that are found, though buried; open DEALS");
        s = Check.at("body a 9;body b 9;body d 9;kind p 1;");
        write(s, 0, 1, 7, 0, false);
        s.scar(0, 0);
        s.dies(1, 2);
        c.is("not KNOWN now", s.deal(0, 8), 0);
        c.is("but by the dead one found", s.owed(0, 2, 0), 7);
        c.is("not by the heir", s.owed(0, 4, 0), 0);
        c.is("not by the scarred one", s.owed(0, 5, 0), 0);
        c.is("AT MOST by the scarred one", s.owed(0, 5, 1), 99);
        s.strike(0);
        c.is("struck", s.owed(0, 7, 0), 0);
        c.is("struck", s.owed(0, 7, 1), 0);
    }

    private static void promise43() {
        c.part("promise 43: The least set (fewest, then as bits); NONE: no such one");
        SkinLedger s = Check.at("body a 9;body b 9;body d 9;body e 9;body g 9;body h 9;body i 9;body j 9;body l 9;kind o 1 joint;kind p 1;");
        for (int b : new int[] {-1, 9, LEAST, MOST}) {
            c.is("no such one", s.proof(b), -1);
        }
        for (int b = 0; b < 9; b++) {
            c.is("OWED nothing", s.proof(b), 0);
        }
        for (int b = 1; b < 9; b++) {
            s.write(0, b, 5, 0);
            c.is("joint ones", s.proof(0), (2 << b) - 1);
        }
        c.is("nobody", new SkinLedger().proof(0), -1);
        s = Check.at("body a 9;body b 9;body d 9;kind p 1;");
        write(s, 0, 1, 7, 0, false);
        c.is("one, as bits the least", s.proof(0), 1);
        s.scar(0, 0);
        c.is("the other", s.proof(0), 2);
        write(s, 0, 2, 7, 0, false);
        c.is("two, as bits the least", s.proof(0), 3);
        s.scar(1, 1);
        c.is("the only two", s.proof(0), 3);
        s.dies(1, 2);
        c.is("the dead, too", s.proof(0), 3);
        s.scar(0, 1);
        c.is("not scarred again", s.proof(0), 3);
    }

    private static void promise44() {
        c.part("promise 44: NONE: by none, no such one");
        SkinLedger s = Check.at(TWO);
        for (int d : new int[] {-1, 0, 59, 60, LEAST, MOST}) {
            c.is("no such one", s.witness(d), -1);
        }
        for (int i = 0; i < 60; i++) {
            s.write(i % 2, 1 - i % 2, 5, i % 5);
        }
        for (int d = 0; d < 60; d++) {
            c.is("by one, joint by both", s.witness(d), d % 5 == 4 ? 3 : 1);
        }
        for (int d : new int[] {-1, 60, LEAST, MOST}) {
            c.is("no such one", s.witness(d), -1);
        }
        s.scar(0, 0);
        c.is("the other", s.witness(0), 2);
        s.scar(0, 1);
        c.is("by none", s.witness(0), -1);
        s.scar(4, 1);
        c.is("joint by none", s.witness(4), -1);
        s.scar(9, 0);
        c.is("joint by none", s.witness(9), -1);
        c.is("a RING", s.cut(), 5);
        int d = s.ring() >= 0 ? s.ringAt(0) : -1;
        c.is("more RINGS", d >= 0, true);
        c.is("cut", s.cut(), 5);
        c.is("by none, as they came off", s.witness(d), -1);
        s.dies(0, 1);
        c.is("dead ones, too", s.witness(1), 1);
        c.is("the last BODY", lastOnes().witness(0), 384);
        s = Check.at("body a 9;body b 9;body d 9;kind p 1;");
        s.write(1, 2, 5, 0);
        s.write(2, 1, 5, 0);
        c.is("as bits, the CREDIT's bearer", s.witness(0), 2);
        c.is("as bits, the DEBT's bearer", s.witness(1), 2);
        s = Check.at("body a 9;body b 1 kin a;kind p 2;kind j 2 joint;");
        s.write(0, 1, 5, 1);
        c.is("joint, both on one", s.witness(0), 1);
    }

    private static SkinLedger lastOnes() {
        SkinLedger s = Check.at("body a 9;body b 9;body d 9;body e 9;body g 9;body h 9;body i 9;body j 9;body l 9;kind k 1 joint;");
        s.write(8, 7, 5, 0);
        return s;
    }

    public static void main(String[] args) {
        promise39();
        mostSum();
        fourAtMost();
        nets();
        chains();
        promise41();
        promise42();
        promise43();
        promise44();
        c.end("LostBoundsTest");
    }
}
