/** The bounds of new DEALS PACKED and of what room is worth: promises 36 to 38. */
public final class PackBoundsTest {
    private static final Check c = new Check();
    private static final int LEAST = Integer.MIN_VALUE;
    private static final int MOST = Integer.MAX_VALUE;
    private static final String NINE = "body a 9;body b 9;body d 9;body e 9;body g 9;body h 9;body i 9;body j 9;body l 9 kin j;"
            + "kind m 1;kind n 1;kind o 1;kind p 1;kind q 1;kind r 1;";

    private static int pack(SkinLedger s, int... bytes) {
        Check.bytes(s, bytes);
        return s.pack();
    }

    private static void packedIs(SkinLedger s, int... due) {
        for (int i = -1; i <= 7; i++) {
            c.is("packed(" + i + ")", s.packed(i), i >= 0 && i < due.length ? due[i] : -1);
        }
        c.is("packed(least)", s.packed(LEAST), -1);
        c.is("packed(most)", s.packed(MOST), -1);
    }

    private static int[] times(int n, int lender, int debtor, int kind) {
        int[] bytes = new int[3 * n];
        for (int i = 0; i < n; i++) {
            bytes[3 * i] = lender;
            bytes[3 * i + 1] = debtor;
            bytes[3 * i + 2] = kind;
        }
        return bytes;
    }

    /** What was told ahead of a pack() that is NONE stays told. */
    private static void notAsTold(String name, int... bytes) {
        SkinLedger s = Check.at(NINE);
        c.is("six", pack(s, times(6, 0, 1, 0)), 6);
        c.is(name, pack(s, bytes), -1);
        c.is("the tape is empty", s.count(8), 0);
        packedIs(s, 0, 0, 0, 0, 0, 0);
    }

    private static void promise36() {
        c.part("promise 36: 1 to 6 new DEALS; NONE: not as told");
        SkinLedger s = Check.at(NINE);
        packedIs(s);
        c.is("no bytes ahead of any", s.pack(), -1);
        packedIs(s);
        for (int n = 1; n <= 6; n++) {
            c.is("pack of " + n, pack(s, times(n, 0, 1, 0)), n);
            packedIs(s, new int[n]);
            c.is("the tape is empty", s.count(8), 0);
        }
        for (int n : new int[] {0, 7, 8, 200, 213}) {
            notAsTold("pack of " + n, times(n, 0, 1, 0));
        }
        for (int bytes = 0; bytes <= 25; bytes++) {
            if (bytes % 3 != 0) {
                notAsTold("pack of " + bytes + " bytes", new int[bytes]);
            }
        }
        notAsTold("pack of a full tape", new int[640]);
        c.is("the last of each", pack(s, 8, 0, 5, 0, 8, 5), 2);
        packedIs(s, 0, 0);
        for (int far : new int[] {9, 10, 127, 128, 255}) {
            notAsTold("no such lender", far, 0, 0);
            notAsTold("no such debtor", 0, far, 0);
            notAsTold("no such lender, the second", 0, 1, 0, far, 0, 0);
            notAsTold("no such debtor, the second", 0, 1, 0, 0, far, 0);
            notAsTold("no such lender, the sixth", 0, 1, 0, 0, 1, 0, 0, 1, 0, 0, 1, 0, 0, 1, 0, far, 1, 0);
            notAsTold("no such debtor, the sixth", 0, 1, 0, 0, 1, 0, 0, 1, 0, 0, 1, 0, 0, 1, 0, 0, far, 0);
        }
        for (int far : new int[] {6, 7, 128, 255}) {
            notAsTold("no such KIND", 0, 1, far);
            notAsTold("no such KIND, the second", 0, 1, 0, 0, 1, far);
            notAsTold("no such KIND, the sixth", 0, 1, 0, 0, 1, 0, 0, 1, 0, 0, 1, 0, 0, 1, 0, 0, 1, far);
        }
        s = Check.at("body a 9;body b 9;kind p 1;");
        for (int far = 1; far <= 6; far++) {
            c.is("one KIND, no such one", pack(s, 0, 1, far), -1);
            c.is("two BODIES, no such lender", pack(s, 1 + far, 0, 0), -1);
            c.is("two BODIES, no such debtor", pack(s, 0, 1 + far, 0), -1);
        }
        s = Check.at(NINE);
        c.is("nobody", pack(Check.at(""), 0, 0, 0), -1);
        c.is("no KINDS", pack(Check.at("body a 9;body b 9;"), 0, 1, 0), -1);
        c.is("no BODIES", pack(Check.at("kind p 1;"), 0, 0, 0), -1);
        c.is("ahead of any PORT", pack(new SkinLedger(), 0, 0, 0), -1);
        c.part("promise 36: how many, also none");
        c.is("with himself", pack(s, 0, 0, 0), 0);
        packedIs(s, -1);
        c.is("six with themselves", pack(s, times(6, 1, 1, 0)), 0);
        packedIs(s, -1, -1, -1, -1, -1, -1);
    }

    private static void rooms() {
        c.part("PACKED: all find room: SIZE LEFT, one too few");
        for (int left = 1; left <= 10; left++) {
            SkinLedger s = Check.at("body a " + left + ";body b 99;kind p 3;");
            c.is("of a with " + left, pack(s, times(6, 0, 1, 0)), left / 3);
            c.is("to a with " + left, pack(s, times(6, 1, 0, 0)), left / 3);
            s = Check.at("body k " + left + ";body a 2 kin k;body b 99;kind p 3;");
            c.is("of a by a kin with " + left, pack(s, times(6, 1, 2, 0)), left / 3);
            c.is("the first", s.packed(0), left >= 3 ? 1 : -1);
            c.is("to a by a kin with " + left, pack(s, times(6, 2, 1, 0)), left / 3);
            c.is("the first", s.packed(0), left >= 3 ? 2 : -1);
            s = Check.at("body k " + left + ";body a 2 kin k;body b 2 kin k;kind p 3;");
            c.is("both by one kin with " + left, pack(s, times(6, 1, 2, 0)), left / 6);
            c.is("the first", s.packed(0), left >= 6 ? 3 : -1);
        }
        c.part("PACKED: written by 0, 1, 2, 3, last not; of like ones the first");
        SkinLedger s = Check.at("body k 8;body a 9 kin k;body b 9 kin k;body d 9;kind p 3;kind q 9;");
        c.is("both on themselves", pack(s, 1, 2, 0), 1);
        packedIs(s, 0);
        c.is("the first not on the kin", pack(s, 1, 2, 0, 1, 2, 0), 2);
        packedIs(s, 0, 0);
        c.is("the first lends by the kin", pack(s, 1, 2, 0, 1, 3, 1), 2);
        packedIs(s, 1, 0);
        c.is("the first owes by the kin", pack(s, 1, 2, 0, 3, 2, 1), 2);
        packedIs(s, 2, 0);
        c.is("the first by the kin twice", pack(s, 1, 2, 0, 1, 2, 1), 2);
        packedIs(s, 3, 0);
        c.is("two by 0 and by 1 ahead of others", pack(s, 1, 3, 1, 1, 3, 1), 1);
        packedIs(s, 0, -1);
        c.is("the later one is left out", pack(s, 3, 1, 1, 3, 1, 1), 1);
        packedIs(s, 0, -1);
        c.part("PACKED: lender, debtor, bearers live, lender and debtor are unlike");
        s.dies(0, 3);
        c.is("a dead kin bears none", pack(s, 1, 2, 0, 1, 2, 1), 1);
        packedIs(s, 0, -1);
        c.is("a dead lender", pack(s, 0, 1, 0), 0);
        c.is("a dead debtor", pack(s, 1, 0, 0), 0);
        s.dies(2, 3);
        c.is("a dead debtor, whose kin is dead", pack(s, 1, 2, 0), 0);
        s = Check.at("body k 9;body a 9 kin k;body b 9 kin k;kind p 3;");
        s.dies(1, 2);
        c.is("a dead lender, whose kin lives", pack(s, 1, 2, 0), 0);
        c.is("a dead debtor, whose kin lives", pack(s, 2, 1, 0), 0);
        c.is("with himself, whose kin lives", pack(s, 2, 2, 0), 0);
        c.is("the kin lends to him", pack(s, 0, 2, 0), 1);
        c.part("PACKED: 60 counting nothing");
        for (int n = 54; n <= 60; n++) {
            s = Check.at("body a 99;body b 99;kind p 1;");
            for (int i = 0; i < n; i++) {
                s.write(0, 1, 5, 0);
            }
            c.is("pack behind " + n, pack(s, times(6, 0, 1, 0)), 6);
            c.is("none is written", s.count(4), n);
        }
    }

    private static void promise38() {
        c.part("promise 38: NONE: not as told");
        SkinLedger s = Check.at("body a 1;body b 99;kind p 9;");
        c.is("ahead of any pack()", s.price(0, 1), -1);
        c.is("ahead of any pack()", s.price(1, 99), -1);
        pack(s, times(6, 0, 1, 0));
        int[] price = {0, 0, 0, 0, 0, 0, 0, 1, 1, 1, 1, 1, 1, 1, 1, 1, 2};
        for (int n = 1; n <= price.length; n++) {
            c.is("price(0, " + n + ")", s.price(0, n), price[n - 1]);
        }
        c.is("one too few for six", s.price(0, 52), 5);
        c.is("enough for six", s.price(0, 53), 6);
        c.is("the most", s.price(0, 99), 6);
        c.is("of no use", s.price(1, 99), 0);
        for (int n : new int[] {-1, 0, 100, LEAST, MOST}) {
            c.is("no such n", s.price(0, n), -1);
        }
        for (int b : new int[] {-1, 2, 9, LEAST, MOST}) {
            c.is("no such BODY", s.price(b, 1), -1);
        }
        c.is("nothing was packed by it", s.packed(0), -1);
        s = Check.at("body k 1;body a 1 kin k;body b 99;kind p 3;");
        pack(s, 1, 2, 0);
        c.is("on a", s.price(1, 2), 1);
        c.is("on a", s.price(1, 1), 0);
        c.is("on his kin", s.price(0, 2), 1);
        c.is("on his kin", s.price(0, 1), 0);
        s.dies(0, 2);
        c.is("on a dead kin", s.price(0, 99), 0);
        c.part("promise 38: or the latest pack() that was not NONE was in another PORT than this");
        s = Check.at("body a 1;body b 99;kind p 9;");
        pack(s, 0, 1, 0);
        c.is("of this", s.price(0, 8), 1);
        pack(s, 0, 1);
        c.is("a pack() that was NONE", s.price(0, 8), 1);
        Check.port(s, "?");
        c.is("a FAULT", s.price(0, 8), 1);
        Check.book(s, "year;");
        c.is("a BOOK", s.price(0, 8), 1);
        s.image(1);
        Check.port(s, "body a 1;body b 99;kind p 9;");
        c.is("a text read anew is another one", s.price(0, 8), -1);
        pack(s, 0, 1);
        c.is("a pack() that was NONE is none", s.price(0, 8), -1);
        c.is("in the new one", pack(s, 0, 0, 0), 0);
        c.is("none of it may be", s.price(0, 99), 0);
        Check.port(s, "");
        c.is("no such BODY in an empty one", s.price(0, 99), -1);
        s.restore(1);
        c.is("the latest was in the one between", s.price(0, 99), -1);
        c.is("in this one", pack(s, 0, 1, 0), 0);
        c.is("of this", s.price(0, 8), 1);
    }

    public static void main(String[] args) {
        promise36();
        rooms();
        promise38();
        c.end("PackBoundsTest");
    }
}
