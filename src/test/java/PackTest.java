/** Promises 36 to 38: new DEALS PACKED, and what room is worth. */
public final class PackTest {
    private static final Check c = new Check();

    private static int pack(SkinLedger s, int... bytes) {
        Check.bytes(s, bytes);
        return s.pack();
    }

    private static void packedIs(SkinLedger s, int... due) {
        for (int i = 0; i < 8; i++) {
            c.is("packed(" + i + ")", s.packed(i), i < due.length ? due[i] : -1);
        }
        c.is("packed(-1)", s.packed(-1), -1);
    }

    private static void notAsTold() {
        c.part("promise 36, not as told");
        SkinLedger s = new SkinLedger();
        packedIs(s);
        c.is("nobody", pack(s, 0, 0, 0), -1);
        s = Check.at(Check.PORT);
        c.is("none told", pack(s), -1);
        int[][] wrong = {{0}, {0, 1}, {0, 1, 0, 0}, {0, 1, 5}, {4, 1, 0}, {0, 4, 0}, {0, 1, 255}, {128, 1, 0},
            {0, 1, 0, 0, 1, 9}, {0, 1, 0, 0, 1, 0, 0, 1, 0, 0, 1, 0, 0, 1, 0, 0, 1, 0, 0, 1, 0}};
        packedIs(s);
        c.is("pack", pack(s, 0, 1, 0), 1);
        for (int[] bytes : wrong) {
            c.is("pack of " + bytes.length, pack(s, bytes), -1);
            c.is("the tape is empty", s.count(8), 0);
            packedIs(s, 0);
        }
        c.is("six", pack(s, 0, 1, 0, 0, 1, 0, 0, 1, 0, 0, 1, 0, 0, 1, 0, 0, 1, 3), 6);
        c.is("the tape is empty", s.count(8), 0);
        packedIs(s, 0, 0, 0, 0, 0, 2);
        c.is("all stays", s.count(4), 0);
        c.is("all stays", s.body(1, 3), 10);
    }

    private static void promise36() {
        c.part("promise 36, 37");
        SkinLedger s = Check.at("body a 4;body b 3 kin a;body d 2 kin b;body e 9;kind p 2;kind q 3;kind r 1;");
        c.is("one", pack(s, 0, 1, 0), 1);
        packedIs(s, 0);
        c.is("with himself", pack(s, 0, 0, 0), 0);
        packedIs(s, -1);
        c.is("with himself and not", pack(s, 3, 3, 0, 3, 0, 0), 1);
        packedIs(s, -1, 0);
        // d's CREDIT on his kin, as d has 2; the kin's kin bears none of it
        c.is("the kin of the lender", pack(s, 2, 3, 1), 1);
        packedIs(s, 1);
        c.is("the kin of the debtor", pack(s, 3, 2, 1), 1);
        packedIs(s, 2);
        c.is("both kin", pack(s, 2, 1, 1), 1);
        packedIs(s, 3);
        c.is("no kin has room for both", pack(s, 2, 1, 1, 2, 1, 1), 1);
        packedIs(s, 3, -1);
        c.is("the kin makes room for all", pack(s, 3, 1, 1, 3, 1, 0, 3, 2, 0, 3, 0, 0), 4);
        packedIs(s, 0, 2, 0, 0);
        c.is("the most, though the first is left out", pack(s, 3, 0, 1, 3, 0, 0, 3, 0, 0), 2);
        packedIs(s, -1, 0, 0);
        c.is("one on the kin so that both find room", pack(s, 3, 2, 0, 3, 2, 0), 2);
        packedIs(s, 0, 2);
        c.is("the first way stays", pack(s, 3, 2, 0, 3, 1, 1), 2);
        packedIs(s, 0, 0);
        c.is("the kin's, as the body would not be enough", pack(s, 3, 2, 2, 3, 2, 0), 2);
        packedIs(s, 0, 2);
        s.write(3, 0, 5, 0);
        s.write(3, 0, 5, 0);
        c.is("what is LEFT now", pack(s, 3, 0, 0), 0);
        packedIs(s, -1);
        s = Check.at("body a 4;body b 3 kin a;body d 2 kin b;body e 9;kind p 2;kind q 3;kind r 1;");
        s.dies(1, 0);
        c.is("a dead kin", pack(s, 2, 3, 1), 0);
        c.is("a dead lender", pack(s, 1, 3, 1), 0);
        c.is("a dead debtor, whose kin lives", pack(s, 3, 1, 0), 0);
        c.is("others", pack(s, 3, 1, 0, 3, 2, 0, 3, 2, 0), 1);
        packedIs(s, -1, 0, -1);
        // 60 counts nothing
        s = Check.at("body a 99;body b 99;kind p 1;");
        for (int i = 0; i < 60; i++) {
            s.write(0, 1, 5, 0);
        }
        c.is("a 61st", pack(s, 0, 1, 0, 1, 0, 0), 2);
        packedIs(s, 0, 0);
    }

    private static void promise38() {
        c.part("promise 38");
        SkinLedger s = Check.at(Check.PORT);
        c.is("no DEALS packed yet", s.price(0, 1), -1);
        c.is("no DEALS packed yet", s.price(3, 99), -1);
        c.is("a wrong pack", pack(s, 0, 9, 0), -1);
        c.is("is none", s.price(0, 1), -1);
        s.image(0);
        s.write(0, 1, 5, 0);
        c.is("a DEAL written is none packed", s.price(0, 1), -1);
        s.restore(0);
        c.is("no DEALS packed in the PORT kept", s.price(0, 1), -1);
        c.is("in no PORT at all", new SkinLedger().price(0, 1), -1);
        c.is("none of them finds room", pack(s, 0, 0, 0), 0);
        c.is("but they were packed", s.price(0, 1), 0);
        s = Check.at("body a 4;body b 4;body d 1;kind p 2;kind q 5;");
        pack(s, 0, 1, 0, 0, 1, 0, 0, 1, 0, 1, 0, 1);
        packedIs(s, 0, 0, -1, -1);
        c.is("a alone", s.price(0, 2), 0);
        c.is("a alone, for q", s.price(0, 99), 0);
        c.is("all stays", s.packed(0), 0);
        c.is("all stays", s.packed(3), -1);
        c.is("no such", s.price(3, 1), -1);
        c.is("no such", s.price(-1, 1), -1);
        c.is("n 0", s.price(0, 0), -1);
        c.is("n 100", s.price(0, 100), -1);
        pack(s, 0, 2, 0, 0, 2, 0, 0, 2, 0);
        c.is("1 more for d", s.price(2, 1), 1);
        c.is("2 more for d", s.price(2, 2), 1);
        c.is("3 more for d", s.price(2, 3), 2);
        c.is("99 more for d", s.price(2, 99), 2);
        c.is("none packed", s.packed(0), -1);
        c.is("a wrong pack", pack(s, 0, 9, 0), -1);
        c.is("is not the latest", s.price(2, 1), 1);
        s.write(0, 1, 5, 0);
        c.is("by what is LEFT now", s.price(2, 3), 1);
        s.dies(2, 0);
        c.is("a dead one", s.price(2, 3), 0);
        s.undo();
        s.image(0);
        c.is("a FAULT leaves the PORT", Check.port(s, "body"), -5);
        c.is("so it is told", s.price(2, 3), 1);
        Check.port(s, "body a 4;body b 4;body d 1;kind p 2;kind q 5;");
        c.is("a text read anew is another PORT", s.price(2, 3), -1);
        packedIs(s, -1, -1, -1);
        s.restore(0);
        c.is("the PORT kept is the one", s.price(2, 3), 1);
        pack(s, 0, 1, 0);
        Check.port(s, "body a 9;body b 9;kind p 1;");
        c.is("another PORT", s.price(0, 1), -1);
        c.is("what was told stays", s.packed(0), 0);
        pack(s, 0, 1, 0);
        c.is("packed in this one", s.price(0, 1), 0);
        s.restore(0);
        c.is("packed in another one", s.price(0, 1), -1);
        c.is("also of one that it has not", s.price(2, 1), -1);
    }

    public static void main(String[] args) {
        notAsTold();
        promise36();
        promise38();
        c.end("PackTest");
    }
}
