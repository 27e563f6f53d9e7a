/** Promises 14 to 17, 22: RINGS. */
public final class RingsTest {
    private static final Check c = new Check();
    private static final String SIX = "body a 99;body b 99;body d 99;body e 99;body g 99;body h 99;"
            + "kind p 2;kind q 3;kind z 9 joint;kind w 2 doubled;kind x 2 halved;kind y 2 false;";

    private static void ringIs(SkinLedger s, int frees, int... deals) {
        c.is("ring", s.ring(), frees);
        for (int i = 0; i < 6; i++) {
            c.is("ringAt(" + i + ")", s.ringAt(i), i < deals.length ? deals[i] : -1);
        }
        c.is("ringAt(-1)", s.ringAt(-1), -1);
    }

    private static void promise14and15() {
        c.part("promise 14, 15");
        SkinLedger s = new SkinLedger();
        ringIs(s, -1);
        s = Check.at(SIX);
        s.write(0, 1, 5, 0);
        ringIs(s, -1);
        s.write(2, 1, 5, 0);
        ringIs(s, -1);
        s.write(1, 0, 7, 0);
        ringIs(s, 4, 0, 2);
        s.write(1, 2, 5, 0);
        ringIs(s, 8, 1, 3);
        // what there was is told on
        s.strike(0);
        s.strike(1);
        c.is("no more", s.ring(), -1);
        c.is("the latest that there was", s.ringAt(0), 1);
        c.is("the latest that there was", s.ringAt(1), 3);
        Check.port(s, "");
        c.is("also in another PORT", s.ringAt(1), 3);
        s.cut();
        c.is("cut tells none", s.ringAt(1), 3);
    }

    private static void kindsOfRings() {
        c.part("promise 14, KINDS");
        for (int k = 3; k <= 5; k++) {
            SkinLedger s = Check.at(SIX);
            s.write(0, 1, 5, k);
            s.write(1, 0, 5, 0);
            ringIs(s, -1);
            s.write(0, 1, 5, 2);
            ringIs(s, 22, 1, 2);
        }
        c.part("promise 14, lengths");
        for (int n = 2; n <= 6; n++) {
            SkinLedger s = Check.at(SIX);
            for (int i = 0; i < n; i++) {
                s.write(i, (i + 1) % n, 5, 0);
            }
            c.is("a RING of " + n, s.ring(), n <= 5 ? 4 * n : -1);
            c.is("its last", s.ringAt(n - 1), n <= 5 ? n - 1 : -1);
        }
        c.part("promise 14, BODIES unlike");
        SkinLedger s = Check.at(SIX);
        s.write(0, 1, 9, 0);
        s.write(1, 2, 9, 0);
        s.write(2, 1, 5, 0);
        s.write(2, 0, 5, 0);
        s.write(1, 0, 5, 0);
        ringIs(s, 4, 0, 4);
    }

    private static void best() {
        c.part("promise 14, the best");
        SkinLedger s = Check.at(SIX);
        s.write(0, 1, 5, 0);
        s.write(1, 0, 9, 0);
        s.write(2, 3, 5, 1);
        s.write(3, 2, 9, 0);
        ringIs(s, 6, 2, 3);
        s.write(0, 1, 9, 0);
        ringIs(s, 8, 1, 4);
        // of like ones the fewest DEALS
        s = Check.at(SIX);
        s.write(0, 1, 5, 0);
        s.write(1, 2, 5, 0);
        s.write(2, 0, 9, 0);
        ringIs(s, 8, 0, 1, 2);
        s.write(4, 3, 5, 0);
        s.write(3, 4, 5, 0);
        ringIs(s, 8, 3, 4);
        // of like ones the first: from its least DEAL on
        s = Check.at(SIX);
        s.write(1, 0, 9, 0);
        s.write(2, 3, 5, 0);
        s.write(0, 1, 5, 0);
        s.write(3, 2, 9, 0);
        s.write(0, 1, 5, 0);
        ringIs(s, 4, 0, 2);
        s = Check.at(SIX);
        s.write(0, 1, 5, 0);
        s.write(2, 0, 7, 0);
        s.write(2, 0, 7, 0);
        s.write(1, 2, 7, 0);
        ringIs(s, 4, 0, 3, 1);
        // DEAL by DEAL, not by the sum of them or the last
        s = Check.at(SIX);
        s.write(0, 1, 5, 0);
        s.write(3, 0, 9, 0);
        s.write(2, 0, 9, 0);
        s.write(1, 2, 9, 0);
        s.write(1, 3, 9, 0);
        ringIs(s, 4, 0, 3, 2);
        // a dot takes room; one bigger than SIZE no more than SIZE
        s = Check.at(SIX + "dot 2;");
        s.write(0, 1, 5, 0);
        s.write(1, 0, 5, 0);
        ringIs(s, 0, 0, 1);
        s.write(1, 0, 6, 0);
        s.write(0, 1, 6, 1);
        ringIs(s, 2, 2, 3);
        s = Check.at(SIX + "dot 5;");
        s.write(0, 1, 5, 2);
        s.write(1, 0, 9, 0);
        ringIs(s, 8, 0, 1);
        // buried ones free nothing
        s = Check.at(SIX);
        s.write(0, 1, 5, 1);
        s.write(1, 2, 5, 1);
        s.write(3, 4, 5, 0);
        s.write(4, 3, 5, 0);
        s.dies(2, 0);
        ringIs(s, 9, 0, 1);
        s.dies(1, 5);
        ringIs(s, 8, 2, 3);
    }

    private static void promise16() {
        c.part("promise 16");
        SkinLedger s = Check.at(SIX);
        c.is("none", s.ringOf(0), -1);
        c.is("none", s.ringOf(-1), -1);
        s.write(0, 1, 5, 0);
        s.write(1, 0, 5, 1);
        s.write(1, 2, 5, 0);
        s.write(2, 0, 5, 0);
        s.write(3, 4, 5, 2);
        s.write(4, 3, 6, 0);
        s.write(2, 3, 6, 0);
        c.is("ring", s.ring(), 18);
        c.is("of 0: the better of two", s.ringOf(0), 12);
        c.is("of 1", s.ringOf(1), 10);
        c.is("of 2", s.ringOf(2), 12);
        c.is("of 3", s.ringOf(3), 12);
        c.is("of 5", s.ringOf(5), 18);
        c.is("of 6", s.ringOf(6), -1);
        c.is("no such", s.ringOf(7), -1);
        c.is("no such", s.ringOf(-1), -1);
        c.is("ringAt is of ring", s.ringAt(0), 4);
        s.strike(0);
        c.is("struck", s.ringOf(0), -1);
        c.is("without it", s.ringOf(1), -1);
        s.undo();
        s.write(0, 1, 5, 3);
        c.is("doubled", s.ringOf(7), -1);
    }

    private static void promise17() {
        c.part("promise 17");
        SkinLedger s = Check.at(SIX + "dot 1;");
        c.is("none", s.cut(), -1);
        s.write(0, 1, 5, 0);
        s.write(1, 2, 9, 1);
        s.write(2, 0, 5, 2);
        c.is("by how much", s.cut(), 5);
        c.is("SUM", s.deal(0, 2), 0);
        c.is("SUM", s.deal(1, 2), 4);
        c.is("closed", s.deal(0, 5), 2);
        c.is("open", s.deal(1, 5), 0);
        c.is("closed", s.deal(2, 5), 2);
        c.is("came off", s.deal(2, 6), -1);
        c.is("came off", s.deal(2, 7), -1);
        c.is("LEFT of a: two dots", s.body(0, 3), 97);
        c.is("LEFT of b", s.body(1, 3), 95);
        c.is("dots of a", s.body(0, 6), 2);
        c.is("dots of b", s.body(1, 6), 1);
        c.is("no more", s.cut(), -1);
        // both MARKS on one bearer, one of them on kin
        s = Check.at("body a 20;body b 1 kin a;kind p 3;kind q 1;dot 2;");
        s.write(0, 1, 5, 0);
        s.write(1, 0, 5, 1);
        s.cut();
        c.is("dots of a", s.body(0, 6), 2 + 2 + 1);
        c.is("a dot no bigger than SIZE", s.body(1, 6), 1);
        c.is("LEFT of a", s.body(0, 3), 15);
        c.is("LEFT of b", s.body(1, 3), 0);
        // buried bearers have no dot, but their MARKS come off
        s = Check.at("body a 20;body b 20;body d 20;kind p 3;dot 2;");
        s.write(0, 1, 5, 0);
        s.write(1, 2, 5, 0);
        s.dies(0, 2);
        c.is("cut", s.cut(), 5);
        c.is("no dot", s.body(0, 6), 0);
        c.is("LEFT of the dead", s.body(0, 3), 20);
        c.is("came off", s.mark(0, -1), 0);
        c.is("dots of b", s.body(1, 6), 4);
        c.is("dots of d", s.body(2, 6), 2);
        // it is ring()'s
        s = Check.at(SIX);
        s.write(0, 1, 5, 0);
        s.write(1, 0, 9, 0);
        s.write(2, 3, 7, 1);
        s.write(3, 2, 8, 0);
        c.is("the best", s.cut(), 7);
        c.is("the other", s.cut(), 5);
        c.is("none", s.cut(), -1);
    }

    private static void promise22() {
        c.part("promise 22");
        SkinLedger s = Check.at("body a 6;body b 6;body e 5;body g 9;kind p 2;kind q 3;");
        c.is("no such", s.ringsFor(4, 0, 0), -1);
        c.is("no such", s.ringsFor(0, -1, 0), -1);
        c.is("no such", s.ringsFor(0, 1, 2), -1);
        c.is("one", s.ringsFor(0, 0, 0), -1);
        c.is("none needed", s.ringsFor(0, 1, 0), 0);
        s.write(0, 1, 5, 0);
        s.write(1, 0, 5, 0);
        s.write(0, 1, 5, 0);
        c.is("a is full", s.ringsFor(0, 3, 0), 1);
        s.dies(3, 2);
        c.is("dead", s.ringsFor(0, 3, 0), -1);
        s.undo();
        s.write(2, 3, 5, 0);
        c.is("e has 3", s.ringsFor(2, 3, 1), 0);
        s.write(2, 3, 5, 0);
        c.is("none of e's", s.ringsFor(2, 3, 1), -1);
        c.is("all stays", s.count(5), 5);
        c.is("undo is of an ACT", s.undo(), 4);
        // two RINGS, one after another
        s = Check.at("body a 8;body b 8;kind p 2;kind q 5;kind r 9;");
        s.write(0, 1, 5, 0);
        s.write(1, 0, 6, 0);
        s.write(0, 1, 7, 0);
        s.write(1, 0, 8, 0);
        c.is("for 2", s.ringsFor(0, 1, 0), 1);
        c.is("for 5", s.ringsFor(0, 1, 1), 3);
        c.is("for 9", s.ringsFor(0, 1, 2), -1);
        c.is("all stays", s.deal(0, 2), 5);
    }

    public static void main(String[] args) {
        promise14and15();
        kindsOfRings();
        best();
        promise16();
        promise17();
        promise22();
        c.end("RingsTest");
    }
}
