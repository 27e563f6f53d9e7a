/** The bounds of RINGS: promises 14 to 17, 22. */
public final class RingBoundsTest {
    private static final Check c = new Check();
    private static final int LEAST = Integer.MIN_VALUE;
    private static final int MOST = Integer.MAX_VALUE;
    private static final String NINE = "body a 99;body b 99;body d 99;body e 99;body g 99;body h 99;body i 99;body j 99;body l 99;";
    private static final String KINDS = "kind p 2;kind q 3;kind z 9 joint;kind w 9 doubled;kind x 9 halved;kind y 9 false;";

    private static void ringIs(SkinLedger s, int frees, int... deals) {
        c.is("ring", s.ring(), frees);
        for (int i = 0; i < 6; i++) {
            c.is("ringAt(" + i + ")", s.ringAt(i), i < deals.length ? deals[i] : -1);
        }
    }

    /** By steps of 1 to 8, none of 3, as each of the nine is come to then. */
    private static void ofLength(int n, int first, int step) {
        SkinLedger s = Check.at(NINE + KINDS);
        for (int i = 0; i < n; i++) {
            c.is("ring of " + i, s.ring(), -1);
            s.write((first + i * step) % 9, (first + (i + 1) % n * step) % 9, 5, 0);
        }
        c.is("a RING of " + n, s.ring(), n <= 5 ? 4 * n : -1);
        for (int i = -1; i <= 9; i++) {
            c.is("ringAt(" + i + ")", s.ringAt(i), n <= 5 && i >= 0 && i < n ? i : -1);
        }
        c.is("ringOf the first", s.ringOf(0), n <= 5 ? 4 * n : -1);
        c.is("ringOf the last", s.ringOf(n - 1), n <= 5 ? 4 * n : -1);
        c.is("ringOf none", s.ringOf(n), -1);
        c.is("cut", s.cut(), n <= 5 ? 5 : -1);
        c.is("open", s.count(5), n <= 5 ? 0 : n);
    }

    private static void lengths() {
        c.part("A RING: 2 to 5 open DEALS, all these BODIES unlike");
        for (int n = 2; n <= 9; n++) {
            for (int first = 0; first < 9; first++) {
                for (int step : new int[] {1, 2, 4, 5, 7, 8}) {
                    ofLength(n, first, step);
                }
            }
        }
        SkinLedger s = Check.at(NINE + KINDS);
        s.write(0, 1, 9, 0);
        s.write(1, 2, 9, 0);
        s.write(2, 1, 9, 0);
        s.write(2, 0, 9, 0);
        s.strike(1);
        ringIs(s, -1);
        c.part("A RING: no BODY twice: two that meet in one are two");
        for (int n = 2; n <= 3; n++) {
            for (int m = 2; n + m <= 5; m++) {
                for (int meet = 0; meet < 9; meet++) {
                    for (int turn = 0; turn < n + m; turn++) {
                        eight(n, m, meet, turn);
                    }
                }
            }
        }
        c.part("A RING: round, not open or the wrong way round");
        s = Check.at(NINE + KINDS);
        s.write(0, 1, 5, 0);
        s.write(0, 1, 5, 0);
        s.write(0, 2, 5, 0);
        s.write(1, 2, 5, 0);
        ringIs(s, -1);
        s.write(2, 0, 5, 0);
        s.strike(4);
        ringIs(s, -1);
    }

    /** A walk round n DEALS, then m from where it set out, written from another of them on. */
    private static void eight(int n, int m, int meet, int turn) {
        SkinLedger s = Check.at(NINE + KINDS);
        for (int i = 0; i < n + m; i++) {
            int at = (i + turn) % (n + m);
            int from = at == n ? 0 : at;
            int to = at + 1 == n || at + 1 == n + m ? 0 : at + 1;
            s.write((meet + from) % 9, (meet + to) % 9, 5, 0);
        }
        c.is("the longer one", s.ring(), 4 * Math.max(n, m));
        for (int d = 0; d < n + m; d++) {
            c.is("each in its own", s.ringOf(d), (d + turn) % (n + m) < n ? 4 * n : 4 * m);
        }
        c.is("cut", s.cut(), 5);
        c.is("the other stays", s.count(5), Math.min(n, m));
    }

    private static void sorts() {
        c.part("A RING: KINDS that are none of doubled, halved, false");
        for (int k = 0; k < 6; k++) {
            for (int n = 2; n <= 5; n++) {
                for (int at = 0; at < n; at++) {
                    SkinLedger s = Check.at(NINE + KINDS);
                    for (int i = 0; i < n; i++) {
                        s.write(i, (i + 1) % n, i == at ? 5 : 6, i == at ? k : 0);
                    }
                    int[] size = {2, 3, 9};
                    c.is("KIND " + k + " at " + at + " of " + n, s.ring(), k < 3 ? 2 * size[k] : -1);
                    c.is("ringOf", s.ringOf(at), k < 3 ? 2 * size[k] : -1);
                    c.is("cut", s.cut(), k < 3 ? 5 : -1);
                }
            }
        }
    }

    private static void cutting() {
        c.part("CUT: all its SUMS are less by the least of them; DEALS with 0 then are closed");
        for (int more = 0; more <= 2; more++) {
            SkinLedger s = Check.at(NINE + KINDS);
            s.write(0, 1, 1, 0);
            s.write(1, 2, 1 + more, 1);
            s.write(2, 0, 99, 2);
            c.is("FREES", s.ring(), more == 0 ? 10 : 4);
            c.is("by how much", s.cut(), 1);
            c.is("closed", s.deal(0, 5), 2);
            c.is("SUM", s.deal(0, 2), 0);
            c.is("closed by 0 alone", s.deal(1, 5), more == 0 ? 2 : 0);
            c.is("SUM", s.deal(1, 2), more);
            c.is("MARK", s.deal(1, 6), more == 0 ? -1 : 1);
            c.is("SUM", s.deal(2, 2), 98);
            c.is("no RING is left", s.ring(), -1);
        }
        SkinLedger s = Check.at(NINE + KINDS);
        s.write(0, 1, 99, 0);
        s.write(1, 0, 99, 0);
        c.is("the greatest", s.cut(), 99);
        c.is("none open", s.count(5), 0);
        c.part("CUT: a dot on each that is not buried ('dot', no more than SIZE)");
        for (int dot = 0; dot <= 9; dot++) {
            for (int size = 1; size <= 9; size++) {
                int due = Math.min(dot, size);
                s = Check.at("body a 50;body b 50;body d 9;kind p " + size + ";dot " + dot + ";");
                s.write(0, 1, 5, 0);
                s.write(1, 0, 6, 0);
                c.is("FREES", s.ring(), 2 * (size - due));
                s.cut();
                c.is("dots of a", s.body(0, 6), due);
                c.is("dots of b", s.body(1, 6), due);
                c.is("LEFT of a", s.body(0, 3), 50 - size - due);
                s = Check.at("body a 50;body b 50;body d 9;kind p " + size + ";dot " + dot + ";");
                s.write(0, 1, 5, 0);
                s.write(1, 2, 5, 0);
                s.dies(0, 2);
                c.is("FREES: a buried one 0", s.ring(), 3 * (size - due));
                s.cut();
                c.is("no dot on the buried one", s.body(0, 6), 0);
                c.is("all is LEFT on him", s.body(0, 3), 50);
                c.is("two dots on b", s.body(1, 6), 2 * due);
            }
        }
    }

    /** A RING of n BODIES from the first on, all of whose DEALS come off at once. */
    private static void round(SkinLedger s, int first, int n, int kind) {
        for (int i = 0; i < n; i++) {
            s.write(first + i, first + (i + 1) % n, 5, kind);
        }
    }

    private static void best() {
        c.part("The best: that FREES most");
        SkinLedger s = Check.at(NINE + KINDS);
        s.write(0, 1, 5, 0);
        s.write(1, 0, 5, 0);
        s.write(2, 3, 5, 2);
        s.write(3, 2, 6, 0);
        s.write(4, 5, 5, 1);
        s.write(5, 4, 5, 1);
        ringIs(s, 18, 2, 3);
        c.part("that FREES most, be it of more DEALS");
        int[] size = {2, 3, 9};
        for (int k = 0; k < 3; k++) {
            for (int n = 2; n <= 4; n++) {
                for (int m = n + 1; m <= 5; m++) {
                    s = Check.at(NINE + KINDS);
                    round(s, 0, n, k);
                    round(s, n, m, k);
                    c.is("a long one behind one of " + n, s.ring(), 2 * size[k] * m);
                    c.is("its first", s.ringAt(0), n);
                    c.is("its last", s.ringAt(m - 1), n + m - 1);
                    s = Check.at(NINE + KINDS);
                    round(s, n, m, k);
                    round(s, 0, n, k);
                    c.is("a long one ahead of one of " + n, s.ring(), 2 * size[k] * m);
                    c.is("its first", s.ringAt(0), 0);
                    c.is("its last", s.ringAt(m - 1), m - 1);
                }
            }
        }
        c.part("of like ones the one of fewest DEALS");
        for (int n = 3; n <= 5; n++) {
            s = Check.at(NINE + KINDS);
            for (int i = 0; i < n; i++) {
                s.write(i, (i + 1) % n, i == 0 ? 5 : 6, 0);
            }
            c.is("the long one", s.ring(), 4);
            c.is("its last", s.ringAt(n - 1), n - 1);
            for (int i = 0; i < n - 1; i++) {
                s.write(5 + i % 4, 5 + (i + 1) % (n - 1), i == 0 ? 5 : 6, 0);
            }
            c.is("the short one", s.ring(), 4);
            c.is("its first", s.ringAt(0), n);
            c.is("it has no more", s.ringAt(n - 1), -1);
        }
        for (int n = 3; n <= 5; n++) {
            s = Check.at(NINE + "kind p 2;dot 2;");
            round(s, 0, n, 0);
            c.is("it FREES nothing", s.ring(), 0);
            c.is("the long one", s.ringAt(n - 1), n - 1);
            s.write(n - 2, 0, 5, 0);
            c.is("the short one FREES nothing", s.ring(), 0);
            c.is("its first", s.ringAt(0), 0);
            c.is("its last", s.ringAt(n - 2), n);
            c.is("it has no more", s.ringAt(n - 1), -1);
        }
        for (int n = 4; n <= 5; n++) {
            for (int m = 3; m < n; m++) {
                s = Check.at(NINE + "kind p 2;dot 2;");
                round(s, 0, n, 0);
                for (int i = 1; i < m; i++) {
                    s.write(i == 1 ? 1 : 4 + i, i == m - 1 ? 0 : 5 + i, 5, 0);
                }
                c.is("by another way", s.ring(), 0);
                c.is("the same first", s.ringAt(0), 0);
                for (int i = 1; i < m; i++) {
                    c.is("the short one", s.ringAt(i), n + i - 1);
                }
                c.is("it has no more", s.ringAt(m), -1);
            }
        }
        c.part("of like ones the first (told from its least DEAL on: DEAL by DEAL the lesser)");
        s = Check.at(NINE + KINDS);
        for (int i = 0; i < 4; i++) {
            s.write(0, 1, 5, 0);
            s.write(1, 0, 5, 0);
        }
        ringIs(s, 8, 0, 1);
        s = Check.at(NINE + KINDS);
        s.write(1, 2, 5, 0);
        s.write(0, 1, 5, 0);
        s.write(2, 0, 5, 0);
        s.write(2, 0, 5, 0);
        ringIs(s, 12, 0, 2, 1);
        s = Check.at(NINE + KINDS);
        s.write(0, 1, 5, 0);
        s.write(2, 0, 5, 0);
        s.write(3, 0, 5, 0);
        s.write(1, 3, 5, 0);
        s.write(1, 2, 5, 0);
        ringIs(s, 12, 0, 3, 2);
    }

    private static void promise15() {
        c.part("promise 15: the latest ring() that there was; NONE: none such, or ahead of any");
        SkinLedger s = new SkinLedger();
        for (int i : new int[] {-1, 0, 4, 5, LEAST, MOST}) {
            c.is("ahead of any", s.ringAt(i), -1);
        }
        Check.port(s, NINE + KINDS);
        c.is("none", s.ring(), -1);
        c.is("ahead of any that there was", s.ringAt(0), -1);
        for (int i = 0; i < 5; i++) {
            s.write(i, (i + 1) % 5, 5, 0);
        }
        c.is("RINGS there are are not told", s.ringAt(0), -1);
        c.is("ringOf", s.ringOf(0), 20);
        c.is("ringAt() is not of it", s.ringAt(0), -1);
        c.is("ring", s.ring(), 20);
        c.is("the last", s.ringAt(4), 4);
        for (int i : new int[] {-1, 5, 6, LEAST, MOST}) {
            c.is("none such", s.ringAt(i), -1);
        }
        s.write(1, 0, 9, 2);
        s.write(0, 1, 9, 2);
        c.is("ringOf another", s.ringOf(6), 36);
        c.is("ringsFor", s.ringsFor(0, 1, 0), 0);
        c.is("ringAt() is not of these", s.ringAt(4), 4);
        c.is("cut", s.cut(), 9);
        c.is("nor of cut()", s.ringAt(4), 4);
        c.is("a shorter one", s.ring(), 20);
        s.write(1, 0, 9, 2);
        s.write(0, 1, 9, 2);
        c.is("a shorter one", s.ring(), 36);
        c.is("its last", s.ringAt(1), 8);
        c.is("it has no more", s.ringAt(2), -1);
    }

    private static void promise16() {
        c.part("promise 16: NONE: there is none, no such DEAL");
        SkinLedger s = Check.at(NINE + KINDS);
        for (int d : new int[] {-1, 0, 59, 60, LEAST, MOST}) {
            c.is("no such DEAL", s.ringOf(d), -1);
        }
        s = Check.at("body a 99;body b 99;kind p 1;");
        for (int i = 0; i < 30; i++) {
            s.write(0, 1, 5, 0);
            s.write(1, 0, 5, 0);
        }
        c.is("the first", s.ringOf(0), 4);
        c.is("the last", s.ringOf(59), 4);
        for (int d : new int[] {-1, 60, LEAST, MOST}) {
            c.is("no such DEAL", s.ringOf(d), -1);
        }
        s = Check.at(NINE + KINDS);
        s.write(0, 1, 5, 0);
        s.write(1, 0, 5, 0);
        s.write(1, 2, 5, 0);
        c.is("in none", s.ringOf(2), -1);
        s.strike(0);
        c.is("struck", s.ringOf(0), -1);
        c.is("in none any more", s.ringOf(1), -1);
    }

    private static void promise17() {
        c.part("promise 17: NONE: there is none");
        c.is("nobody", new SkinLedger().cut(), -1);
        c.is("no KINDS", Check.at("body a 9;body b 9;").cut(), -1);
        SkinLedger s = Check.at(NINE + KINDS);
        c.is("no DEALS", s.cut(), -1);
        s.write(0, 1, 5, 0);
        c.is("one", s.cut(), -1);
        s.write(1, 0, 5, 3);
        c.is("a doubled one", s.cut(), -1);
        s.write(1, 0, 7, 0);
        c.is("two", s.cut(), 5);
        c.is("no more", s.cut(), -1);
        c.is("the doubled one stays", s.deal(1, 2), 5);
        s = Check.at("body a 99;body b 99;kind p 1;");
        for (int i = 0; i < 30; i++) {
            s.write(0, 1, 1 + i, 0);
            s.write(1, 0, 1 + i, 0);
        }
        for (int i = 0; i < 30; i++) {
            c.is("cut", s.cut(), 1 + i);
        }
        c.is("no more", s.cut(), -1);
    }

    private static void promise22() {
        c.part("promise 22: NONE: it is WRONG by 1, no RINGS are left ahead of that, no such ones");
        SkinLedger s = Check.at("body a 4;body b 4;body d 4;kind p 2;kind q 4;kind r 9;");
        for (int far : new int[] {-1, 3, LEAST, MOST}) {
            c.is("no such lender", s.ringsFor(far, 0, 0), -1);
            c.is("no such debtor", s.ringsFor(0, far, 0), -1);
            c.is("no such KIND", s.ringsFor(0, 1, far), -1);
        }
        for (int b = 0; b < 3; b++) {
            c.is("with himself", s.ringsFor(b, b, 0), -1);
        }
        c.is("0: none", s.ringsFor(0, 2, 1), 0);
        c.is("no RINGS", s.ringsFor(0, 2, 2), -1);
        s.write(0, 1, 5, 0);
        s.write(1, 0, 5, 0);
        c.is("full", s.ringsFor(0, 2, 0), 1);
        c.is("one", s.ringsFor(2, 1, 1), 1);
        c.is("none helps", s.ringsFor(2, 1, 2), -1);
        s.dies(2, 0);
        c.is("WRONG by 1", s.ringsFor(0, 2, 0), -1);
        c.is("WRONG by 1", s.ringsFor(2, 0, 0), -1);
        c.is("as far as there are", s.ringsFor(0, 1, 0), 1);
        s = Check.at("body a 60;body b 60;kind p 2;kind q 9;kind r 9;");
        for (int i = 0; i < 15; i++) {
            s.write(0, 1, 9, 0);
            s.write(1, 0, 9, 0);
        }
        c.is("all of it is taken", s.body(0, 3) + s.body(1, 3), 0);
        // each RING gives 4 to each
        int[] size = {2, 9};
        for (int k = 0; k < 2; k++) {
            c.is("RINGS for " + size[k], s.ringsFor(0, 1, k), (size[k] + 3) / 4);
        }
        c.is("nothing was CUT", s.count(5), 30);
        c.is("nothing to undo of it", s.undo(), 7);
    }

    public static void main(String[] args) {
        lengths();
        sorts();
        cutting();
        best();
        promise15();
        promise16();
        promise17();
        promise22();
        c.end("RingBoundsTest");
    }
}
