/** The bounds of what is looked at: promises 6 to 10, 23 to 32, 48. */
public final class LookBoundsTest {
    private static final Check c = new Check();
    private static final int LEAST = Integer.MIN_VALUE;
    private static final int MOST = Integer.MAX_VALUE;

    /** Nine BODIES, six KINDS, sixty DEALS, YEAR 99: a lends to all others by turns 54 times, b to a six times by each KIND. */
    private static SkinLedger full() {
        SkinLedger s = Check.at("body a 99;body b 99;body d 99;body e 99;body g 99;body h 99;body i 99;body j 99;"
                + "body l 99 kin j;kind p 1;kind w 1 doubled;kind u 1 halved;kind f 1 false;kind x 1 joint;kind z 9;");
        for (int i = 0; i < 54; i++) {
            s.write(0, 1 + i % 8, 1 + i, 0);
        }
        for (int y = 0; y < 99; y++) {
            s.year();
        }
        for (int k = 0; k < 6; k++) {
            s.write(1, 0, 99, k);
        }
        return s;
    }

    /** One BODY, one KIND, no DEALS. */
    private static SkinLedger small() {
        return Check.at("body a 1;kind p 1;");
    }

    private static void promise6() {
        c.part("promise 6: NoSuchElementException: no such ones");
        SkinLedger s = full();
        c.is("ROOM of the first", s.body(0, 0), 99);
        c.is("kin of the last", s.body(8, 1), 7);
        c.is("kin NONE", s.body(0, 1), -1);
        c.is("lines and dots of the last", s.body(8, 6), 0);
        c.is("MARKS of the first", s.body(0, 5), 60);
        c.is("LEFT of the first", s.body(0, 3), 99 - 54 - 5 - 9);
        c.is("NET of the first", s.body(0, 4), 54 * 55 / 2 - 99 - 198 - 49 - 99 - 99);
        for (int b : new int[] {-1, 9, LEAST, MOST}) {
            for (int what = 0; what <= 6; what++) {
                c.noBody(s, b, what);
            }
        }
        for (int b = 0; b <= 8; b += 8) {
            c.noBody(s, b, -1);
            c.noBody(s, b, 7);
            c.noBody(s, b, LEAST);
            c.noBody(s, b, MOST);
        }
        s = small();
        c.is("the only one", s.body(0, 0), 1);
        c.noBody(s, 1, 0);
        c.noBody(s, -1, 0);
        c.noBody(Check.at(""), 0, 0);
        c.part("promise 6: lives (1, 0)");
        s = Check.at("body a 5;body b 5;kind p 2;line 2;dot 1;");
        c.is("lives", s.body(1, 2), 1);
        s.write(0, 1, 1, 0);
        c.is("LEFT", s.body(0, 3), 3);
        s.strike(0);
        c.is("MARKS (also of those struck)", s.body(0, 5), 1);
        c.is("a line", s.body(0, 6), 2);
        c.is("LEFT", s.body(0, 3), 1);
        c.is("NET of open DEALS", s.body(0, 4), 0);
        s.dies(1, 0);
        c.is("dead", s.body(1, 2), 0);
        c.is("his MARKS stay", s.body(1, 5), 1);
        s = Check.at("body a 5;body b 5;kind p 2;");
        s.write(0, 1, 1, 0);
        s.dies(1, 0);
        c.is("MARKS (also of those closed)", s.body(0, 5) + s.body(1, 5), 2);
    }

    private static void promise7() {
        c.part("promise 7: NoSuchElementException: no such ones");
        SkinLedger s = full();
        int[] sort = {0, 1, 2, 3, 4, 0};
        for (int k = 0; k < 6; k++) {
            c.is("SIZE", s.kind(k, 0), k == 5 ? 9 : 1);
            c.is("sort", s.kind(k, 1), sort[k]);
            c.noKind(s, k, -1);
            c.noKind(s, k, 2);
        }
        for (int k : new int[] {-1, 6, LEAST, MOST}) {
            c.noKind(s, k, 0);
            c.noKind(s, k, 1);
        }
        s = small();
        c.is("the only one", s.kind(0, 0), 1);
        c.noKind(s, 1, 0);
        c.noKind(Check.at("body a 5;"), 0, 0);
    }

    private static void promise8() {
        c.part("promise 8: NoSuchElementException: no such ones");
        SkinLedger s = full();
        c.is("the first: lender", s.deal(0, 0), 0);
        c.is("the first: VALUE", s.deal(0, 9), 1);
        c.is("the last: debtor", s.deal(59, 1), 0);
        c.is("the last: YEAR", s.deal(59, 4), 99);
        for (int d : new int[] {-1, 60, LEAST, MOST}) {
            for (int what = 0; what <= 9; what++) {
                c.noDeal(s, d, what);
            }
        }
        for (int d = 0; d <= 59; d += 59) {
            for (int what : new int[] {-1, 10, LEAST, MOST}) {
                c.noDeal(s, d, what);
            }
        }
        s = Check.at("body a 5;body b 5;kind p 1;");
        c.noDeal(s, 0, 0);
        s.write(0, 1, 1, 0);
        c.is("the only one", s.deal(0, 2), 1);
        c.noDeal(s, 1, 0);
        s.undo();
        c.noDeal(s, 0, 0);
        c.part("VALUE: SUM; doubled: twice; halved: half of it, cut; false: 0; joint: SUM");
        int[] sums = {1, 2, 3, 98, 99};
        int[][] due = {{1, 2, 3, 98, 99}, {2, 4, 6, 196, 198}, {0, 1, 1, 49, 49}, {0, 0, 0, 0, 0}, {1, 2, 3, 98, 99}};
        for (int k = 0; k < 5; k++) {
            s = Check.at("body a 99;body b 99;kind p 1;kind w 1 doubled;kind h 1 halved;kind f 1 false;kind j 1 joint;");
            for (int i = 0; i < 5; i++) {
                s.write(0, 1, sums[i], k);
                c.is("SUM", s.deal(i, 2), sums[i]);
                c.is("VALUE of " + sums[i] + " by " + k, s.deal(i, 9), due[k][i]);
            }
        }
        c.part("promise 8: who bears (NONE: it came off), open (0), struck (1), closed (2)");
        s = Check.at("body a 9;body b 9;kind p 1;");
        s.write(0, 1, 5, 0);
        s.write(1, 0, 5, 0);
        s.write(0, 1, 9, 0);
        s.write(0, 1, 9, 0);
        s.strike(3);
        s.cut();
        int[] state = {2, 2, 0, 1};
        for (int d = 0; d < 4; d++) {
            c.is("state", s.deal(d, 5), state[d]);
            c.is("CREDIT", s.deal(d, 6), d < 2 ? -1 : 0);
            c.is("DEBT", s.deal(d, 7), d < 2 ? -1 : 1);
            c.is("KNOWN", s.deal(d, 8), d < 2 ? 0 : 1);
            c.is("SUM", s.deal(d, 2), d < 2 ? 0 : 9);
            c.is("VALUE", s.deal(d, 9), d < 2 ? 0 : 9);
        }
        s.dies(0, 1);
        c.is("closed, its MARKS stay", s.deal(2, 5), 2);
        c.is("CREDIT", s.deal(2, 6), 0);
        c.is("DEBT", s.deal(2, 7), 1);
        c.is("SUM", s.deal(2, 2), 9);
    }

    private static void knownOnes() {
        c.part("READ: not scarred, on a bearer who is not buried; KNOWN: one of its MARKS (joint: both)");
        for (int k = 0; k <= 1; k++) {
            for (int credit = 0; credit < 3; credit++) {
                for (int debt = 0; debt < 3; debt++) {
                    SkinLedger s = Check.at("body a 9;body b 9;body d 9;body e 9;kind p 1;kind j 1 joint;");
                    s.write(0, 1, 5, k);
                    spoil(s, 0, credit);
                    spoil(s, 1, debt);
                    int isCredit = credit == 0 ? 1 : 0;
                    int isDebt = debt == 0 ? 1 : 0;
                    c.is("CREDIT", s.read(0, 0), isCredit);
                    c.is("DEBT", s.read(0, 1), isDebt);
                    c.is("KNOWN", s.deal(0, 8), k == 1 ? isCredit * isDebt : Math.max(isCredit, isDebt));
                    c.is("LOST", s.lost(-1), 1 - s.deal(0, 8));
                }
            }
        }
    }

    /** By 1 the MARK is scarred, by 2 its bearer is buried: each side has an heir of its own, so that the DEAL stays open. */
    private static void spoil(SkinLedger s, int side, int how) {
        if (how == 1) {
            c.is("scar", s.scar(0, side), 0);
        }
        if (how == 2) {
            c.is("dies", s.dies(side, 2 + side), 1);
        }
    }

    private static void promise9() {
        c.part("promise 9: NONE: no such one, it came off");
        SkinLedger s = full();
        c.is("the first", s.read(0, 0), 1);
        c.is("the last", s.read(59, 1), 1);
        for (int side : new int[] {-1, 2, LEAST, MOST}) {
            c.is("no such side", s.read(0, side), -1);
            c.is("no such side", s.read(59, side), -1);
        }
        for (int d : new int[] {-1, 60, LEAST, MOST}) {
            c.is("no such DEAL", s.read(d, 0), -1);
            c.is("no such DEAL", s.read(d, 1), -1);
        }
        s.cut();
        c.is("off", s.deal(0, 5), 2);
        c.is("it came off", s.read(0, 0), -1);
        c.is("it came off", s.read(0, 1), -1);
        s.scar(59, 0);
        c.is("not READ", s.read(59, 0), 0);
        c.is("not READ", small().read(0, 0), -1);
    }

    private static void promise10() {
        c.part("promise 10: how many (k NONE). NONE: none such, no such BODY");
        SkinLedger s = full();
        c.is("how many", s.mark(0, -1), 60);
        c.is("the first", s.mark(0, 0), 0);
        c.is("the last of the CREDITS", s.mark(0, 53), 106);
        c.is("the first of the DEBTS", s.mark(0, 54), 109);
        c.is("the last", s.mark(0, 59), 119);
        for (int k : new int[] {-2, 60, LEAST, MOST}) {
            c.is("none such", s.mark(0, k), -1);
        }
        c.is("the last BODY", s.mark(8, -1), 6);
        c.is("his first", s.mark(8, 0), 15);
        c.is("his last", s.mark(8, 5), 95);
        c.is("none such", s.mark(8, 6), -1);
        for (int b : new int[] {-1, 9, LEAST, MOST}) {
            c.is("no such BODY", s.mark(b, -1), -1);
            c.is("no such BODY", s.mark(b, 0), -1);
        }
        c.is("without MARKS", small().mark(0, -1), 0);
        c.is("without MARKS", small().mark(0, 0), -1);
        c.part("promise 10: by DEALS, the CREDIT ahead of the DEBT");
        s = Check.at("body a 4;body b 1 kin a;body d 9;kind p 2;kind q 1;");
        s.write(0, 1, 5, 0);
        c.is("both on one", s.mark(0, -1), 2);
        c.is("the CREDIT", s.mark(0, 0), 0);
        c.is("the DEBT", s.mark(0, 1), 1);
        c.is("no more", s.mark(0, 2), -1);
    }

    private static void promise23() {
        c.part("promise 23: MARKS of DEALS of a YEAR or an earlier one (0 to 99)");
        SkinLedger s = full();
        c.is("YEAR 0", s.aged(0, 0), 54);
        c.is("YEAR 98", s.aged(0, 98), 54);
        c.is("YEAR 99", s.aged(0, 99), 60);
        c.is("of the last BODY", s.aged(8, 0), 6);
        for (int year : new int[] {-1, 100, LEAST, MOST}) {
            c.is("no such YEAR", s.aged(0, year), -1);
        }
        for (int b : new int[] {-1, 9, LEAST, MOST}) {
            c.is("no such BODY", s.aged(b, 0), -1);
            c.is("no such BODY", s.aged(b, 99), -1);
        }
        c.is("without MARKS", small().aged(0, 99), 0);
        s = Check.at("body a 9;body b 9;kind p 1;");
        s.year();
        s.write(0, 1, 5, 0);
        c.is("of a later one not", s.aged(0, 0), 0);
        c.is("of that one", s.aged(0, 1), 1);
    }

    private static void promise24() {
        c.part("promise 24: who owe to a BODY (what 0), to whom it owes (1), as bits");
        SkinLedger s = full();
        c.is("all others", s.owes(0, 0), 510);
        c.is("to b alone", s.owes(0, 1), 2);
        c.is("none to the last", s.owes(8, 0), 0);
        c.is("the last to a", s.owes(8, 1), 1);
        for (int what : new int[] {-1, 2, LEAST, MOST}) {
            c.is("another what", s.owes(0, what), -1);
        }
        for (int b : new int[] {-1, 9, LEAST, MOST}) {
            c.is("no such BODY", s.owes(b, 0), -1);
            c.is("no such BODY", s.owes(b, 1), -1);
        }
        c.is("nobody", small().owes(0, 0), 0);
        s = Check.at("body a 9;body b 9;body d 9;kind p 1;");
        s.write(0, 1, 5, 0);
        s.strike(0);
        c.is("by open DEALS", s.owes(0, 0), 0);
        c.is("by open DEALS", s.owes(1, 1), 0);
        s.write(0, 1, 5, 0);
        s.dies(1, 2);
        c.is("the heir", s.owes(0, 0), 4);
        c.is("not the dead", s.owes(1, 1), 0);
    }

    private static void promise25() {
        c.part("promise 25: 0: a is b; NONE: there is none, no such ones");
        String nine = "body a 9;body b 9;body d 9;body e 9;body g 9;body h 9;body i 9;body j 9;body l 9;kind p 1;";
        for (int way = 0; way < 2; way++) {
            SkinLedger s = Check.at(nine);
            for (int i = 0; i < 8; i++) {
                int b = way == 0 ? i : 7 - i;
                s.write(b + 1, b, 5, 0);
            }
            for (int a = 0; a < 9; a++) {
                for (int b = 0; b < 9; b++) {
                    c.is("chain(" + a + ", " + b + ")", s.chain(a, b), b >= a ? b - a : -1);
                }
            }
            s.strike(4);
            c.is("of open DEALS", s.chain(0, 8), -1);
        }
        SkinLedger s = Check.at(nine);
        for (int b : new int[] {-1, 9, LEAST, MOST}) {
            c.is("no such one", s.chain(b, 0), -1);
            c.is("no such one", s.chain(0, b), -1);
            c.is("no such ones", s.chain(b, b), -1);
        }
        c.is("a is b", s.chain(0, 0), 0);
        c.is("a is b", s.chain(8, 8), 0);
        c.is("none", s.chain(0, 8), -1);
        s.write(0, 8, 5, 0);
        c.is("one", s.chain(8, 0), 1);
        c.is("not the other way", s.chain(0, 8), -1);
        s.dies(8, 1);
        c.is("of the dead to himself", s.chain(8, 8), 0);
        c.is("of the dead", s.chain(8, 0), -1);
        c.is("of the heir", s.chain(1, 0), 1);
    }

    private static void promise26() {
        c.part("promise 26: the k-th least LEFT (of like ones the first; k from 0); NONE: none such");
        SkinLedger s = full();
        int[] due = {0, 1, 2, 3, 4, 5, 6, 7, 8};
        for (int k = 0; k < 9; k++) {
            c.is("fullest(" + k + ")", s.fullest(k), due[k]);
        }
        for (int k : new int[] {-1, 9, 10, LEAST, MOST}) {
            c.is("none such", s.fullest(k), -1);
        }
        s.dies(8, 0);
        c.is("of those who live", s.fullest(7), 7);
        c.is("none such", s.fullest(8), -1);
        s.dies(0, 1);
        c.is("of those who live", s.fullest(0), 1);
        c.is("none such", s.fullest(7), -1);
        c.is("the only one", small().fullest(0), 0);
        c.is("none such", small().fullest(1), -1);
        c.is("nobody", Check.at("").fullest(0), -1);
    }

    private static void promise27() {
        c.part("promise 27: VALUES of DEALS of a YEAR (0 to 99); NONE: no such ones");
        SkinLedger s = full();
        c.is("YEAR 0", s.trade(0, 0), 54 * 55 / 2);
        c.is("YEAR 1", s.trade(1, 0), 0);
        c.is("YEAR 99", s.trade(99, 0), 99 + 198 + 49 + 99 + 99);
        c.is("open", s.trade(99, 1), 99 + 198 + 49 + 99 + 99);
        s.strike(59);
        c.is("open", s.trade(99, 1), 99 + 198 + 49 + 99);
        c.is("struck", s.trade(99, 2), 99);
        c.is("closed", s.trade(99, 3), 0);
        s.dies(1, 0);
        c.is("closed", s.trade(99, 3), 99 + 198 + 49 + 99);
        c.is("all", s.trade(99, 0), 99 + 198 + 49 + 99 + 99);
        for (int what : new int[] {-1, 4, LEAST, MOST}) {
            c.is("another what", s.trade(0, what), -1);
        }
        for (int year : new int[] {-1, 100, LEAST, MOST}) {
            for (int what = 0; what <= 3; what++) {
                c.is("no such YEAR", s.trade(year, what), -1);
            }
        }
        c.is("no DEALS", small().trade(99, 3), 0);
    }

    private static void promise28() {
        c.part("promise 28: how many payments");
        c.is("nobody", Check.at("").settled(), 0);
        c.is("no DEALS", small().settled(), 0);
        SkinLedger s = full();
        c.is("nine", s.settled(), 8);
        s = Check.at("body a 99;body b 99;body d 99;body e 99;body g 99;body h 99;body i 99;body j 99;body l 99;kind p 1;");
        for (int b = 0; b < 8; b += 2) {
            s.write(b, b + 1, 1, 0);
            c.is("pairs", s.settled(), b / 2 + 1);
        }
        s.write(7, 8, 2, 0);
        c.is("three pairs and three", s.settled(), 5);
        s.write(8, 7, 2, 0);
        c.is("NETS of 0 need none", s.settled(), 4);
        s.write(8, 7, 1, 0);
        c.is("three pairs and three", s.settled(), 5);
        s = Check.at("body a 9;body b 9;body d 9;kind p 1;");
        s.write(0, 1, 1, 0);
        s.write(0, 2, 1, 0);
        c.is("NETS 2, -1, -1", s.settled(), 2);
        s = Check.at("body a 9;body b 9;body d 9;kind p 1;");
        s.write(1, 0, 1, 0);
        s.write(2, 0, 1, 0);
        c.is("NETS -2, 1, 1", s.settled(), 2);
    }

    private static void promise29and30() {
        c.part("promise 29: how many bytes; NONE: no such BODY");
        SkinLedger s = full();
        for (int b : new int[] {-1, 9, LEAST, MOST}) {
            c.is("no such BODY", s.skin(b), -1);
        }
        c.is("the last BODY", s.skin(8), 8 + 5 * 9);
        c.is("the first BODY", s.skin(0), 9 * 8 + 45 * 9 + 6 * 9);
        c.is("promise 30: the first byte", s.byteAt(0), '+');
        c.is("the last byte", s.byteAt(530), ';');
        for (int i : new int[] {-1, 531, LEAST, MOST}) {
            c.is("none such", s.byteAt(i), -1);
        }
        s.skin(9);
        c.is("no text was made", s.byteAt(530), ';');
        s = small();
        c.is("no text", s.byteAt(0), -1);
        c.is("an empty text", s.skin(0), 0);
        c.is("no byte", s.byteAt(0), -1);
        c.part("promise 29: the longest text");
        StringBuilder due = new StringBuilder();
        for (int i = 0; i < 49; i++) {
            due.append("+ hijklmn ").append(51 + i).append(" vwxyzabx;- abcdefg ").append(51 + i).append(" vwxyzabx;");
        }
        due.append("- opqrstu 10 vwxyzabx;");
        for (int from = 0; from < due.length(); from += 300) {
            SkinLedger t = longest();
            c.is("MARKS", t.mark(0, -1), 99);
            c.is("its bytes", t.skin(0), 99 * 22);
            for (int i = from; i < from + 300; i++) {
                c.is("byteAt(" + i + ")", t.byteAt(i), i < due.length() ? due.charAt(i) : -1);
            }
        }
        c.part("promise 29: SUMS of one digit and two, ? in its place, x, o");
        s = Check.at("body a 9;body b 9;kind p 1;");
        s.write(0, 1, 9, 0);
        s.write(0, 1, 10, 0);
        s.write(1, 0, 1, 0);
        s.scar(1, 1);
        s.strike(2);
        c.skinIs(s, 0, "+ b 9 p;+ b 10 p;- b 1 px;");
        c.skinIs(s, 1, "- a 9 p;- a ? p;+ a 1 px;");
        s.dies(0, 1);
        c.skinIs(s, 0, "+ b 9 po;+ b 10 po;- b 1 px;");
        c.skinIs(s, 1, "- b 9 po;- b ? po;+ a 1 px;");
    }

    /** 99 MARKS, both of 49 DEALS, on one BODY: as many as find room on any; all struck, with the longest NAMES. */
    private static SkinLedger longest() {
        SkinLedger s = Check.at("body abcdefg 99;body hijklmn 1 kin abcdefg;body opqrstu 2;kind vwxyzab 1;line 0;");
        s.write(1, 2, 10, 0);
        for (int i = 0; i < 49; i++) {
            s.write(0, 1, 51 + i, 0);
            s.strike(1 + i);
        }
        s.write(2, 0, 10, 0);
        s.strike(50);
        return s;
    }

    private static void promise31() {
        c.part("promise 31: how many (k NONE), or the k-th. NONE: none such, no such ones");
        SkinLedger s = full();
        c.is("how many", s.between(0, 8, -1), 6);
        c.is("the first", s.between(0, 8, 0), 7);
        c.is("the last", s.between(0, 8, 5), 47);
        for (int k : new int[] {-2, 6, LEAST, MOST}) {
            c.is("none such", s.between(0, 8, k), -1);
        }
        for (int b : new int[] {-1, 9, LEAST, MOST}) {
            c.is("no such lender", s.between(b, 0, -1), -1);
            c.is("no such debtor", s.between(0, b, -1), -1);
            c.is("no such lender", s.between(b, 0, 0), -1);
            c.is("no such debtor", s.between(0, b, 0), -1);
        }
        c.is("the last DEAL", s.between(1, 0, 5), 59);
        c.is("none", s.between(8, 0, -1), 0);
        c.is("none", s.between(8, 0, 0), -1);
        c.is("none with himself", small().between(0, 0, -1), 0);
        s.strike(7);
        c.is("open ones", s.between(0, 8, -1), 5);
        c.is("the first", s.between(0, 8, 0), 15);
    }

    private static void promise32() {
        c.part("promise 32: the k-th greatest VALUE (of like ones the first; k from 0); NONE: none such");
        SkinLedger s = full();
        int[] due = {55, 54, 58, 59, 53};
        for (int k = 0; k < 5; k++) {
            c.is("greatest(" + k + ")", s.greatest(k), due[k]);
        }
        c.is("the last but one", s.greatest(58), 0);
        c.is("the last", s.greatest(59), 57);
        for (int k : new int[] {-1, 60, LEAST, MOST}) {
            c.is("none such", s.greatest(k), -1);
        }
        s.strike(55);
        c.is("of open ones", s.greatest(0), 54);
        c.is("none such", s.greatest(59), -1);
        c.is("no DEALS", small().greatest(0), -1);
    }

    /** What there could be, but is not, is none such: one KIND of 6, two BODIES of 9, one DEAL of 60. */
    private static void few() {
        c.part("no such BODIES");
        for (int b = 2; b <= 9; b++) {
            SkinLedger s = one();
            c.noBody(s, b, 0);
            c.is("mark", s.mark(b, -1), -1);
            c.is("write", s.write(b, 0, 5, 0), -1);
            c.is("write", s.write(0, b, 5, 0), -1);
            c.is("dies", s.dies(b, 0), -1);
            c.is("dies", s.dies(0, b), -1);
            c.is("can", s.can(b, 0), -1);
            c.is("ringsFor", s.ringsFor(b, 0, 0), -1);
            c.is("ringsFor", s.ringsFor(0, b, 0), -1);
            c.is("aged", s.aged(b, 0), -1);
            c.is("owes", s.owes(b, 0), -1);
            c.is("chain", s.chain(b, 0), -1);
            c.is("chain", s.chain(0, b), -1);
            c.is("chain", s.chain(b, b), -1);
            c.is("fullest", s.fullest(b), -1);
            c.is("skin", s.skin(b), -1);
            c.is("between", s.between(b, 0, -1), -1);
            c.is("between", s.between(0, b, -1), -1);
            c.is("price", s.price(b, 1), -1);
            c.is("owed", s.owed(b, 3, 0), -1);
            c.is("owed by it", s.owed(0, 1 << b, 0), -1);
            c.is("owed by it, too", s.owed(0, 3 | 1 << b, 1), -1);
            c.is("proof", s.proof(b), -1);
        }
        c.part("no such KINDS");
        for (int k = 1; k <= 6; k++) {
            SkinLedger s = one();
            c.noKind(s, k, 0);
            c.is("write", s.write(0, 1, 5, k), -1);
            c.is("can", s.can(0, k), -1);
            c.is("ringsFor", s.ringsFor(0, 1, k), -1);
        }
        c.part("no such DEALS");
        for (int d = 1; d <= 60; d++) {
            SkinLedger s = one();
            c.noDeal(s, d, 0);
            c.is("read", s.read(d, 0), -1);
            c.is("strike", s.strike(d), 4);
            c.is("scar", s.scar(d, 0), 4);
            c.is("ringOf", s.ringOf(d), -1);
            c.is("witness", s.witness(d), -1);
            c.is("greatest", s.greatest(d), -1);
            c.is("lost", s.lost(d), -1);
            c.is("between", s.between(0, 1, d), -1);
            c.is("mark", s.mark(0, d), -1);
        }
        SkinLedger s = one();
        c.is("what there is: the last BODY", s.mark(1, 0), 1);
        c.is("what there is: the KIND", s.can(0, 0), 2);
        c.is("what there is: who owes", s.owes(0, 0), 2);
        c.is("what there is: to whom", s.owes(1, 1), 1);
        c.is("what there is: between", s.between(0, 1, 0), 0);
        c.is("what there is: the DEAL", s.witness(0), 1);
        c.is("what there is: all found", s.owed(0, 3, 0), 5);
        c.is("what there is: a PRICE", s.price(1, 1), 0);
    }

    private static SkinLedger one() {
        SkinLedger s = Check.at("body a 9;body b 9;kind p 1;");
        s.write(0, 1, 5, 0);
        Check.bytes(s, 0, 1, 0);
        c.is("pack", s.pack(), 1);
        return s;
    }

    private static void promise48() {
        c.part("promise 48: NONE for another what");
        SkinLedger s = full();
        Check.book(s, "ring;".repeat(40));
        for (int i = 0; i < 32; i++) {
            s.feed(0, 0, 0, 0, 0);
        }
        int[] due = {9, 6, 1, 0, 60, 60, 99, 40, 640};
        for (int what = 0; what < 9; what++) {
            c.is("count(" + what + ")", s.count(what), due[what]);
        }
        for (int what : new int[] {-1, 9, LEAST, MOST}) {
            c.is("another what", s.count(what), -1);
        }
        s.strike(0);
        c.is("DEALS", s.count(4), 60);
        c.is("open ones", s.count(5), 59);
    }

    public static void main(String[] args) {
        promise6();
        promise7();
        promise8();
        knownOnes();
        promise9();
        promise10();
        promise23();
        promise24();
        promise25();
        promise26();
        promise27();
        promise28();
        promise29and30();
        promise31();
        promise32();
        promise48();
        few();
        c.end("LookBoundsTest");
    }
}
