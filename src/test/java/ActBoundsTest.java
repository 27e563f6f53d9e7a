/** The bounds of the ACTS: promises 11 to 13, 17 to 21. */
public final class ActBoundsTest {
    private static final Check c = new Check();
    private static final int LEAST = Integer.MIN_VALUE;
    private static final int MOST = Integer.MAX_VALUE;

    private static void room() {
        c.part("A MARK stands on a BODY, if SIZE is LEFT there");
        for (int size = 1; size <= 9; size++) {
            SkinLedger s = Check.at("body a " + size + ";body b 99;kind p " + size + ";kind q 1;");
            c.is("all that is LEFT", s.write(0, 1, 5, 0), 0);
            c.is("LEFT", s.body(0, 3), 0);
            c.is("nothing is LEFT", s.write(0, 1, 5, 1), -12);
            c.is("nothing is LEFT", s.write(1, 0, 5, 1), -13);
            if (size < 9) {
                s = Check.at("body a " + size + ";body b 99;kind p " + (size + 1) + ";");
                c.is("one too few", s.write(0, 1, 5, 0), -12);
                c.is("one too few", s.write(1, 0, 5, 0), -13);
                c.is("LEFT", s.body(0, 3), size);
            }
        }
        c.part("else on its kin, if that lives and SIZE is LEFT there");
        SkinLedger s = Check.at("body k 3;body a 2 kin k;body b 99;kind p 3;");
        c.is("the CREDIT on the kin", s.write(1, 2, 5, 0), 0);
        c.is("bearer", s.deal(0, 6), 0);
        c.is("LEFT of the kin", s.body(0, 3), 0);
        c.is("LEFT of a", s.body(1, 3), 2);
        s.undo();
        c.is("the DEBT on the kin", s.write(2, 1, 5, 0), 0);
        c.is("bearer", s.deal(0, 7), 0);
        s = Check.at("body k 2;body a 2 kin k;body b 99;kind p 3;");
        c.is("one too few on the kin", s.write(1, 2, 5, 0), -12);
        c.is("one too few on the kin", s.write(2, 1, 5, 0), -13);
        s = Check.at("body k 9;body a 3 kin k;body b 99;kind p 3;");
        c.is("as much as he has himself", s.write(1, 2, 5, 0), 0);
        c.is("bearer", s.deal(0, 6), 1);
        s = Check.at("body k 9;body a 2 kin k;body b 99;body d 2 kin a;kind p 3;");
        c.is("the kin's kin bears none", s.write(3, 2, 5, 0), -12);
        c.is("the kin's kin bears none", s.write(2, 3, 5, 0), -13);
        s.dies(0, 2);
        c.is("a dead kin", s.write(1, 2, 5, 0), -12);
        c.is("a dead kin", s.write(2, 1, 5, 0), -13);
        c.part("3 the DEBT (the CREDIT standing) finds none");
        s = Check.at("body k 6;body a 1 kin k;body b 1 kin k;kind p 3;");
        c.is("both on the kin", s.write(1, 2, 5, 0), 0);
        c.is("bearer", s.deal(0, 6) + s.deal(0, 7), 0);
        c.is("LEFT", s.body(0, 3), 0);
        s = Check.at("body k 5;body a 1 kin k;body b 1 kin k;kind p 3;");
        c.is("not both on the kin", s.write(1, 2, 5, 0), -13);
        c.is("LEFT", s.body(0, 3), 5);
        s = Check.at("body k 5;body a 1 kin k;kind p 3;");
        c.is("the lender is the kin", s.write(0, 1, 5, 0), -13);
        c.is("the debtor is the kin", s.write(1, 0, 5, 0), -13);
        s = Check.at("body e 9;body k 5 kin e;body a 1 kin k;kind p 3;");
        c.is("the debtor, the kin, has a kin himself", s.write(2, 1, 5, 0), 0);
        c.is("the CREDIT on him", s.deal(0, 6), 1);
        c.is("the DEBT on his kin", s.deal(0, 7), 0);
    }

    private static void promise11() {
        c.part("promise 11: NONE: no such ones, a SUM not 1 to 99");
        SkinLedger s = Check.at(Check.PORT);
        for (int far : new int[] {-1, 4, 5, LEAST, MOST}) {
            c.is("no such lender", s.write(far, 0, 5, 0), -1);
            c.is("no such debtor", s.write(0, far, 5, 0), -1);
            c.is("no such ones", s.write(far, far, 5, 0), -1);
        }
        for (int far : new int[] {-1, 5, 6, LEAST, MOST}) {
            c.is("no such KIND", s.write(0, 1, 5, far), -1);
            c.is("also with himself", s.write(0, 0, 5, far), -1);
        }
        for (int far : new int[] {-1, 0, 100, LEAST, MOST}) {
            c.is("no such SUM", s.write(0, 1, far, 0), -1);
            c.is("also with himself", s.write(0, 0, far, 0), -1);
        }
        c.is("none was written", s.count(4), 0);
        c.is("the least of all", s.write(0, 1, 1, 0), 0);
        c.is("the greatest of all", s.write(3, 2, 99, 4), 1);
        c.is("SUM", s.deal(0, 2), 1);
        c.is("SUM", s.deal(1, 2), 99);
        c.part("WRITE: WRONG by the least of its reasons");
        s = Check.at("body a 2;body b 2;body d 9;kind p 3;kind q 1;");
        c.is("1, 2, 3", s.write(0, 0, 5, 0), -11);
        c.is("2, 3", s.write(0, 1, 5, 0), -12);
        c.is("3", s.write(2, 1, 5, 0), -13);
        s.dies(1, 2);
        c.is("1, 2: a dead debtor", s.write(0, 1, 5, 0), -11);
        c.is("1, 3: a dead lender", s.write(1, 0, 5, 0), -11);
        c.is("1: both are one, dead", s.write(1, 1, 5, 1), -11);
        c.is("none", s.write(0, 2, 5, 1), 0);
    }

    /** Sixty DEALS of SIZE 1, the CREDITS on a, the DEBTS on b. */
    private static SkinLedger sixty(int roomOfA, int roomOfB) {
        SkinLedger s = Check.at("body a " + roomOfA + ";body b " + roomOfB + ";body d 1;kind p 1;");
        for (int i = 0; i < 60; i++) {
            c.is("write", s.write(0, 1, 5, 0), i);
        }
        return s;
    }

    private static void full() {
        c.part("WRITE (60 DEALS at most): 7 there are 60");
        SkinLedger s = sixty(99, 99);
        c.is("7", s.write(0, 1, 5, 0), -17);
        c.is("DEALS", s.count(4), 60);
        c.is("LEFT", s.body(0, 3), 39);
        c.is("1 ahead of 7", s.write(0, 0, 5, 0), -11);
        c.is("NONE ahead of 7", s.write(0, 1, 0, 0), -1);
        c.is("can lend to none", s.can(0, 0), 0);
        c.is("no RINGS help", s.ringsFor(0, 1, 0), -1);
        s.strike(0);
        c.is("also with a struck one", s.write(0, 1, 5, 0), -17);
        s.undo();
        s.undo();
        c.is("there are 59", s.count(4), 59);
        c.is("it is the 60th", s.write(1, 0, 5, 0), 59);
        c.is("also with closed ones", s.cut(), 5);
        c.is("7", s.write(0, 1, 5, 0), -17);
        c.is("RINGS are left, but 60 stay", s.ringsFor(0, 1, 0), -1);
        c.part("WRITE: 2 and 3 ahead of 7");
        s = sixty(60, 61);
        c.is("2 ahead of 7", s.write(0, 1, 5, 0), -12);
        c.is("7", s.write(1, 2, 5, 0), -17);
        c.is("3 ahead of 7", s.write(1, 0, 5, 0), -13);
    }

    private static void promise12() {
        c.part("promise 12: 4 it is not open (or none)");
        SkinLedger s = Check.at("body a 9;body b 9;kind p 1;");
        for (int d : new int[] {-1, 0, 60, LEAST, MOST}) {
            c.is("none", s.strike(d), 4);
        }
        s.write(0, 1, 5, 0);
        s.write(1, 0, 5, 0);
        s.write(0, 1, 5, 0);
        s.write(0, 1, 5, 0);
        s.cut();
        c.is("closed", s.strike(0), 4);
        c.is("closed", s.strike(1), 4);
        c.is("open", s.strike(2), 0);
        c.is("struck", s.strike(2), 4);
        c.is("the last", s.strike(3), 0);
        c.is("none", s.strike(4), 4);
        s.write(0, 1, 5, 0);
        s.dies(0, 1);
        c.is("closed by a death", s.strike(4), 4);
        c.part("STRIKE: 5 'line' is not LEFT on the bearer of each MARK");
        for (int line = 0; line <= 9; line++) {
            for (int left = 0; left <= 10; left++) {
                String rooms = "body a " + (1 + left) + ";body b 99;kind p 1;line " + line + ";";
                for (int lender = 0; lender < 2; lender++) {
                    s = Check.at(rooms);
                    s.write(lender, 1 - lender, 5, 0);
                    c.is("line " + line + ", LEFT " + left, s.strike(0), left >= line ? 0 : 5);
                    c.is("LEFT", s.body(0, 3), left >= line ? left - line : left);
                    c.is("lines of a", s.body(0, 6), left >= line ? line : 0);
                    c.is("lines of b", s.body(1, 6), left >= line ? line : 0);
                    c.is("state", s.deal(0, 5), left >= line ? 1 : 0);
                }
            }
        }
        c.part("STRIKE: twice, if both are on one");
        for (int line = 0; line <= 9; line++) {
            for (int left = 0; left <= 20; left++) {
                s = Check.at("body a " + (4 + left) + ";body b 1 kin a;kind p 2;line " + line + ";");
                s.write(0, 1, 5, 0);
                c.is("bearer", s.deal(0, 7), 0);
                c.is("line " + line + ", LEFT " + left, s.strike(0), left >= 2 * line ? 0 : 5);
                c.is("lines", s.body(0, 6), left >= 2 * line ? 2 * line : 0);
                c.is("LEFT", s.body(0, 3), left >= 2 * line ? left - 2 * line : left);
            }
        }
        c.part("STRIKE: a buried one needs none");
        for (int dead = 0; dead < 2; dead++) {
            s = Check.at("body a 1;body b 1;body d 9;kind p 1;");
            s.write(0, 1, 5, 0);
            s.dies(dead, 2);
            c.is("the other needs it", s.strike(0), 5);
            s = Check.at("body a " + (dead == 0 ? 1 : 2) + ";body b " + (dead == 1 ? 1 : 2) + ";body d 9;kind p 1;");
            s.write(0, 1, 5, 0);
            s.dies(dead, 2);
            c.is("the other has it", s.strike(0), 0);
            c.is("none on the buried one", s.body(dead, 6), 0);
            c.is("one on the other", s.body(1 - dead, 6), 1);
            c.is("none on the heir", s.body(2, 6), 0);
        }
        s = Check.at("body a 4;body b 1 kin a;body d 9;kind p 2;line 9;");
        s.write(0, 1, 5, 0);
        c.is("both on one who lives", s.strike(0), 5);
        s.dies(0, 2);
        c.is("both on a buried one", s.strike(0), 0);
        c.is("none on him", s.body(0, 6), 0);
    }

    private static void promise13() {
        c.part("promise 13: NONE: another side");
        SkinLedger s = Check.at("body a 9;body b 9;body d 9;kind p 1;");
        for (int side : new int[] {-1, 2, LEAST, MOST}) {
            c.is("of none", s.scar(0, side), -1);
        }
        for (int d : new int[] {-1, 0, 60, LEAST, MOST}) {
            c.is("4: none", s.scar(d, 0), 4);
            c.is("4: none", s.scar(d, 1), 4);
        }
        s.write(0, 1, 5, 0);
        for (int side : new int[] {-1, 2, LEAST, MOST}) {
            c.is("of one", s.scar(0, side), -1);
        }
        c.is("4: none", s.scar(1, 0), 4);
        c.part("SCAR: 4 it is not open");
        s.write(0, 1, 5, 0);
        s.strike(1);
        c.is("struck", s.scar(1, 0), 4);
        s.write(0, 1, 5, 0);
        s.scar(2, 1);
        s.strike(2);
        c.is("4 ahead of 6", s.scar(2, 1), 4);
        s.write(1, 0, 5, 0);
        s.cut();
        c.is("closed, it came off", s.scar(0, 0), 4);
        c.part("SCAR: 6 the MARK is scarred, its bearer buried");
        s.write(0, 1, 5, 0);
        c.is("the CREDIT", s.scar(4, 0), 0);
        c.is("scarred", s.scar(4, 0), 6);
        c.is("the DEBT", s.scar(4, 1), 0);
        c.is("scarred", s.scar(4, 1), 6);
        s.write(0, 1, 5, 0);
        s.dies(1, 2);
        c.is("buried", s.scar(5, 1), 6);
        c.is("not buried", s.scar(5, 0), 0);
        c.is("dead, scarred", s.scar(4, 1), 6);
        s.write(0, 2, 5, 0);
        s.dies(0, 2);
        c.is("4 ahead of 6", s.scar(6, 0), 4);
    }

    private static void promise18() {
        c.part("promise 18: NONE: no such ones");
        SkinLedger s = Check.at(Check.PORT);
        for (int far : new int[] {-1, 4, LEAST, MOST}) {
            c.is("no such BODY", s.dies(far, 0), -1);
            c.is("no such heir", s.dies(0, far), -1);
            c.is("no such ones", s.dies(far, far), -1);
        }
        c.part("DIES: 1 the two are one, or one is dead");
        for (int b = 0; b < 4; b++) {
            c.is("one", s.dies(b, b), -11);
        }
        c.is("all live", s.body(0, 2) + s.body(1, 2) + s.body(2, 2) + s.body(3, 2), 4);
        c.is("without DEALS", s.dies(0, 3), 0);
        c.is("dead already", s.dies(0, 1), -11);
        c.is("a dead heir", s.dies(1, 0), -11);
        c.is("dead, and one", s.dies(0, 0), -11);
        c.is("dead, no such heir", s.dies(0, 4), -1);
        c.is("the last dies", s.dies(3, 2), 0);
        c.is("the next", s.dies(2, 1), 0);
        c.is("none is left for an heir", s.dies(1, 0), -11);
        c.is("one lives", s.fullest(0), 1);
        c.is("alone", s.fullest(1), -1);
        c.part("his open DEALS are the heir's (a DEAL of the heir with himself is closed, its MARKS stay)");
        s = Check.at("body a 9;body b 9;body d 9;kind p 1;");
        s.write(0, 1, 5, 0);
        s.write(1, 0, 5, 0);
        s.write(2, 0, 5, 0);
        s.write(0, 2, 5, 0);
        s.strike(3);
        c.is("one, two closed, one struck", s.dies(0, 1), 1);
        int[] lender = {1, 1, 2, 0};
        int[] debtor = {1, 1, 1, 2};
        int[] state = {2, 2, 0, 1};
        for (int d = 0; d < 4; d++) {
            c.is("lender", s.deal(d, 0), lender[d]);
            c.is("debtor", s.deal(d, 1), debtor[d]);
            c.is("state", s.deal(d, 5), state[d]);
            c.is("SUM", s.deal(d, 2), 5);
            c.is("CREDIT", s.deal(d, 6) >= 0, true);
            c.is("DEBT", s.deal(d, 7) >= 0, true);
        }
        c.is("MARKS of the dead", s.body(0, 5), 4);
        c.is("the next heir has one", s.dies(1, 2), 0);
        c.is("closed", s.deal(2, 5), 2);
        c.part("promise 18: how many open DEALS the heir has of him, not of others");
        for (int b = 0; b < 4; b++) {
            for (int heir = 0; heir < 4; heir++) {
                s = Check.at("body a 20;body b 20;body d 20;body e 20;kind p 1;");
                for (int i = 0; i < 16; i++) {
                    s.write(i / 4, i % 4, 5, 0);
                }
                // of his three to others and three of others one each is with the heir
                c.is("dies(" + b + ", " + heir + ")", s.dies(b, heir), b == heir ? -11 : 4);
                c.is("open", s.count(5), b == heir ? 12 : 10);
            }
        }
        s = sixty(99, 99);
        c.is("all are closed", s.dies(0, 1), 0);
        c.is("none open", s.count(5), 0);
        s.undo();
        c.is("all are the heir's", s.dies(0, 2), 60);
        c.is("all open", s.count(5), 60);
    }

    private static void promise19() {
        c.part("YEAR: 9 it is 99: the next one; promise 19: its number; NONE: it is 99");
        SkinLedger s = Check.at("body a 9;body b 9;kind p 1;");
        for (int y = 1; y <= 99; y++) {
            s.write(0, 1, 5, 0);
            c.is("year", s.year(), y);
            c.is("count", s.count(6), y);
        }
        c.is("it is 99", s.year(), -1);
        c.is("again", s.year(), -1);
        c.is("it stays", s.count(6), 99);
        c.is("undo", s.undo(), 7);
        c.is("it was 98", s.count(6), 98);
        c.is("the next one", s.year(), 99);
        c.is("on an empty PORT, too", new SkinLedger().year(), 1);
        Check.port(s, "body a 9;");
        c.is("a new PORT has YEAR 0", s.count(6), 0);
        c.is("so the next is", s.year(), 1);
    }

    private static void promise20() {
        c.part("promise 20: how many more can be (8 at most are kept); NONE: none is");
        for (int n = 0; n <= 10; n++) {
            SkinLedger s = new SkinLedger();
            for (int i = 0; i < n; i++) {
                s.year();
            }
            int kept = Math.min(n, 8);
            for (int more = kept - 1; more >= 0; more--) {
                c.is("undo of " + n, s.undo(), more);
                c.is("YEAR", s.count(6), n - kept + more);
            }
            c.is("no more of " + n, s.undo(), -1);
            c.is("YEAR", s.count(6), n - kept);
            c.is("again", s.undo(), -1);
        }
        c.part("promise 20: the latest ACT done, not one that is WRONG");
        SkinLedger s = Check.at("body a 9;body b 9;body d 1;body e 9;kind p 1;kind q 9;line 9;");
        s.year();
        s.write(0, 1, 7, 0);
        c.is("write NONE", s.write(0, 1, 0, 0), -1);
        c.is("write 1", s.write(0, 0, 5, 0), -11);
        c.is("write 2", s.write(2, 0, 5, 1), -12);
        c.is("write 3", s.write(3, 2, 5, 1), -13);
        c.is("strike 4", s.strike(1), 4);
        c.is("strike 5", s.strike(0), 5);
        c.is("scar NONE", s.scar(0, 2), -1);
        c.is("scar 4", s.scar(1, 0), 4);
        c.is("cut NONE", s.cut(), -1);
        c.is("dies NONE", s.dies(0, 4), -1);
        c.is("dies 1", s.dies(0, 0), -11);
        c.is("judge not lived", s.judge(2), -2);
        c.is("judge not lived", s.judge(0), -1);
        c.is("an empty BOOK lived", s.judge(1), -1);
        Check.book(s, "strike 9;year;");
        c.is("none of a BOOK lived", s.judge(1), 0);
        s.image(0);
        c.is("the write", s.undo(), 1);
        c.is("DEALS", s.count(4), 0);
        c.is("the year", s.undo(), 0);
        c.is("YEAR", s.count(6), 0);
        c.is("none", s.undo(), -1);
        c.part("promise 20: all of a BOOK lived is one, by 40 LINES too");
        Check.book(s, "year;".repeat(40));
        c.is("lived", s.judge(1), -1);
        c.is("YEAR", s.count(6), 40);
        c.is("all of it", s.undo(), 0);
        c.is("YEAR", s.count(6), 0);
        for (int i = 0; i < 9; i++) {
            s.judge(1);
        }
        c.is("the third ended at 99", s.count(6), 99);
        c.is("of the six behind it none was done", s.undo(), 2);
        c.is("YEAR", s.count(6), 80);
        c.is("undo", s.undo(), 1);
        c.is("undo", s.undo(), 0);
        c.is("YEAR", s.count(6), 0);
        c.part("nothing can be undone in a new PORT, by restore()");
        s.year();
        s.image(0);
        c.is("a FAULT changes nothing", Check.port(s, "?"), -1);
        c.is("one can", s.undo(), 0);
        s.year();
        Check.port(s, "");
        c.is("a new PORT", s.undo(), -1);
        s.year();
        c.is("restore", s.restore(0), true);
        c.is("none", s.undo(), -1);
        s.year();
        c.is("restore of no such", s.restore(2), false);
        c.is("restore of nothing", s.restore(1), false);
        c.is("one can", s.undo(), 0);
    }

    private static void promise21() {
        c.part("promise 21: as bits; NONE: no such ones");
        SkinLedger s = Check.at("body a 9;body b 9;body d 9;body e 9;body g 9;body h 9;body i 9;body j 9;body l 9;"
                + "kind m 9;kind n 1;kind o 1;kind p 1;kind q 1;kind r 1;");
        for (int k = 0; k < 6; k++) {
            c.is("the first to all others", s.can(0, k), 510);
            c.is("the last to all others", s.can(8, k), 255);
        }
        for (int far : new int[] {-1, 9, LEAST, MOST}) {
            c.is("no such lender", s.can(far, 0), -1);
        }
        for (int far : new int[] {-1, 6, LEAST, MOST}) {
            c.is("no such KIND", s.can(0, far), -1);
        }
        s.write(0, 1, 5, 1);
        c.is("none has room of the KIND", s.can(0, 0), 0);
        c.is("but to others", s.can(2, 0), 504);
        s.dies(8, 2);
        c.is("not to the dead", s.can(2, 0), 248);
        c.is("the dead to none", s.can(8, 1), 0);
        c.is("one alone", Check.at("body a 9;kind p 1;").can(0, 0), 0);
        c.is("nothing was written", s.count(4), 1);
    }

    public static void main(String[] args) {
        room();
        promise11();
        full();
        promise12();
        promise13();
        promise18();
        promise19();
        promise20();
        promise21();
        c.end("ActBoundsTest");
    }
}
