/** Promises 11 to 13, 17 to 21: the ACTS, done and undone. */
public final class ActsTest {
    private static final Check c = new Check();

    private static void promise11() {
        c.part("promise 11");
        SkinLedger s = Check.at(Check.PORT);
        c.is("no such lender", s.write(-1, 1, 5, 0), -1);
        c.is("no such lender", s.write(4, 1, 5, 0), -1);
        c.is("no such debtor", s.write(0, 4, 5, 0), -1);
        c.is("no such debtor", s.write(0, -1, 5, 0), -1);
        c.is("no such KIND", s.write(0, 1, 5, 5), -1);
        c.is("no such KIND", s.write(0, 1, 5, -1), -1);
        c.is("SUM 0", s.write(0, 1, 0, 0), -1);
        c.is("SUM 100", s.write(0, 1, 100, 0), -1);
        c.is("SUM below 0", s.write(0, 1, -5, 0), -1);
        c.is("NONE ahead of WRONG", s.write(0, 0, 0, 0), -1);
        c.is("with himself", s.write(2, 2, 5, 0), -11);
        c.is("the first", s.write(0, 1, 99, 0), 0);
        c.is("the next", s.write(2, 0, 1, 1), 1);
        c.is("LEFT", s.body(0, 3), 15);
        c.is("LEFT", s.body(1, 3), 8);
        c.is("LEFT", s.body(2, 3), 3);
        c.is("what he has fits", s.write(2, 3, 1, 1), 2);
        c.is("LEFT", s.body(2, 3), 0);
        c.is("c has no kin", s.write(2, 3, 1, 3), -12);
        c.is("nor as the debtor", s.write(3, 2, 1, 3), -13);
        c.is("a SIZE that b has not", s.write(1, 0, 1, 2), 3);
        c.is("LEFT of b", s.body(1, 3), 6);
        for (int i = 0; i < 3; i++) {
            c.is("b is filled", s.write(1, 3, 5, 0), 4 + i);
        }
        c.is("b is full", s.body(1, 3), 0);
        c.is("his kin bears", s.write(1, 3, 5, 0), 7);
        c.is("the CREDIT on a", s.deal(7, 6), 0);
        c.is("the DEBT on d", s.deal(7, 7), 3);
        c.is("the kin lends to him", s.write(0, 1, 5, 1), 8);
        c.is("the CREDIT on a", s.deal(8, 6), 0);
        c.is("the DEBT on a", s.deal(8, 7), 0);
        c.is("LEFT of a", s.body(0, 3), 5);
        c.is("the CREDIT stands first", s.write(0, 1, 5, 1), -13);
        c.is("the DEBT alone would stand", s.write(3, 1, 5, 1), 9);
        c.is("LEFT of a", s.body(0, 3), 2);
        c.is("less than SIZE on both", s.write(1, 3, 5, 1), -12);
        s.dies(0, 2);
        c.is("a dead lender", s.write(0, 1, 5, 0), -11);
        c.is("a dead debtor", s.write(1, 0, 5, 0), -11);
        c.is("a dead kin bears none", s.write(1, 3, 5, 0), -12);
    }

    private static void sixty() {
        c.part("promise 11, 60 DEALS");
        SkinLedger s = Check.at("body a 65;body b 60;body e 1;kind p 1;line 0;");
        for (int i = 0; i < 60; i++) {
            c.is("write", s.write(0, 1, 5, 0), i);
        }
        c.is("3 is less than 7", s.write(0, 1, 5, 0), -13);
        c.is("2 is less than 7", s.write(1, 0, 5, 0), -12);
        c.is("1 is less than 7", s.write(0, 0, 5, 0), -11);
        c.is("there are 60", s.write(0, 2, 5, 0), -17);
        c.is("can", s.can(0, 0), 0);
        s.strike(0);
        c.is("also when one is struck", s.write(0, 2, 5, 0), -17);
        c.is("LEFT", s.body(0, 3), 5);
        c.is("undo", s.undo(), 7);
        c.is("undo", s.undo(), 6);
        c.is("there are 59", s.write(0, 2, 5, 0), 59);
    }

    private static void promise12() {
        c.part("promise 12");
        SkinLedger s = Check.at("body a 6;body b 3 kin a;body e 9;kind p 2;line 2;dot 1;");
        c.is("none", s.strike(0), 4);
        c.is("none", s.strike(-1), 4);
        s.write(0, 1, 5, 0);
        c.is("no line on b", s.strike(0), 5);
        c.is("open", s.deal(0, 5), 0);
        c.is("LEFT of a", s.body(0, 3), 4);
        s.write(0, 2, 5, 0);
        c.is("struck", s.strike(1), 0);
        c.is("state", s.deal(1, 5), 1);
        c.is("LEFT of a", s.body(0, 3), 0);
        c.is("lines of a", s.body(0, 6), 2);
        c.is("lines of e", s.body(2, 6), 2);
        c.is("MARKS stay", s.deal(1, 6), 0);
        c.is("struck already", s.strike(1), 4);
        c.is("beyond", s.strike(2), 4);
        // both MARKS on one: twice the line
        s = Check.at("body a 8;body b 1 kin a;kind p 2;kind q 3;line 2;");
        s.write(0, 1, 5, 0);
        c.is("both on a", s.deal(0, 7), 0);
        c.is("twice", s.strike(0), 0);
        c.is("LEFT", s.body(0, 3), 0);
        c.is("lines", s.body(0, 6), 4);
        s = Check.at("body a 8;body b 1 kin a;kind p 2;kind q 3;line 2;");
        s.write(0, 1, 5, 1);
        c.is("only once LEFT", s.body(0, 3), 2);
        c.is("not twice", s.strike(0), 5);
        // buried ones need none
        s = Check.at("body a 3;body b 9;body e 9;kind p 3;");
        s.write(0, 1, 5, 0);
        c.is("no line on a", s.strike(0), 5);
        s.dies(0, 2);
        c.is("a buried one needs none", s.strike(0), 0);
        c.is("none on him", s.body(0, 6), 0);
        c.is("one on b", s.body(1, 6), 1);
        c.is("the heir bears none", s.body(2, 6), 0);
        s = Check.at("body a 4;body b 1 kin a;body e 9;kind p 2;");
        s.write(0, 1, 5, 0);
        s.dies(0, 2);
        c.is("both on a buried one", s.strike(0), 0);
        s = Check.at("body a 2;body b 2;kind p 2;line 0;");
        s.write(0, 1, 5, 0);
        c.is("a line of 0", s.strike(0), 0);
        // closed ones are not struck
        s = Check.at(Check.PORT);
        s.write(0, 1, 5, 0);
        s.dies(0, 1);
        c.is("closed", s.strike(0), 4);
    }

    private static void promise13() {
        c.part("promise 13");
        SkinLedger s = Check.at(Check.PORT);
        c.is("another side ahead of all", s.scar(0, 2), -1);
        c.is("another side", s.scar(0, -1), -1);
        c.is("none", s.scar(0, 0), 4);
        c.is("none", s.scar(-1, 1), 4);
        s.write(0, 1, 5, 0);
        c.is("the DEBT", s.scar(0, 1), 0);
        c.is("not READ", s.read(0, 1), 0);
        c.is("the CREDIT is READ", s.read(0, 0), 1);
        c.is("scarred already", s.scar(0, 1), 6);
        c.is("the CREDIT", s.scar(0, 0), 0);
        c.is("both", s.scar(0, 0), 6);
        s.write(1, 2, 5, 0);
        s.dies(1, 0);
        c.is("buried", s.scar(1, 0), 6);
        c.is("not buried", s.scar(1, 1), 0);
        s.write(0, 2, 5, 0);
        s.strike(2);
        c.is("struck", s.scar(2, 0), 4);
        s.write(0, 3, 5, 0);
        s.write(3, 0, 5, 0);
        s.cut();
        c.is("closed", s.scar(3, 0), 4);
    }

    private static void promise18() {
        c.part("promise 18");
        SkinLedger s = Check.at(Check.PORT);
        c.is("no such", s.dies(-1, 0), -1);
        c.is("no such", s.dies(4, 0), -1);
        c.is("no such heir", s.dies(0, 4), -1);
        c.is("no such heir", s.dies(0, -1), -1);
        c.is("one", s.dies(0, 0), -11);
        s.write(0, 1, 5, 0);
        s.write(1, 0, 7, 0);
        s.write(0, 2, 9, 0);
        s.write(3, 0, 4, 0);
        s.write(0, 3, 6, 0);
        s.write(2, 3, 1, 0);
        s.strike(4);
        c.is("a dies, b is the heir", s.dies(0, 1), 2);
        c.is("lives", s.body(0, 2), 0);
        c.is("b lives", s.body(1, 2), 1);
        c.all("lenders", deals(s, 0), 1, 1, 1, 3, 0, 2);
        c.all("debtors", deals(s, 1), 1, 1, 2, 1, 3, 3);
        c.all("SUMS", deals(s, 2), 5, 7, 9, 4, 6, 1);
        c.all("states", deals(s, 5), 2, 2, 0, 0, 1, 0);
        c.all("CREDITS stay", deals(s, 6), 0, 1, 0, 3, 0, 2);
        c.all("DEBTS stay", deals(s, 7), 1, 0, 2, 0, 3, 3);
        c.is("VALUE stays", s.deal(0, 9), 5);
        c.is("NET of b", s.body(1, 4), 5);
        c.is("NET of a", s.body(0, 4), 0);
        c.is("LEFT of the dead", s.body(0, 3), 9);
        c.is("dead already", s.dies(0, 2), -11);
        c.is("a dead heir", s.dies(2, 0), -11);
        c.is("none of his", s.dies(2, 3), 1);
        c.is("his DEALS", s.deal(2, 1), 3);
        c.is("closed", s.deal(5, 5), 2);
        c.is("count", s.count(5), 2);
        s = Check.at(Check.PORT);
        s.write(0, 1, 5, 0);
        s.write(1, 0, 5, 0);
        s.write(2, 0, 5, 0);
        s.write(3, 0, 5, 0);
        s.write(0, 3, 5, 0);
        s.write(2, 3, 5, 0);
        c.is("three of his, two closed", s.dies(0, 1), 3);
        s.undo();
        c.is("three of his, two closed", s.dies(0, 3), 3);
        s.undo();
        c.is("four of his, one closed", s.dies(0, 2), 4);
    }

    private static long[] deals(SkinLedger s, int what) {
        long[] all = new long[s.count(4)];
        for (int d = 0; d < all.length; d++) {
            all[d] = s.deal(d, what);
        }
        return all;
    }

    private static void promise19() {
        c.part("promise 19");
        SkinLedger s = Check.at(Check.PORT);
        s.write(0, 1, 5, 0);
        for (int y = 1; y <= 99; y++) {
            c.is("year", s.year(), y);
        }
        c.is("99", s.year(), -1);
        c.is("it stays", s.count(6), 99);
        s.write(0, 1, 5, 0);
        c.is("of YEAR 0", s.deal(0, 4), 0);
        c.is("of YEAR 99", s.deal(1, 4), 99);
        Check.book(s, "year;");
        c.is("judge", s.judge(0), 0);
        c.is("WRONG", s.judged(0), 9);
        c.is("aged", s.aged(0, 99), 2);
        c.is("trade", s.trade(99, 0), 5);
    }

    private static void promise20() {
        c.part("promise 20");
        SkinLedger s = new SkinLedger();
        c.is("none", s.undo(), -1);
        Check.port(s, Check.PORT);
        c.is("none", s.undo(), -1);
        for (int i = 0; i < 12; i++) {
            s.write(0, 3, 5, 3);
        }
        for (int i = 7; i >= 0; i--) {
            c.is("undo", s.undo(), i);
        }
        c.is("8 at most", s.undo(), -1);
        c.is("4 DEALS stay", s.count(4), 4);
        c.is("LEFT", s.body(0, 3), 16);
        // what is WRONG is no ACT
        s.write(0, 0, 5, 0);
        s.write(0, 9, 5, 0);
        s.strike(9);
        s.scar(9, 0);
        s.scar(0, 4);
        s.cut();
        s.dies(1, 1);
        s.dies(1, 9);
        c.is("none is", s.undo(), -1);
        // each ACT
        s = Check.at(Check.PORT);
        s.write(0, 1, 5, 0);
        s.write(1, 0, 7, 0);
        s.write(0, 2, 4, 0);
        s.strike(2);
        c.is("undo strike", s.undo(), 3);
        c.is("open", s.deal(2, 5), 0);
        c.is("no line", s.body(0, 6), 0);
        c.is("LEFT", s.body(0, 3), 14);
        s.scar(1, 0);
        c.is("undo scar", s.undo(), 3);
        c.is("READ", s.read(1, 0), 1);
        s.cut();
        c.is("closed", s.deal(0, 5), 2);
        c.is("undo cut", s.undo(), 3);
        c.is("open", s.deal(0, 5), 0);
        c.is("SUM", s.deal(1, 2), 7);
        c.is("bearer", s.deal(0, 6), 0);
        c.is("no dot", s.body(0, 6), 0);
        s.dies(0, 1);
        c.is("undo dies", s.undo(), 3);
        c.is("lives", s.body(0, 2), 1);
        c.is("lender", s.deal(2, 0), 0);
        c.is("open", s.deal(1, 5), 0);
        s.year();
        c.is("undo year", s.undo(), 3);
        c.is("YEAR", s.count(6), 0);
        c.is("undo write", s.undo(), 2);
        c.is("DEALS", s.count(4), 2);
        c.is("LEFT", s.body(2, 3), 6);
        // a BOOK lived is one
        Check.book(s, "year;year;deal a b 5 p;ring;");
        s.judge(0);
        c.is("judged only", s.undo(), 1);
        s.write(2, 3, 5, 0);
        s.judge(1);
        c.is("YEAR", s.count(6), 2);
        c.is("all of the BOOK", s.undo(), 2);
        c.is("YEAR", s.count(6), 0);
        c.is("DEALS", s.count(4), 2);
        Check.book(s, "year;year;strike 50;year;");
        c.is("WRONG behind two", s.judge(1), 2);
        c.is("those two", s.undo(), 2);
        c.is("YEAR", s.count(6), 0);
        Check.book(s, "strike 50;year;");
        c.is("WRONG at once", s.judge(1), 0);
        c.is("no ACT was done", s.undo(), 1);
        c.is("so a write is undone", s.count(4), 1);
        // an undone ACT is gone for good
        s.year();
        c.is("undo", s.undo(), 1);
        c.is("undo", s.undo(), 0);
        c.is("undo", s.undo(), -1);
        c.is("DEALS", s.count(4), 0);
    }

    /** All that can be asked of what is so, as one text. */
    private static String all(SkinLedger s) {
        StringBuilder t = new StringBuilder();
        for (int what = 0; what < 8; what++) {
            t.append(s.count(what)).append(' ');
        }
        for (int b = 0; b < s.count(0); b++) {
            for (int what = 0; what < 7; what++) {
                t.append(s.body(b, what)).append(' ');
            }
            t.append(Check.skin(s, b));
        }
        for (int d = 0; d < s.count(4); d++) {
            for (int what = 0; what < 10; what++) {
                t.append(s.deal(d, what)).append(' ');
            }
        }
        return t.toString();
    }

    /** An object of its own for each state that is told, as all() takes most of the calls that one has. */
    private static void backAndBack() {
        c.part("promise 20, back and back");
        for (int first = 0; first < 8; first++) {
            for (int back = 7; back >= 0; back--) {
                String told = all(acted(first, back));
                SkinLedger s = acted(first, 8);
                for (int i = 7; i >= back; i--) {
                    c.is("undo " + first, s.undo(), i);
                }
                c.is("as it was " + first + " " + back, all(s).equals(told), true);
                c.is("and the next", s.undo(), back - 1);
            }
        }
    }

    private static SkinLedger acted(int first, int times) {
        SkinLedger s = Check.at(Check.PORT);
        s.write(0, 1, 5, 0);
        s.write(1, 0, 7, 0);
        s.write(0, 2, 4, 0);
        s.write(0, 2, 4, 0);
        s.write(3, 1, 4, 0);
        Check.book(s, "year;scar 4 credit;deal d a 9 f;");
        for (int i = 0; i < times; i++) {
            act(s, (first + i) % 8);
        }
        return s;
    }

    private static void act(SkinLedger s, int i) {
        switch (i) {
            case 0: c.is("strike", s.strike(2), 0); break;
            case 1: c.is("scar", s.scar(3, 1), 0); break;
            case 2: c.is("cut", s.cut() > 3, true); break;
            case 3: c.is("year", s.year() > 0, true); break;
            case 4: c.is("write", s.write(2, 3, 9, 3) > 4, true); break;
            case 5: c.is("judge", s.judge(1), -1); break;
            case 6: s.year(); s.undo(); c.is("write", s.write(3, 0, 7, 3) > 4, true); break;
            default: c.is("dies", s.dies(1, 2) > 1, true);
        }
    }

    private static void promise21() {
        c.part("promise 21");
        SkinLedger s = Check.at(Check.PORT);
        c.is("all others", s.can(0, 0), 14);
        c.is("all others", s.can(2, 1), 11);
        c.is("no such", s.can(4, 0), -1);
        c.is("no such", s.can(-1, 0), -1);
        c.is("no such KIND", s.can(0, 5), -1);
        c.is("no such KIND", s.can(0, -1), -1);
        for (int i = 0; i < 5; i++) {
            s.write(2, 0, 5, 3);
        }
        c.is("c has 1 LEFT", s.can(0, 0), 10);
        c.is("for small ones", s.can(0, 3), 14);
        c.is("c can lend small ones", s.can(2, 3), 11);
        c.is("not more", s.can(2, 0), 0);
        s.dies(1, 0);
        c.is("not to the dead", s.can(0, 3), 12);
        c.is("nor they", s.can(1, 0), 0);
        c.is("nothing was written", s.count(4), 5);
    }

    public static void main(String[] args) {
        promise11();
        sixty();
        promise12();
        promise13();
        promise18();
        promise19();
        promise20();
        backAndBack();
        promise21();
        c.end("ActsTest");
    }
}
