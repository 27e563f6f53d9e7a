/** Promises 1 to 5, 33: the tape, the PORT and the BOOK as texts. */
public final class TextsTest {
    private static final Check c = new Check();

    private static String times(String s, int n) {
        StringBuilder all = new StringBuilder();
        for (int i = 0; i < n; i++) {
            all.append(s);
        }
        return all.toString();
    }

    private static void promise1() {
        c.part("promise 1");
        SkinLedger s = new SkinLedger();
        int[] due = {0, 0, 1, 0, 0, 0, 0, 0, 0};
        for (int what = 0; what < due.length; what++) {
            c.is("count(" + what + ")", s.count(what), due[what]);
        }
        c.is("undo", s.undo(), -1);
        c.is("restore", s.restore(0), false);
        c.is("fault", s.fault(), 0);
        c.is("NONE", SkinLedger.NONE, -1);
    }

    private static void promise2() {
        c.part("promise 2");
        SkinLedger s = new SkinLedger();
        for (int n = 20; n <= 640; n += 20) {
            c.is("feed", s.feed(-1, 0, 1, Integer.MIN_VALUE, Integer.MAX_VALUE), n);
        }
        c.is("feed too much", s.feed(0, 0, 0, 0, 0), -1);
        c.is("none came", s.count(8), 640);
        c.is("end", s.end(620), true);
        c.is("feed again", s.feed(0, 0, 0, 0, 0), 640);
        c.is("end", s.end(621), true);
        c.is("one too many", s.feed(0, 0, 0, 0, 0), -1);
        c.is("none came", s.count(8), 621);
        // the highest first, the numbers in their order
        SkinLedger t = new SkinLedger();
        t.feed(0x626f6479, 0x20612031, 0x3b626f64, 0x79206220, 0x32206b69);
        t.feed(0x6e20613b, 0, 0, 0, 0);
        t.end(24);
        c.is("port", t.port(), 2);
        c.is("room", t.body(0, 0), 1);
        c.is("room", t.body(1, 0), 2);
        c.is("kin", t.body(1, 1), 0);
        // bytes of the sign bit are 128 to 255
        Check.port(t, "body a 5;body b 5;kind p 1;");
        t.feed(0x80000000, 0, 0, 0, 0);
        t.end(3);
        c.is("pack of 128", t.pack(), -1);
    }

    private static void promise3() {
        c.part("promise 3");
        SkinLedger s = new SkinLedger();
        c.is("end 0 of none", s.end(0), true);
        c.is("end 1 of none", s.end(1), false);
        s.feed(0, 0, 0, 0, 0);
        c.is("end -1", s.end(-1), false);
        c.is("end 21", s.end(21), false);
        c.is("end least", s.end(Integer.MIN_VALUE), false);
        c.is("end most", s.end(Integer.MAX_VALUE), false);
        c.is("it stays", s.count(8), 20);
        c.is("end 20", s.end(20), true);
        c.is("end 7", s.end(7), true);
        c.is("it has 7", s.count(8), 7);
        c.is("end 8", s.end(8), false);
        c.is("feed behind them", s.feed(0, 0, 0, 0, 0), 27);
        c.is("end 0", s.end(0), true);
        c.is("it has none", s.count(8), 0);
    }

    private static void promise4() {
        c.part("promise 4");
        SkinLedger s = Check.at(Check.PORT);
        c.is("port", Check.port(s, Check.PORT), 11);
        c.is("BODIES", s.count(0), 4);
        c.is("KINDS", s.count(1), 5);
        c.is("tape", s.count(8), 0);
        c.is("empty port", Check.port(s, ""), 0);
        c.is("blank port", Check.port(s, " \n "), 0);
        c.is("no BODIES", s.count(0), 0);
        c.is("no blanks, blanks", Check.port(s, "\nbody a 5;body b 05\nkin a\n;\n\nline 0 ; dot 9;"), 4);
        c.is("line", s.count(2), 0);
        c.is("dot", s.count(3), 9);
        c.is("as one", Check.port(s, "body abcdefg 1;kind p 9;kind abcdef 1 false;"), 3);
        c.is("line again as ever", s.count(2), 1);
        c.is("dot again as ever", s.count(3), 0);
        c.is("digits end a word not", Check.port(s, "body a5;"), -6);
        c.is("; ends a number", Check.port(s, "line 5;dot 5;"), 2);
        // a new PORT has nothing of the old one's
        s = Check.at(Check.PORT);
        s.write(0, 1, 5, 0);
        s.year();
        Check.book(s, "year;");
        c.is("a FAULT leaves it", Check.port(s, "body"), -5);
        c.is("DEALS stay", s.count(4), 1);
        c.is("YEAR stays", s.count(6), 1);
        c.is("BOOK stays", s.count(7), 1);
        c.is("undo stays", s.undo(), 1);
        s.year();
        s.dies(0, 1);
        c.is("the same anew", Check.port(s, Check.PORT), 11);
        c.is("DEALS", s.count(4), 0);
        c.is("YEAR", s.count(6), 0);
        c.is("BOOK", s.count(7), 0);
        c.is("undo", s.undo(), -1);
        c.is("lives again", s.body(0, 2), 1);
        c.is("LEFT", s.body(0, 3), 20);
        c.is("lines and dots", s.body(0, 6), 0);
    }

    private static void promise5() {
        c.part("promise 5");
        SkinLedger s = new SkinLedger();
        c.is("ahead of any", s.fault(), 0);
        Check.port(s, "body a 0;");
        c.is("2", s.fault(), 2);
        Check.book(s, "year");
        c.is("1", s.fault(), 1);
        Check.book(s, "year;");
        c.is("0", s.fault(), 0);
        Check.port(s, "line 1;line 1;");
        c.is("3", s.fault(), 3);
        s.pack();
        s.fits(3);
        c.is("still 3", s.fault(), 3);
        Check.port(s, "");
        c.is("0 again", s.fault(), 0);
    }

    private static void tokenFaults() {
        c.part("FAULT 1");
        String[] words = {"body", "kin", "kind", "doubled", "halved", "false", "joint", "line", "dot", "deal",
            "strike", "scar", "credit", "debt", "ring", "dies", "year"};
        for (String w : words) {
            c.portFault("body " + w + " 5;", 1, 5);
            c.portFault("kind " + w + " 5;", 1, 5);
            c.portFault("body a 5 kin " + w + ";", 1, 13);
            c.bookFault("dies " + w + " a;", 1, 5);
            c.bookFault("deal a b 5 " + w + ";", 1, 11);
        }
        c.portFault(";", 1, 0);
        c.portFault("5", 1, 0);
        c.portFault("a", 1, 0);
        c.portFault("year;", 1, 0);
        c.portFault("body", 1, 4);
        c.portFault("body ", 1, 5);
        c.portFault("body \n a", 1, 8);
        c.portFault("body a 5", 1, 8);
        c.portFault("body a 5 kin", 1, 12);
        c.portFault("body a 5 kin;", 1, 12);
        c.portFault("body 5 5;", 1, 5);
        c.portFault("body a b;", 1, 7);
        c.portFault("body a ;", 1, 7);
        c.portFault("body a 5 5;", 1, 9);
        c.portFault("body a 5 joint;", 1, 9);
        c.portFault("body abcdefgh 5;", 1, 5);
        c.portFault("body a 100;", 1, 7);
        c.portFault("body a 005;", 1, 7);
        c.portFault("body a 5x;", 1, 7);
        c.portFault("body a1 5;", 1, 5);
        c.portFault("body A 5;", 1, 5);
        c.portFault("body a 5.", 1, 8);
        c.portFault("body a 5;\t", 1, 9);
        c.portFault("body\r a 5;", 1, 4);
        c.portFault("body a -5;", 1, 7);
        c.portFault("body a 5;" + (char) 0, 1, 9);
        c.portFault("body a 5;" + (char) 233, 1, 9);
        c.portFault("bodya 5;", 1, 0);
        c.portFault("kind p 1 plain;", 1, 9);
        c.portFault("kind p 1 joint joint;", 1, 15);
        c.portFault("kind p 1 kin;", 1, 9);
        c.portFault("line;", 1, 4);
        c.portFault("line 1 1;", 1, 7);
        c.portFault("dot a;", 1, 4);
        c.portFault("dot 1", 1, 5);
        c.bookFault("body a 5;", 1, 0);
        c.bookFault("deal a", 1, 6);
        c.bookFault("deal a b", 1, 8);
        c.bookFault("deal a b p", 1, 9);
        c.bookFault("deal a b 5", 1, 10);
        c.bookFault("deal a b 5 p", 1, 12);
        c.bookFault("deal a b 5 p p;", 1, 13);
        c.bookFault("strike a;", 1, 7);
        c.bookFault("scar 1;", 1, 6);
        c.bookFault("scar 1 line;", 1, 7);
        c.bookFault("scar 1 2;", 1, 7);
        c.bookFault("dies a;", 1, 6);
        c.bookFault("ring 1;", 1, 5);
        c.bookFault("year", 1, 4);
    }

    private static void otherFaults() {
        c.part("FAULT 2");
        c.portFault("body a 0;", 2, 7);
        c.portFault("body a 00;", 2, 7);
        c.portFault("kind p 0;", 2, 7);
        c.portFault("kind p 10;", 2, 7);
        c.portFault("line 10;", 2, 5);
        c.portFault("dot 99;", 2, 4);
        c.bookFault("deal a b 0 p;", 2, 9);
        c.bookFault("strike 60;", 2, 7);
        c.bookFault("scar 99 debt;", 2, 5);
        c.part("FAULT 3");
        c.portFault("body a 5;body a 6;", 3, 14);
        c.portFault("kind a 5;kind a 6;", 3, 14);
        c.portFault("body a 5;kind a 6;", 3, 14);
        c.portFault("kind a 5;body a 6;", 3, 14);
        c.portFault("body a 5 kin a;", 3, 13);
        c.portFault("kind k 5;body a 5 kin k;", 3, 22);
        c.portFault("body a 5 kin old;", 3, 13);
        c.portFault("line 1;line", 3, 7);
        c.portFault("dot 1;line 1;dot 1;", 3, 13);
        c.bookFault("dies a z;", 3, 7);
        c.bookFault("dies p a;", 3, 5);
        c.bookFault("deal a b 5 a;", 3, 11);
        c.bookFault("deal a b 5 zz;", 3, 11);
        c.part("FAULT 4");
        String nine = "body a 5;body b 5;body d 5;body e 5;body g 5;body h 5;body i 5;body j 5;body k 5;";
        c.portFault(nine + "body", 4, 81);
        c.portFault(nine + "kind l 1;body a 0;", 4, 90);
        String six = "kind a 1;kind b 1;kind d 1;kind e 1;kind g 1;kind h 1;";
        c.portFault(six + "kind", 4, 54);
        SkinLedger s = new SkinLedger();
        c.is("nine and six", Check.port(s, nine + "kind l 1;kind m 1;kind n 1;kind o 1;kind q 1;kind r 1;"), 15);
        c.bookFault(times("year;", 40) + "year", 4, 200);
        c.bookFault(times("year;", 40) + "z", 1, 200);
        c.bookFault(times("year;", 40) + ";", 1, 200);
        Check.port(s, Check.PORT);
        c.is("forty", Check.book(s, times("ring;", 40)), 40);
    }

    private static void longTexts() {
        c.part("more than 600 bytes");
        SkinLedger s = new SkinLedger();
        c.is("600 are read", Check.port(s, "line 1;" + times(" ", 593)), 1);
        c.portFault("line 1;" + times(" ", 594), 1, 600);
        c.portFault(times(" ", 601), 1, 600);
        c.portFault("line 1" + times(" ", 600) + ";", 1, 600);
        c.portFault(times(" ", 594) + "line 1;", 1, 600);
        c.portFault(times(" ", 593) + "line 1; line 1;", 1, 600);
        c.portFault(times(" ", 592) + "line 1; line 1;", 1, 600);
        c.portFault(times(" ", 591) + "line 1; line 1;", 3, 599);
        c.portFault(times(" ", 593) + "body abcdefgh", 1, 598);
        c.portFault(times(" ", 594) + "body abcdefg 5;", 1, 600);
        c.portFault(times(" ", 598) + "bodies 5;", 1, 598);
        c.portFault(times(" ", 595) + "body 55 5;", 1, 600);
        c.portFault(times(" ", 594) + "body 55 5;", 1, 599);
        c.portFault(times(" ", 594) + "line 10;", 2, 599);
        c.portFault(times(" ", 595) + "line 10;", 1, 600);
        Check.port(s, Check.PORT);
        c.is("600 are read", Check.book(s, times(" ", 595) + "year;"), 1);
        c.bookFault(times(" ", 596) + "year;", 1, 600);
        c.bookFault("year;" + times("\n", 630), 1, 600);
    }

    private static void promise33() {
        c.part("promise 33");
        SkinLedger s = Check.at(Check.PORT);
        String all = "deal a b 99 p;strike 0;scar 59 credit;scar 1 debt;ring;dies a b;year;";
        c.is("book", Check.book(s, all), 7);
        c.is("LINES", s.count(7), 7);
        c.is("tape", s.count(8), 0);
        c.is("no DEALS by it", s.count(4), 0);
        c.is("with blanks", Check.book(s, "\nyear ;ring\n;"), 2);
        c.is("without", Check.book(s, "strike00;"), -1);
        c.is("stays", s.count(7), 2);
        c.is("empty", Check.book(s, ""), 0);
        c.is("LINES", s.count(7), 0);
        s.write(0, 1, 5, 0);
        Check.book(s, "year;");
        c.is("undo of what was ahead of the BOOK", s.undo(), 0);
        c.is("the BOOK stays", s.count(7), 1);
        Check.port(s, "");
        c.is("a new PORT has no BOOK", s.count(7), 0);
        c.is("nobody told", Check.book(s, "dies a b;"), -6);
    }

    public static void main(String[] args) {
        promise1();
        promise2();
        promise3();
        promise4();
        promise5();
        tokenFaults();
        otherFaults();
        longTexts();
        promise33();
        c.end("TextsTest");
    }
}
