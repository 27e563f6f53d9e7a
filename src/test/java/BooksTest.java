/** Promises 34, 35, 45: a BOOK judged, and how long skin lasts. */
public final class BooksTest {
    private static final Check c = new Check();

    private static void judgedIs(SkinLedger s, int... due) {
        for (int what = 0; what < due.length; what++) {
            c.is("judged(" + what + ")", s.judged(what), due[what]);
        }
    }

    private static void promise34and35() {
        c.part("promise 34, 35");
        SkinLedger s = new SkinLedger();
        judgedIs(s, -1, -1, -1, -1, -1);
        c.is("another lives", s.judge(-1), -2);
        c.is("another lives", s.judge(2), -2);
        judgedIs(s, -1, -1, -1, -1, -1);
        c.is("no LINES", s.judge(0), -1);
        judgedIs(s, 0, 0, 0, 0, 0);
        Check.port(s, Check.PORT);
        judgedIs(s, 0, 0, 0, 0, 0);
        Check.book(s, "deal a b 7 p;deal b c 9 h;deal b a 4 j;ring;year;deal c d 5 f;strike 0;scar 3 debt;dies c a;");
        c.is("no LINE is WRONG", s.judge(0), -1);
        // a 20 - 2 - dot 1 - line 1; b 10 - 2 - 3 - dot 1 - line 1; d 30 - 1
        judgedIs(s, 0, 9, 2, 16 + 3 + 29, 1);
        c.is("another what", s.judged(5), -1);
        c.is("another what", s.judged(-1), -1);
        c.is("all stays", s.count(4), 0);
        c.is("YEAR stays", s.count(6), 0);
        c.is("c lives", s.body(2, 2), 1);
        c.is("LEFT stays", s.body(0, 3), 20);
        c.is("again", s.judge(0), -1);
        s.judge(7);
        judgedIs(s, 0, 9, 2, 48, 1);
        c.is("lived", s.judge(1), -1);
        judgedIs(s, 0, 9, 2, 48, 1);
        c.is("DEALS", s.count(4), 4);
        c.is("open", s.count(5), 2);
        c.is("YEAR", s.count(6), 1);
        c.is("c is dead", s.body(2, 2), 0);
        c.is("CUT", s.deal(0, 2), 3);
        c.is("struck", s.deal(0, 5), 1);
        c.is("scarred", s.read(3, 1), 0);
        c.is("of YEAR 1", s.deal(3, 4), 1);
        c.is("the heir", s.deal(3, 0), 0);
        c.is("the BOOK stays", s.count(7), 9);
        // lived again it goes on from what is so
        c.is("c is dead", s.judge(1), 1);
        judgedIs(s, 1, 1, 3, 14 + 1 + 29, 1);
        c.is("one more", s.count(4), 5);
    }

    private static void wrongLines() {
        c.part("promise 34, WRONG");
        String[] books = {"deal a a 5 p;", "deal e a 5 q;", "deal a e 5 q;", "strike 0;", "year;deal a b 5 l;strike 0;",
            "deal a b 5 p;scar 0 debt;scar 0 debt;", "ring;", "dies a a;", "dies a b;dies c a;", "dies a b;deal a b 5 p;",
            "year;scar 5 credit;", "deal a b 5 p;strike 0;strike 0;", "deal a b 5 p;dies b c;scar 0 debt;",
            "deal a b 5 p;deal b a 4 p;ring;ring;"};
        int[] why = {1, 2, 3, 4, 5, 6, 8, 1, 1, 1, 4, 4, 6, 8};
        int[] line = {0, 0, 0, 0, 2, 2, 0, 0, 1, 1, 1, 2, 2, 3};
        for (int i = 0; i < books.length; i++) {
            SkinLedger s = Check.at("body a 12;body b 12;body c 12;body e 2;kind p 2;kind q 3;kind l 9;line 4;");
            c.is("book", Check.book(s, books[i] + "year;") > 0, true);
            c.is("judge " + books[i], s.judge(0), line[i]);
            c.is("why " + books[i], s.judged(0), why[i]);
            c.is("LINES done " + books[i], s.judged(1), line[i]);
            c.is("all stays", s.count(4) + s.count(6), 0);
            c.is("judge " + books[i], s.judge(1), line[i]);
            c.is("why " + books[i], s.judged(0), why[i]);
            c.is("LINES done", s.undo(), line[i] > 0 ? 0 : -1);
        }
        SkinLedger s = Check.at("body a 99;body b 99;kind p 1;");
        for (int i = 0; i < 58; i++) {
            s.write(0, 1, 5, 0);
        }
        Check.book(s, "deal a b 5 p;deal a b 5 p;deal a b 5 p;");
        c.is("there are 60", s.judge(1), 2);
        judgedIs(s, 7, 2, 60, 39 + 39, 0);
        c.is("DEALS", s.count(4), 60);
        s = Check.at("body a 99;body b 99;kind p 1;");
        for (int i = 0; i < 98; i++) {
            s.year();
        }
        Check.book(s, "year;year;");
        c.is("it is 99", s.judge(0), 1);
        judgedIs(s, 9, 1, 0, 198, 99);
    }

    private static void promise45() {
        c.part("promise 45");
        SkinLedger s = new SkinLedger();
        c.is("no BODIES", s.lasts(0, 1), -1);
        Check.port(s, "body a 5;");
        c.is("no KINDS", s.lasts(0, 1), -1);
        Check.port(s, "kind a 5;");
        c.is("no BODIES", s.lasts(0, 1), -1);
        s = Check.at("body a 12;body b 9 kin a;body e 12;body g 7;kind p 2;kind h 3 halved;kind q 1;");
        for (int law = -1; law <= 3; law += 4) {
            c.is("another law", s.lasts(law, 1), -1);
        }
        c.is("one BODY", Check.at("body a 9;kind p 1;").lasts(0, 5), 0);
        for (int seed : new int[] {0, 1, 7, -1, 12345, Integer.MIN_VALUE, Integer.MAX_VALUE}) {
            for (int law = 0; law < 3; law++) {
                c.is("lasts(" + law + ", " + seed + ")", s.lasts(law, seed), lived(s, law, seed));
            }
        }
        s.write(0, 1, 5, 0);
        s.write(1, 0, 5, 0);
        s.dies(2, 0);
        for (int law = 0; law < 3; law++) {
            c.is("lasts(" + law + ", 99)", s.lasts(law, 99), lived(s, law, 99));
        }
        c.is("all stays", s.count(5), 2);
        c.is("all stays", s.body(0, 3), 8);
        s.year();
        s.lasts(1, 5);
        c.is("undo is of the year", s.undo(), 0);
        // to the 60th, and then ten WRONG by 7
        s = Check.at("body a 99;body b 99;kind p 1;line 0;");
        c.is("60", s.lasts(0, 3), 60);
        c.is("60", s.lasts(1, 3), 60);
        // to the 200th draw: 1 is not counted
        s = Check.at("body a 99;body b 99;body d 99;kind p 1;");
        s.dies(0, 1);
        int few = s.lasts(0, 3);
        c.is("some of 200", few, lived(s, 0, 3));
        c.is("not 60", few < 60 && few > 20, true);
        s.dies(1, 2);
        c.is("all WRONG by 1", s.lasts(0, 3), 0);
    }

    private static int x;

    private static int draw(int n) {
        x = x * 1103515245 + 12345;
        return (x >>> 8) % n;
    }

    /** LASTS done by the calls themselves, and restored. */
    private static int lived(SkinLedger s, int law, int seed) {
        s.image(1);
        x = seed;
        int written = 0;
        int refused = 0;
        int first = s.count(4);
        for (int i = 0; i < 200 && refused < 10; i++) {
            int lender = draw(s.count(0));
            int debtor = draw(s.count(0));
            int kind = draw(s.count(1));
            int sum = draw(99) + 1;
            if (law == 1) {
                int d = s.count(4) - 1;
                while (d >= first && s.deal(d, 5) != 0) {
                    d--;
                }
                s.strike(d >= first ? d : -1);
            }
            int answer = s.write(lender, debtor, sum, kind);
            written += answer >= 0 ? 1 : 0;
            refused += answer < -11 ? 1 : 0;
            if (answer >= 0 && law == 2) {
                s.cut();
            }
        }
        s.restore(1);
        return written;
    }

    private static void lastsTold() {
        c.part("promise 45, by hand");
        // by seed 1: a to a, b to a, a to b, a to a; x is 1103527590 first, the draw 4310654 % 2
        SkinLedger s = Check.at("body a 1;body b 1;kind p 1;");
        c.is("one only", s.lasts(0, 1), 1);
        // a line that finds no room leaves the DEAL open, nothing is written behind it
        c.is("no line", s.lasts(1, 1), 1);
        // a RING takes a DEAL each way
        c.is("no RING", s.lasts(2, 1), 1);
        s = Check.at("body a 2;body b 2;kind p 1;");
        int free = s.lasts(0, 1);
        c.is("two", free, 2);
        c.is("a line each", s.lasts(1, 1), 1);
        c.is("RINGS give room", s.lasts(2, 1) > 2, true);
        s = Check.at("body a 2;body b 2;kind p 1;line 2;");
        c.is("no room for the line: two are written", s.lasts(1, 1), 2);
    }

    public static void main(String[] args) {
        promise34and35();
        wrongLines();
        promise45();
        lastsTold();
        c.end("BooksTest");
    }
}
