/** Promises 34, 35, 45: a BOOK judged, and how long skin lasts. */
public final class BooksTest {
    private static final Check c = new Check();

    private static void judgedIs(SkinLedger s, int... due) {
        for (int what = 0; what < due.length; what++) {
            c.is("judged(" + what + ")", s.judged(what), due[what]);
        }
    }

    private static void promise34and35() {
        c.part("promise 34, 35");
        SkinLedger s = new SkinLedger();
        judgedIs(s, -1, -1, -1, -1, -1);
        c.is("another lives", s.judge(-1), -2);
        c.is("another lives", s.judge(2), -2);
        judgedIs(s, -1, -1, -1, -1, -1);
        c.is("no LINES", s.judge(0), -1);
        judgedIs(s, 0, 0, 0, 0, 0);
        Check.port(s, Check.PORT);
        judgedIs(s, 0, 0, 0, 0, 0);
        Check.book(s, "deal a b 7 p;deal b c 9 h;deal b a 4 j;ring;year;deal c d 5 f;strike 0;scar 3 debt;dies c a;");
        c.is("no LINE is WRONG", s.judge(0), -1);
        // a 20 - 2 - dot 1 - line 1; b 10 - 2 - 3 - dot 1 - line 1; d 30 - 1
        judgedIs(s, 0, 9, 2, 16 + 3 + 29, 1);
        c.is("another what", s.judged(5), -1);
        c.is("another what", s.judged(-1), -1);
        c.is("all stays", s.count(4), 0);
        c.is("YEAR stays", s.count(6), 0);
        c.is("c lives", s.body(2, 2), 1);
        c.is("LEFT stays", s.body(0, 3), 20);
        c.is("again", s.judge(0), -1);
        s.judge(7);
        judgedIs(s, 0, 9, 2, 48, 1);
        c.is("lived", s.judge(1), -1);
        judgedIs(s, 0, 9, 2, 48, 1);
        c.is("DEALS", s.count(4), 4);
        c.is("open", s.count(5), 2);
        c.is("YEAR", s.count(6), 1);
        c.is("c is dead", s.body(2, 2), 0);
        c.is("CUT", s.deal(0, 2), 3);
        c.is("struck", s.deal(0, 5), 1);
        c.is("scarred", s.read(3, 1), 0);
        c.is("of YEAR 1", s.deal(3, 4), 1);
        c.is("the heir", s.deal(3, 0), 0);
        c.is("the BOOK stays", s.count(7), 9);
        c.is("the CREDIT is not scarred", s.read(3, 0), 0);
        // lived again it goes on from what is so
        c.is("c is dead", s.judge(1), 1);
        judgedIs(s, 1, 1, 3, 14 + 1 + 29, 1);
        c.is("one more", s.count(4), 5);
    }

    private static void sides() {
        c.part("promise 34, sides");
        SkinLedger s = Check.at(Check.PORT);
        Check.book(s, "deal a b 5 p;deal a b 5 p;scar 0 credit;scar 1 debt;");
        c.is("judge", s.judge(1), -1);
        c.is("CREDIT of 0", s.read(0, 0), 0);
        c.is("DEBT of 0", s.read(0, 1), 1);
        c.is("CREDIT of 1", s.read(1, 0), 1);
        c.is("DEBT of 1", s.read(1, 1), 0);
        Check.book(s, "dies b c;deal d a 20 w;");
        c.is("judge", s.judge(1), -1);
        c.is("the first dies", s.body(1, 2), 0);
        c.is("the second is the heir", s.deal(0, 1), 2);
        c.is("the lender", s.deal(2, 0), 3);
        c.is("the debtor", s.deal(2, 1), 0);
        c.is("VALUE", s.deal(2, 9), 40);
    }

    private static void fortyLines() {
        c.part("promise 34, 40 LINES");
        SkinLedger s = Check.at("body a 99;body b 99;kind p 1;kind q 2;");
        StringBuilder text = new StringBuilder();
        for (int i = 0; i < 20; i++) {
            text.append(i % 2 == 0 ? "deal a b " : "deal b a ").append(i + 10).append(i % 3 == 0 ? " q;" : " p;");
        }
        for (int i = 0; i < 20; i++) {
            text.append("strike ").append(19 - i).append(";");
        }
        c.is("book", Check.book(s, text.toString()), 40);
        c.is("judge", s.judge(1), -1);
        c.is("LINES done", s.judged(1), 40);
        for (int d = 0; d < 20; d++) {
            c.is("lender", s.deal(d, 0), d % 2);
            c.is("debtor", s.deal(d, 1), 1 - d % 2);
            c.is("SUM", s.deal(d, 2), d + 10);
            c.is("KIND", s.deal(d, 3), d % 3 == 0 ? 1 : 0);
            c.is("struck", s.deal(d, 5), 1);
        }
    }

    private static void wrongLines() {
        c.part("promise 34, WRONG");
        String[] books = {"deal a a 5 p;", "deal e a 5 q;", "deal a e 5 q;", "strike 0;", "year;deal a b 5 l;strike 0;",
            "deal a b 5 p;scar 0 debt;scar 0 debt;", "ring;", "dies a a;", "dies a b;dies c a;", "dies a b;deal a b 5 p;",
            "year;scar 5 credit;", "deal a b 5 p;strike 0;strike 0;", "deal a b 5 p;dies b c;scar 0 debt;",
            "deal a b 5 p;deal b a 4 p;ring;ring;"};
        int[] why = {1, 2, 3, 4, 5, 6, 8, 1, 1, 1, 4, 4, 6, 8};
        int[] line = {0, 0, 0, 0, 2, 2, 0, 0, 1, 1, 1, 2, 2, 3};
        for (int i = 0; i < books.length; i++) {
            SkinLedger s = Check.at("body a 12;body b 12;body c 12;body e 2;kind p 2;kind q 3;kind l 9;line 4;");
            c.is("book", Check.book(s, books[i] + "year;") > 0, true);
            c.is("judge " + books[i], s.judge(0), line[i]);
            c.is("why " + books[i], s.judged(0), why[i]);
            c.is("LINES done " + books[i], s.judged(1), line[i]);
            c.is("all stays", s.count(4) + s.count(6), 0);
            c.is("judge " + books[i], s.judge(1), line[i]);
            c.is("why " + books[i], s.judged(0), why[i]);
            c.is("LINES done", s.undo(), line[i] > 0 ? 0 : -1);
        }
        SkinLedger s = Check.at("body a 99;body b 99;kind p 1;");
        for (int i = 0; i < 58; i++) {
            s.write(0, 1, 5, 0);
        }
        Check.book(s, "deal a b 5 p;deal a b 5 p;deal a b 5 p;");
        c.is("there are 60", s.judge(1), 2);
        judgedIs(s, 7, 2, 60, 39 + 39, 0);
        c.is("DEALS", s.count(4), 60);
        s = Check.at("body a 99;body b 99;kind p 1;");
        for (int i = 0; i < 98; i++) {
            s.year();
        }
        Check.book(s, "year;year;");
        c.is("it is 99", s.judge(0), 1);
        judgedIs(s, 9, 1, 0, 198, 99);
    }

    private static void promise45() {
        c.part("promise 45");
        SkinLedger s = new SkinLedger();
        c.is("no BODIES", s.lasts(0, 1), -1);
        Check.port(s, "body a 5;");
        c.is("no KINDS", s.lasts(0, 1), -1);
        Check.port(s, "kind a 5;");
        c.is("no BODIES", s.lasts(0, 1), -1);
        s = Check.at("body a 12;body b 9 kin a;body e 12;body g 7;kind p 2;kind h 3 halved;kind q 1;");
        for (int law = -1; law <= 3; law += 4) {
            c.is("another law", s.lasts(law, 1), -1);
        }
        c.is("one BODY", Check.at("body a 9;kind p 1;").lasts(0, 5), 0);
        String port = "body a 12;body b 9 kin a;body e 12;body g 7;kind p 2;kind h 3 halved;kind q 1;";
        String rings = "body a 9;body b 9;body e 9;kind p 2;kind j 1 joint;dot 1;";
        String tiny = "body a 3;body b 3;kind p 1;line 0;";
        for (int law = 0; law < 3; law++) {
            for (int seed : new int[] {0, 1, 7, -1, 12345, Integer.MIN_VALUE, Integer.MAX_VALUE, 5, 6}) {
                for (String text : new String[] {port, rings, tiny}) {
                    c.is("lasts(" + law + ", " + seed + ")", begun(text, 0).lasts(law, seed), lived(text, 0, law, seed));
                    c.is("lasts(" + law + ", " + seed + ")", begun(text, 1).lasts(law, seed), lived(text, 1, law, seed));
                }
            }
        }
        s = begun(port, 1);
        s.lasts(1, 5);
        s.lasts(2, 6);
        c.is("all stays", s.count(5), 2);
        c.is("all stays", s.body(0, 3), 8);
        c.is("undo is of dies", s.undo(), 2);
        String crowd = "body a 20;body b 20;body d 20;body e 20;kind p 2;kind q 3;dot 1;";
        for (int seed = 0; seed < 30; seed++) {
            c.is("RINGS and their SUMS by " + seed, begun(crowd, 0).lasts(2, seed), lived(crowd, 0, 2, seed));
        }
        // to the 60th, and then ten WRONG by 7
        s = Check.at("body a 99;body b 99;kind p 1;line 0;");
        c.is("60", s.lasts(0, 3), 60);
        c.is("60", s.lasts(1, 3), 60);
        // to the 200th draw: 1 is not counted
        String three = "body a 99;body b 99;body d 99;kind p 1;";
        s = begun(three, 2);
        int few = s.lasts(0, 3);
        c.is("not 60", few < 60 && few > 20, true);
        for (int seed = 100; seed < 130; seed++) {
            c.is("to the 200th draw by " + seed, s.lasts(0, seed), lived(three, 2, 0, seed));
        }
        s.dies(1, 0);
        c.is("all WRONG by 1", s.lasts(0, 3), 0);
    }

    private static int x;

    private static int draw(int n) {
        x = x * 1103515245 + 12345;
        return (x >>> 8) % n;
    }

    private static SkinLedger begun(String port, int ahead) {
        SkinLedger s = Check.at(port);
        if (ahead > 0) {
            s.write(0, 1, 5, 0);
            s.write(1, 0, 5, 0);
        }
        if (ahead == 2 || ahead == 1 && s.count(0) > 2) {
            s.dies(2, 0);
        }
        return s;
    }

    /** LASTS done by the calls themselves. */
    private static int lived(String port, int ahead, int law, int seed) {
        SkinLedger s = begun(port, ahead);
        int bodies = s.count(0);
        int kinds = s.count(1);
        java.util.List<Integer> open = new java.util.ArrayList<>();
        x = seed;
        int written = 0;
        int refused = 0;
        for (int i = 0; i < 200 && refused < 10; i++) {
            int lender = draw(bodies);
            int debtor = draw(bodies);
            int kind = draw(kinds);
            int sum = draw(99) + 1;
            if (law == 1 && !open.isEmpty() && s.strike(open.get(open.size() - 1)) == 0) {
                open.remove(open.size() - 1);
            }
            int answer = s.write(lender, debtor, sum, kind);
            if (answer >= 0) {
                written++;
                open.add(answer);
            }
            refused += answer < -11 ? 1 : 0;
            if (answer >= 0 && law == 2) {
                s.cut();
            }
        }
        return written;
    }

    private static void lastsTold() {
        c.part("promise 45, by hand");
        // by seed 1: a to a, b to a, a to b, a to a; x is 1103527590 first, the draw 4310654 % 2
        SkinLedger s = Check.at("body a 1;body b 1;kind p 1;");
        c.is("one only", s.lasts(0, 1), 1);
        // a line that finds no room leaves the DEAL open, nothing is written behind it
        c.is("no line", s.lasts(1, 1), 1);
        // a RING takes a DEAL each way
        c.is("no RING", s.lasts(2, 1), 1);
        s = Check.at("body a 2;body b 2;kind p 1;");
        int free = s.lasts(0, 1);
        c.is("two", free, 2);
        c.is("a line each", s.lasts(1, 1), 1);
        c.is("RINGS give room", s.lasts(2, 1) > 2, true);
        s = Check.at("body a 2;body b 2;kind p 1;line 2;");
        c.is("no room for the line: two are written", s.lasts(1, 1), 2);
    }

    public static void main(String[] args) {
        promise34and35();
        sides();
        fortyLines();
        wrongLines();
        promise45();
        lastsTold();
        c.end("BooksTest");
    }
}
