import java.util.ArrayList;
import java.util.List;

/** The bounds of a BOOK judged and of LASTS: promises 34, 35, 45. */
public final class BookBoundsTest {
    private static final Check c = new Check();
    private static final int LEAST = Integer.MIN_VALUE;
    private static final int MOST = Integer.MAX_VALUE;

    private static void judgedIs(SkinLedger s, int... due) {
        for (int what = 0; what < due.length; what++) {
            c.is("judged(" + what + ")", s.judged(what), due[what]);
        }
    }

    private static void promise34() {
        c.part("promise 34: -2: another lives");
        SkinLedger s = Check.at(Check.PORT);
        Check.book(s, "year;");
        for (int lives : new int[] {-1, 2, LEAST, MOST}) {
            c.is("another lives", s.judge(lives), -2);
            c.is("it is not done", s.count(6), 0);
            judgedIs(s, -1, -1, -1, -1, -1);
        }
        c.is("judged", s.judge(0), -1);
        c.is("all staying as it is", s.count(6), 0);
        c.is("lived", s.judge(1), -1);
        c.is("it is done", s.count(6), 1);
        c.part("promise 34: the LINE that is WRONG (from 0); NONE: none");
        for (int lives = 0; lives < 2; lives++) {
            for (int at = 0; at < 40; at++) {
                s = Check.at(Check.PORT);
                c.is("BOOK", Check.book(s, "year;".repeat(at) + "ring;" + "year;".repeat(39 - at)), 40);
                c.is("LINE", s.judge(lives), at);
                judgedIs(s, 8, at, 0, 66, at);
                c.is("as far as it is not WRONG", s.count(6), lives == 1 ? at : 0);
                c.is("undo", s.undo(), lives == 1 && at > 0 ? 0 : -1);
                c.is("YEAR", s.count(6), 0);
            }
            s = Check.at(Check.PORT);
            Check.book(s, "year;".repeat(40));
            c.is("none of 40", s.judge(lives), -1);
            judgedIs(s, 0, 40, 0, 66, 40);
            s = Check.at(Check.PORT);
            Check.book(s, "");
            c.is("none of none", s.judge(lives), -1);
            judgedIs(s, 0, 0, 0, 66, 0);
            s = Check.at("");
            c.is("without a BOOK, in an empty PORT", s.judge(lives), -1);
            judgedIs(s, 0, 0, 0, 0, 0);
        }
        c.part("promise 34: ACTS of a BOOK, the least reason why each is WRONG");
        String port = "body a 9;body b 9;body d 9;body e 2;kind p 2;kind q 3;line 8;";
        String[] books = {"deal a a 5 q;", "dies a b;deal e a 5 q;", "deal e e 5 q;", "deal e a 5 q;", "deal a e 5 q;",
            "strike 59;", "deal a b 5 p;strike 0;", "deal a b 5 p;dies a d;dies b d;strike 0;strike 0;", "scar 0 debt;",
            "deal a b 5 p;scar 0 credit;scar 0 credit;", "deal a b 5 p;dies b d;scar 0 debt;", "ring;",
            "deal a b 5 p;deal b a 5 p;ring;ring;", "dies a a;", "dies a b;dies a b;", "dies a b;dies b a;"};
        int[] line = {0, 1, 0, 0, 0, 0, 1, 3, 0, 2, 2, 0, 3, 0, 1, 1};
        int[] why = {1, 1, 1, 2, 3, 4, 5, 4, 4, 6, 6, 8, 8, 1, 1, 1};
        for (int i = 0; i < books.length; i++) {
            s = Check.at(port);
            c.is(books[i], Check.book(s, books[i]) > line[i], true);
            c.is(books[i], s.judge(0), line[i]);
            c.is("why of " + books[i], s.judged(0), why[i]);
            c.is("done of " + books[i], s.judged(1), line[i]);
        }
    }

    private static void promise35() {
        c.part("promise 35: NONE: another what, or ahead of any");
        SkinLedger s = Check.at(Check.PORT);
        for (int what : new int[] {-1, 0, 4, 5, LEAST, MOST}) {
            c.is("ahead of any", s.judged(what), -1);
        }
        s.judge(2);
        c.is("ahead of any that was not -2", s.judged(1), -1);
        s.judge(0);
        for (int what : new int[] {-1, 5, LEAST, MOST}) {
            c.is("another what", s.judged(what), -1);
        }
        c.part("promise 35: at its end: open DEALS, LEFT of all who live, the YEAR");
        Check.book(s, "deal a b 5 p;deal a b 5 p;year;strike 0;dies d a;");
        s.judge(0);
        // a 20, b 10, c 6; d, who is dead, has 30
        judgedIs(s, 0, 5, 1, 20 - 4 - 1 + 10 - 4 - 1 + 6, 1);
        c.is("nothing of it is so", s.count(4) + s.count(6), 0);
        c.is("d lives", s.body(3, 2), 1);
        s.year();
        Check.port(s, "");
        judgedIs(s, 0, 5, 1, 26, 1);
        s.judge(-1);
        judgedIs(s, 0, 5, 1, 26, 1);
        s.judge(1);
        judgedIs(s, 0, 0, 0, 0, 0);
        s = Check.at("body a 9;body b 8;");
        Check.book(s, "dies a b;");
        s.judge(1);
        judgedIs(s, 0, 1, 0, 8, 0);
        s.judge(0);
        judgedIs(s, 1, 0, 0, 8, 0);
    }

    private static long x;

    /** Told by a long that is cut to 32 bits, as an int that wraps and is looked at without its sign. */
    private static int draw(int n) {
        x = x * 1103515245L + 12345L & 0xffffffffL;
        return (int) ((x >> 8) % n);
    }

    private static SkinLedger begun(String port, int ahead) {
        SkinLedger s = Check.at(port);
        for (int i = 0; i < ahead; i++) {
            s.write(i % 2, 1 - i % 2, 5 + i, 0);
        }
        return s;
    }

    private static int lived(SkinLedger s, int law, int seed, int most, int last) {
        return lived(s, law, seed, most, last, 1);
    }

    /** LASTS told by the calls themselves, to the most-th that is WRONG and the last-th draw of four; SUMS from leastSum on. */
    private static int lived(SkinLedger s, int law, int seed, int most, int last, int leastSum) {
        List<Integer> open = new ArrayList<>();
        x = seed & 0xffffffffL;
        int bodies = s.count(0);
        int kinds = s.count(1);
        int written = 0;
        int wrong = 0;
        for (int i = 0; i < last && wrong < most; i++) {
            int lender = draw(bodies);
            int debtor = draw(bodies);
            int kind = draw(kinds);
            int sum = draw(99) + leastSum;
            if (law == 1 && !open.isEmpty() && s.strike(open.get(open.size() - 1)) == 0) {
                open.remove(open.size() - 1);
            }
            int answer = s.write(lender, debtor, sum, kind);
            if (answer >= 0) {
                written++;
                open.add(answer);
            }
            wrong += answer < -11 ? 1 : 0;
            if (answer >= 0 && law == 2) {
                s.cut();
            }
        }
        return written;
    }

    private static void promise45() {
        c.part("promise 45: a law (0 none, 1, 2); NONE: another one, no BODIES, no KINDS");
        SkinLedger s = Check.at("body a 9;body b 9;kind p 9;kind q 1;");
        for (int law : new int[] {-1, 3, LEAST, MOST}) {
            c.is("another law", s.lasts(law, 1), -1);
        }
        for (int law = 0; law <= 2; law++) {
            c.is("law " + law, s.lasts(law, 1) > 0, true);
            c.is("nobody", new SkinLedger().lasts(law, 1), -1);
            c.is("an empty PORT", Check.at("").lasts(law, 1), -1);
            c.is("no KINDS", Check.at("body a 9;body b 9;").lasts(law, 1), -1);
            c.is("no BODIES", Check.at("kind p 1;").lasts(law, 1), -1);
            c.is("one BODY: all WRONG by 1", Check.at("body a 9;kind p 1;").lasts(law, 1), 0);
            c.is("none has room", Check.at("body a 1;body b 1;kind p 2;").lasts(law, 1), 0);
        }
        c.part("promise 45: from now on, without changing what is so");
        s.lasts(0, 1);
        s.lasts(1, 1);
        s.lasts(2, 1);
        c.is("DEALS", s.count(4), 0);
        c.is("LEFT", s.body(0, 3) + s.body(1, 3), 18);
        c.is("undo", s.undo(), -1);
    }

    private static final String[] PORTS = {
        "body a 9;body b 30 kin a;body d 12;kind p 2;kind q 1 joint;kind z 9;dot 1;",
        "body a 40;body b 40;body d 9;body e 12 kin a;body g 8;body h 20 kin e;body i 99;body j 5;body l 6;"
            + "kind p 1;kind q 2 joint;kind w 9 doubled;kind x 5 halved;kind y 3 false;kind z 4;line 2;dot 2;",
        "body a 99;body b 99;kind p 1;line 0;"};
    private static final int[] SEEDS = {0, 1, -1, 2, LEAST, LEAST + 1, MOST, MOST - 1, 255, 256, -256, 1 << 30, 12345, -12345};

    private static void seeds() {
        c.part("LASTS: x becomes x * 1103515245 + 12345 (an int, wrapping), the draw is (x >>> 8) % n");
        for (String port : PORTS) {
            for (int law = 0; law <= 2; law++) {
                for (int ahead = 0; ahead <= 4; ahead += 4) {
                    for (int seed : SEEDS) {
                        c.is("lasts(" + law + ", " + seed + ")", begun(port, ahead).lasts(law, seed),
                                lived(begun(port, ahead), law, seed, 10, 200));
                    }
                }
            }
        }
        c.part("LASTS: the tenth that is WRONG by 2, 3 or 7");
        for (int law = 0; law <= 2; law++) {
            int ninth = 0;
            int eleventh = 0;
            for (int seed = 0; seed < 40; seed++) {
                int due = lived(begun(PORTS[1], 0), law, seed, 10, 200);
                c.is("lasts(" + law + ", " + seed + ")", begun(PORTS[1], 0).lasts(law, seed), due);
                ninth += lived(begun(PORTS[1], 0), law, seed, 9, 200) != due ? 1 : 0;
                eleventh += lived(begun(PORTS[1], 0), law, seed, 11, 200) != due ? 1 : 0;
            }
            c.is("some seeds tell the ninth and the eleventh from it", ninth > 0 && eleventh > 0, true);
        }
        c.part("LASTS: or the 200th draw of four, 1 not counted");
        int before = 0;
        int behind = 0;
        for (int seed = 0; seed < 300; seed++) {
            int due = lived(lonely(), 0, seed, 10, 200);
            c.is("lasts(0, " + seed + ")", lonely().lasts(0, seed), due);
            before += lived(lonely(), 0, seed, 10, 199) != due ? 1 : 0;
            behind += lived(lonely(), 0, seed, 10, 201) != due ? 1 : 0;
        }
        c.is("some seeds tell the 199th and the 201st from it", before > 0 && behind > 0, true);
        c.part("LASTS: of 99 (and 1: the SUM)");
        int more = 0;
        for (int seed = 0; seed < 300; seed++) {
            int due = lived(oweSome(), 2, seed, 10, 200);
            c.is("lasts(2, " + seed + ")", oweSome().lasts(2, seed), due);
            more += lived(oweSome(), 2, seed, 10, 200, 2) != due ? 1 : 0;
        }
        c.is("some seeds tell SUMS from 2 on from it", more > 0, true);
        c.is("to the 60th DEAL", Check.at(PORTS[2]).lasts(0, 1), 60);
        c.is("to the 60th DEAL", begun(PORTS[2], 4).lasts(0, 1), 56);
        c.is("to the 60th DEAL, closed ones told", Check.at(PORTS[2]).lasts(2, 1), 60);
    }

    /** DEALS whose SUMS, by a draw like them or one less, decide what comes off. */
    private static SkinLedger oweSome() {
        SkinLedger s = Check.at("body a 24;body b 24;kind p 2;");
        for (int i = 0; i < 8; i++) {
            s.write(i % 2, 1 - i % 2, 50, 0);
        }
        return s;
    }

    /** Nine BODIES, of whom two live. */
    private static SkinLedger lonely() {
        SkinLedger s = Check.at("body a 99;body b 99;body d 9;body e 9;body g 9;body h 9;body i 9;body j 9;body l 9;kind p 1;");
        for (int b = 2; b < 9; b++) {
            s.dies(b, 0);
        }
        return s;
    }

    public static void main(String[] args) {
        promise34();
        promise35();
        promise45();
        seeds();
        c.end("BookBoundsTest");
    }
}
