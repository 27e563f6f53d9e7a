/** Promises 6 to 10, 23 to 32: what is so. */
public final class LookTest {
    private static final Check c = new Check();

    private static void promise6() {
        c.part("promise 6");
        SkinLedger s = new SkinLedger();
        c.noBody(s, 0, 0);
        s = Check.at(Check.PORT);
        c.noBody(s, -1, 0);
        c.noBody(s, 4, 0);
        c.noBody(s, 0, 7);
        c.noBody(s, 0, -1);
        c.noBody(s, Integer.MAX_VALUE, Integer.MIN_VALUE);
        int[] room = {20, 10, 6, 30};
        int[] kin = {-1, 0, -1, 2};
        for (int b = 0; b < 4; b++) {
            c.is("ROOM", s.body(b, 0), room[b]);
            c.is("kin", s.body(b, 1), kin[b]);
            c.is("lives", s.body(b, 2), 1);
            c.is("LEFT", s.body(b, 3), room[b]);
            for (int what = 4; what < 7; what++) {
                c.is("none yet", s.body(b, what), 0);
            }
        }
        s.write(0, 1, 9, 0);
        s.write(1, 0, 7, 1);
        s.write(0, 3, 20, 4);
        s.write(0, 1, 50, 3);
        s.write(2, 0, 9, 2);
        c.is("NET of a", s.body(0, 4), 9 - 3 + 40 - 9);
        c.is("NET of b", s.body(1, 4), -9 + 3);
        c.is("NET of d", s.body(3, 4), -40);
        c.is("MARKS", s.body(0, 5), 5);
        c.is("LEFT", s.body(0, 3), 20 - 2 - 3 - 2 - 1 - 2);
        s.strike(2);
        c.is("MARKS of a struck one", s.body(0, 5), 5);
        c.is("a line", s.body(0, 6), 1);
        c.is("LEFT", s.body(0, 3), 9);
        c.is("NET without it", s.body(0, 4), -3);
        c.is("NET without it", s.body(3, 4), 0);
        s.write(1, 0, 9, 0);
        s.cut();
        c.is("MARKS off", s.body(0, 5), 4);
        c.is("two dots and a line", s.body(0, 6), 3);
        c.is("LEFT", s.body(0, 3), 9);
        s.dies(2, 0);
        c.is("dead", s.body(2, 2), 0);
        c.is("MARKS of a closed one", s.body(2, 5), 1);
        c.is("LEFT of a dead one", s.body(2, 3), 4);
        c.is("NET of the heir", s.body(0, 4), -3);
        for (int i = 0; i < 99; i++) {
            s.year();
        }
        s.write(3, 0, 5, 0);
        c.is("MARKS of a late YEAR", s.body(3, 5), 2);
        c.is("MARKS of a late YEAR", s.mark(3, -1), 2);
    }

    private static void promise7() {
        c.part("promise 7");
        SkinLedger s = new SkinLedger();
        c.noKind(s, 0, 0);
        s = Check.at(Check.PORT);
        int[] size = {2, 3, 2, 1, 2};
        int[] sort = {0, 2, 4, 3, 1};
        for (int k = 0; k < 5; k++) {
            c.is("SIZE", s.kind(k, 0), size[k]);
            c.is("sort", s.kind(k, 1), sort[k]);
        }
        c.noKind(s, -1, 0);
        c.noKind(s, 5, 0);
        c.noKind(s, 0, 2);
        c.noKind(s, 0, -1);
    }

    private static void dealIs(SkinLedger s, int d, int... due) {
        for (int what = 0; what < due.length; what++) {
            c.is("deal(" + d + ", " + what + ")", s.deal(d, what), due[what]);
        }
    }

    private static void promise8() {
        c.part("promise 8");
        SkinLedger s = Check.at(Check.PORT);
        c.noDeal(s, 0, 0);
        s.write(0, 1, 9, 0);
        s.year();
        s.write(1, 3, 9, 1);
        s.write(1, 3, 9, 4);
        s.write(1, 3, 9, 3);
        s.write(1, 3, 1, 1);
        c.noDeal(s, 5, 0);
        c.noDeal(s, -1, 0);
        c.noDeal(s, 0, 10);
        c.noDeal(s, 0, -1);
        dealIs(s, 0, 0, 1, 9, 0, 0, 0, 0, 1, 1, 9);
        dealIs(s, 1, 1, 3, 9, 1, 1, 0, 1, 3, 1, 4);
        dealIs(s, 2, 1, 3, 9, 4, 1, 0, 1, 3, 1, 18);
        dealIs(s, 3, 1, 3, 9, 3, 1, 0, 1, 3, 1, 0);
        c.is("half of 1", s.deal(4, 9), 0);
        // KNOWN: by one of its MARKS, joint by both, not by a buried one's
        s.write(3, 2, 5, 2);
        c.is("joint", s.deal(5, 9), 5);
        c.is("joint KNOWN", s.deal(5, 8), 1);
        s.scar(5, 0);
        c.is("joint by one", s.deal(5, 8), 0);
        s.scar(0, 0);
        c.is("by one", s.deal(0, 8), 1);
        s.scar(0, 1);
        c.is("by none", s.deal(0, 8), 0);
        s.scar(1, 0);
        s.dies(3, 0);
        c.is("by a scarred and a buried one", s.deal(1, 8), 0);
        c.is("by one who lives", s.deal(2, 8), 1);
        c.is("the heir", s.deal(2, 1), 0);
        c.is("the bearer", s.deal(2, 7), 3);
        s.strike(2);
        c.is("struck", s.deal(2, 5), 1);
        c.is("KNOWN though struck", s.deal(2, 8), 1);
        c.is("VALUE though struck", s.deal(2, 9), 18);
        // those that came off
        s = Check.at(Check.PORT);
        s.write(0, 1, 9, 0);
        s.write(1, 0, 5, 0);
        s.cut();
        dealIs(s, 0, 0, 1, 4, 0, 0, 0, 0, 1, 1, 4);
        dealIs(s, 1, 1, 0, 0, 0, 0, 2, -1, -1, 0, 0);
    }

    private static void promise9() {
        c.part("promise 9");
        SkinLedger s = Check.at(Check.PORT);
        c.is("none", s.read(0, 0), -1);
        s.write(0, 1, 9, 0);
        s.write(1, 0, 5, 0);
        c.is("READ", s.read(0, 0), 1);
        c.is("READ", s.read(0, 1), 1);
        c.is("side 2", s.read(0, 2), -1);
        c.is("side -1", s.read(0, -1), -1);
        c.is("no such", s.read(2, 0), -1);
        c.is("no such", s.read(-1, 0), -1);
        s.scar(0, 1);
        c.is("scarred", s.read(0, 1), 0);
        c.is("the other", s.read(0, 0), 1);
        s.strike(0);
        c.is("struck", s.read(0, 0), 1);
        s.write(0, 1, 5, 0);
        s.cut();
        c.is("came off", s.read(1, 0), -1);
        c.is("came off", s.read(2, 1), -1);
        s.dies(0, 3);
        c.is("buried", s.read(0, 0), 0);
    }

    private static void promise10() {
        c.part("promise 10");
        SkinLedger s = Check.at("body a 9;body b 2 kin a;body e 9;kind p 2;");
        c.is("no such", s.mark(-1, -1), -1);
        c.is("no such", s.mark(3, -1), -1);
        c.is("none", s.mark(0, -1), 0);
        c.is("none", s.mark(0, 0), -1);
        s.write(2, 0, 5, 0);
        s.write(2, 1, 5, 0);
        s.write(0, 1, 5, 0);
        c.is("three on a", s.mark(0, -1), 3);
        c.is("DEBT of 0", s.mark(0, 0), 1);
        c.is("CREDIT of 2", s.mark(0, 1), 4);
        c.is("DEBT of 2, of his kin", s.mark(0, 2), 5);
        c.is("no more", s.mark(0, 3), -1);
        c.is("below", s.mark(0, -2), -1);
        c.is("b", s.mark(1, -1), 1);
        c.is("DEBT of 1", s.mark(1, 0), 3);
        s.strike(2);
        c.is("struck", s.mark(0, -1), 3);
        c.is("two on e", s.mark(2, -1), 2);
    }

    private static void promise23() {
        c.part("promise 23");
        SkinLedger s = Check.at(Check.PORT);
        s.write(0, 1, 5, 0);
        s.year();
        s.year();
        s.write(0, 1, 5, 0);
        s.write(2, 0, 5, 0);
        c.is("of 0", s.aged(0, 0), 1);
        c.is("of 1", s.aged(0, 1), 1);
        c.is("of 2", s.aged(0, 2), 3);
        c.is("of 99", s.aged(0, 99), 3);
        c.is("of 100", s.aged(0, 100), -1);
        c.is("of -1", s.aged(0, -1), -1);
        c.is("no such", s.aged(4, 0), -1);
        c.is("no such", s.aged(-1, 0), -1);
        s.strike(0);
        c.is("struck too", s.aged(1, 0), 1);
    }

    private static void promise24() {
        c.part("promise 24");
        SkinLedger s = Check.at(Check.PORT);
        s.write(0, 1, 5, 0);
        s.write(0, 1, 5, 3);
        s.write(0, 3, 5, 3);
        s.write(2, 0, 5, 0);
        s.write(0, 2, 5, 0);
        s.strike(4);
        c.is("who owe to a", s.owes(0, 0), 10);
        c.is("to whom a owes", s.owes(0, 1), 4);
        c.is("who owe to c", s.owes(2, 0), 1);
        c.is("to whom c owes", s.owes(2, 1), 0);
        c.is("to whom b owes", s.owes(1, 1), 1);
        c.is("another what", s.owes(0, 2), -1);
        c.is("another what", s.owes(0, -1), -1);
        c.is("no such", s.owes(4, 0), -1);
        c.is("no such", s.owes(-1, 1), -1);
    }

    private static void promise25() {
        c.part("promise 25");
        SkinLedger s = Check.at("body a 99;body b 99;body d 99;body e 99;body g 99;kind p 1;kind f 1 false;");
        s.write(0, 1, 5, 0);
        s.write(1, 2, 5, 1);
        s.write(2, 3, 5, 0);
        s.write(3, 0, 5, 0);
        c.is("d owes a by two", s.chain(2, 0), 2);
        c.is("e owes a by three", s.chain(3, 0), 3);
        c.is("a owes e by one", s.chain(0, 3), 1);
        c.is("a owes b", s.chain(0, 1), 3);
        c.is("a is a", s.chain(0, 0), 0);
        c.is("none", s.chain(4, 0), -1);
        c.is("none", s.chain(0, 4), -1);
        c.is("no such", s.chain(5, 0), -1);
        c.is("no such", s.chain(0, -1), -1);
        c.is("no such is no such", s.chain(5, 5), -1);
        c.is("no such, far", s.chain(0, 32), -1);
        c.is("no such, far", s.chain(32, 0), -1);
        s.write(0, 3, 5, 0);
        c.is("the fewest", s.chain(3, 0), 1);
        s.strike(4);
        c.is("open ones", s.chain(3, 0), 3);
        c.is("nobody", new SkinLedger().chain(0, 0), -1);
        s = Check.at("body a 9;body b 9;body d 9;body e 9;body g 9;body h 9;body i 9;body j 9;body k 9;kind p 1;");
        for (int b = 0; b < 8; b++) {
            s.write(b + 1, b, 5, 0);
        }
        c.is("by eight", s.chain(0, 8), 8);
        c.is("not back", s.chain(8, 0), -1);
    }

    private static void promise26() {
        c.part("promise 26");
        SkinLedger s = Check.at("body a 9;body b 7;body d 9;body e 8;kind p 1;");
        long[] due = {1, 3, 0, 2, -1};
        for (int k = 0; k < due.length; k++) {
            c.is("fullest(" + k + ")", s.fullest(k), due[k]);
        }
        c.is("below", s.fullest(-1), -1);
        c.is("far", s.fullest(Integer.MAX_VALUE), -1);
        s.write(2, 0, 5, 0);
        s.write(2, 3, 5, 0);
        c.is("7 LEFT", s.fullest(0), 1);
        c.is("7 LEFT", s.fullest(1), 2);
        c.is("7 LEFT", s.fullest(2), 3);
        s.dies(1, 0);
        c.is("of those who live", s.fullest(0), 2);
        c.is("three live", s.fullest(3), -1);
        c.is("nobody", new SkinLedger().fullest(0), -1);
    }

    private static void promise27() {
        c.part("promise 27");
        SkinLedger s = Check.at(Check.PORT);
        s.write(0, 1, 5, 0);
        s.write(0, 1, 9, 1);
        s.write(0, 3, 10, 4);
        s.write(1, 0, 3, 0);
        s.year();
        s.write(0, 1, 50, 3);
        s.write(0, 3, 7, 0);
        s.strike(2);
        s.cut();
        c.is("all of 0", s.trade(0, 0), 2 + 4 + 20);
        c.is("open", s.trade(0, 1), 6);
        c.is("struck", s.trade(0, 2), 20);
        c.is("closed", s.trade(0, 3), 0);
        c.is("all of 1", s.trade(1, 0), 7);
        c.is("of 2", s.trade(2, 0), 0);
        c.is("of 99", s.trade(99, 3), 0);
        c.is("of 100", s.trade(100, 0), -1);
        c.is("of -1", s.trade(-1, 0), -1);
        c.is("another what", s.trade(0, 4), -1);
        c.is("another what", s.trade(0, -1), -1);
        s.dies(1, 0);
        c.is("closed with their SUMS", s.trade(0, 3), 6);
        c.is("none open", s.trade(0, 1), 0);
    }

    private static void promise28() {
        c.part("promise 28");
        SkinLedger s = Check.at("body a 99;body b 99;body d 99;body e 99;body g 99;body h 99;kind p 1;kind f 1 false;");
        c.is("none", s.settled(), 0);
        s.write(0, 1, 50, 1);
        c.is("false ones", s.settled(), 0);
        s.write(0, 1, 50, 0);
        c.is("one", s.settled(), 1);
        s.write(1, 2, 50, 0);
        c.is("a pays for b", s.settled(), 1);
        s.write(1, 2, 20, 0);
        c.is("two", s.settled(), 2);
        s.write(2, 1, 20, 0);
        s.write(3, 4, 50, 0);
        c.is("two pairs", s.settled(), 2);
        s.write(4, 5, 30, 0);
        c.is("two groups", s.settled(), 3);
        s.strike(5);
        c.is("open ones", s.settled(), 2);
        s = Check.at("body a 99;body b 99;body d 99;body e 99;kind p 1;");
        s.write(0, 1, 1, 0);
        s.write(2, 3, 2, 0);
        s.write(0, 3, 4, 0);
        c.is("no two of 5, -1, 2, -6", s.settled(), 3);
        c.is("nobody", new SkinLedger().settled(), 0);
    }

    private static void promise29and30() {
        c.part("promise 29, 30");
        SkinLedger s = Check.at("body alpha 30;body b 4 kin alpha;body gamma 9;kind plain 2;kind j 2 joint;");
        c.is("ahead of any", s.byteAt(0), -1);
        c.is("no such", s.skin(-1), -1);
        c.is("no such", s.skin(3), -1);
        c.skinIs(s, 0, "");
        s.write(0, 1, 99, 0);
        s.write(2, 0, 5, 1);
        s.write(1, 2, 12, 0);
        s.write(0, 2, 7, 0);
        s.write(1, 0, 30, 0);
        c.skinIs(s, 0, "+ b 99 plain;- gamma 5 j;+ gamma 7 plain;+ alpha 30 plain;- b 30 plain;");
        c.skinIs(s, 1, "- alpha 99 plain;+ gamma 12 plain;");
        s.scar(0, 1);
        s.scar(1, 1);
        s.strike(1);
        s.strike(3);
        c.skinIs(s, 0, "+ b 99 plain;- gamma ? jx;+ gamma 7 plainx;+ alpha 30 plain;- b 30 plain;");
        c.skinIs(s, 1, "- alpha ? plain;+ gamma 12 plain;");
        s.dies(1, 0);
        c.skinIs(s, 0, "+ alpha 99 plaino;- gamma ? jx;+ gamma 7 plainx;+ alpha 30 plaino;- alpha 30 plaino;");
        c.skinIs(s, 1, "- alpha ? plaino;+ gamma 12 plain;");
        c.skinIs(s, 2, "+ alpha 5 jx;- alpha 12 plain;- alpha 7 plainx;");
        c.is("of the text made last", s.skin(1), 34);
        c.is("-", s.byteAt(0), '-');
        c.is("blank", s.byteAt(1), 32);
        c.is("last", s.byteAt(33), ';');
        c.is("behind", s.byteAt(34), -1);
        c.is("below", s.byteAt(-1), -1);
        c.is("far", s.byteAt(Integer.MAX_VALUE), -1);
        s.skin(9);
        c.is("NONE makes none", s.byteAt(0), '-');
        Check.port(s, "");
        c.is("it stays", s.byteAt(0), '-');
        StringBuilder due = new StringBuilder();
        for (int i = 0; i < 60; i++) {
            due.append("+ hijklmn 10 opqrstu;");
        }
        longSkinIs(0, due.toString());
        longSkinIs(30, due.toString().replaceFirst("(\\+ hijklmn 10 opqrstu;){30}", "+ hijklmn 10 opqrstux;".repeat(30)));
    }

    /** Told 300 bytes an object, as each has 512 calls. */
    private static void longSkinIs(int struck, String due) {
        for (int from = 0; from < due.length(); from += 300) {
            SkinLedger s = Check.at("body abcdefg 99;body hijklmn 99;kind opqrstu 1;");
            for (int i = 0; i < 60; i++) {
                s.write(0, 1, 10, 0);
            }
            for (int i = 0; i < struck; i++) {
                s.strike(i);
            }
            c.is("skin of 60", s.skin(0), due.length());
            for (int i = from; i < from + 300; i++) {
                c.is("byteAt(" + i + ")", s.byteAt(i), i < due.length() ? due.charAt(i) : -1);
            }
        }
    }

    private static void promise31() {
        c.part("promise 31");
        SkinLedger s = Check.at(Check.PORT);
        s.write(0, 1, 5, 0);
        s.write(1, 0, 5, 2);
        s.write(0, 1, 5, 3);
        s.write(0, 3, 5, 0);
        s.write(0, 1, 5, 0);
        c.is("how many", s.between(0, 1, -1), 3);
        c.is("the first", s.between(0, 1, 0), 0);
        c.is("the second", s.between(0, 1, 1), 2);
        c.is("the third", s.between(0, 1, 2), 4);
        c.is("no more", s.between(0, 1, 3), -1);
        c.is("below", s.between(0, 1, -2), -1);
        c.is("the other way", s.between(1, 0, 0), 1);
        c.is("none", s.between(3, 0, -1), 0);
        c.is("with himself", s.between(0, 0, -1), 0);
        c.is("no such", s.between(4, 0, -1), -1);
        c.is("no such", s.between(0, 4, -1), -1);
        c.is("no such", s.between(-1, 0, -1), -1);
        s.strike(0);
        c.is("open ones", s.between(0, 1, -1), 2);
        c.is("the first open", s.between(0, 1, 0), 2);
    }

    private static void promise32() {
        c.part("promise 32");
        SkinLedger s = Check.at(Check.PORT);
        c.is("none", s.greatest(0), -1);
        s.write(0, 1, 10, 0);
        s.write(0, 1, 10, 4);
        s.write(1, 0, 20, 0);
        s.write(0, 1, 90, 3);
        s.write(0, 3, 50, 1);
        s.write(0, 3, 99, 0);
        s.strike(5);
        long[] due = {4, 1, 2, 0, 3, -1};
        for (int k = 0; k < due.length; k++) {
            c.is("greatest(" + k + ")", s.greatest(k), due[k]);
        }
        c.is("below", s.greatest(-1), -1);
        c.is("far", s.greatest(Integer.MAX_VALUE), -1);
    }

    /** Sixty DEALS and nine BODIES, the most there can be, looked at by each call. */
    private static void theMost() {
        c.part("60 DEALS, 9 BODIES");
        SkinLedger s = Check.at("body a 99;body b 99;body d 99;body e 99;body g 99;body h 99;body i 99;body j 99;"
                + "body l 99;kind p 1;kind q 1;kind r 1;kind t 1;kind u 1;kind z 2 joint;line 1;dot 1;");
        for (int i = 0; i < 59; i++) {
            c.is("write", s.write(8, i % 8, 1 + i, 0), i);
        }
        c.is("the last", s.write(7, 8, 99, 5), 59);
        c.is("none behind", s.write(7, 8, 99, 5), -17);
        c.noDeal(s, 60, 0);
        c.is("read", s.read(60, 0), -1);
        c.is("its KIND", s.deal(59, 3), 5);
        c.is("MARKS", s.mark(8, -1), 60);
        c.is("the last MARK", s.mark(8, 59), 119);
        c.is("no more", s.mark(8, 60), -1);
        c.is("aged", s.aged(8, 0), 60);
        c.is("owes", s.owes(8, 0), 255);
        c.is("owes", s.owes(8, 1), 128);
        c.is("chain", s.chain(0, 7), 2);
        c.is("fullest", s.fullest(0), 8);
        c.is("fullest", s.fullest(8), 6);
        c.is("trade", s.trade(0, 1), 59 * 60 / 2 + 99);
        c.is("settled", s.settled(), 8);
        c.is("between", s.between(8, 2, -1), 8);
        c.is("between", s.between(8, 2, 7), 58);
        c.is("greatest", s.greatest(0), 59);
        c.is("greatest", s.greatest(59), 0);
        c.is("no more", s.greatest(60), -1);
        c.is("skin", s.skin(8), 9 * 8 + 50 * 9 + 9);
        c.is("lost", s.lost(-1), 0);
        c.is("lost", s.lost(60), -1);
        c.is("owed", s.owed(8, 511, 0), 59 * 60 / 2);
        c.is("proof", s.proof(8), 256);
        c.is("witness", s.witness(59), 384);
        c.is("witness", s.witness(60), -1);
        c.is("ring", s.ring(), 0);
        c.is("ringOf", s.ringOf(59), 0);
        c.is("ringOf", s.ringOf(60), -1);
        c.is("ringsFor", s.ringsFor(0, 1, 0), -1);
        c.is("lasts", s.lasts(1, 5), 0);
        c.is("strike", s.strike(60), 4);
        c.is("strike", s.strike(59), 0);
        c.is("lines", s.body(8, 6) + s.body(7, 6), 2);
        c.is("dies", s.dies(8, 6), 59 - 7);
        c.is("open", s.count(5), 52);
        c.is("undo", s.undo(), 7);
        c.is("undo", s.undo(), 6);
        c.is("no lines", s.body(8, 6) + s.body(7, 6), 0);
        c.is("undo", s.undo(), 5);
        c.is("MARKS", s.mark(8, -1), 59);
        c.is("aged", s.aged(7, 99), 7);
        c.is("open", s.count(5), 59);
    }

    public static void main(String[] args) {
        promise6();
        promise7();
        promise8();
        promise9();
        promise10();
        promise23();
        promise24();
        promise25();
        promise26();
        promise27();
        promise28();
        promise29and30();
        promise31();
        promise32();
        theMost();
        c.end("LookTest");
    }
}
