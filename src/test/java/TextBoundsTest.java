/** The bounds of TOKENS, of a PORT's and a BOOK's text, of FAULTS and of the tape: promises 1 to 5, 33. */
public final class TextBoundsTest {
    private static final Check c = new Check();
    /** Nine BODIES, 81 bytes, the ROOM of each its number and one. */
    private static final String NINE = "body a 1;body b 2;body d 3;body e 4;body g 5;body h 6;body i 7;body j 8;body l 9;";
    /** Six KINDS, 54 bytes, the SIZE of each its number and one. */
    private static final String SIX = "kind m 1;kind n 2;kind o 3;kind p 4;kind q 5;kind r 6;";
    private static final String[] RESERVED = {"body", "kin", "kind", "doubled", "halved", "false", "joint", "line", "dot",
        "deal", "strike", "scar", "credit", "debt", "ring", "dies", "year"};

    private static SkinLedger portIs(String text, int lines) {
        SkinLedger s = new SkinLedger();
        c.is("port of " + text, Check.port(s, text), lines);
        c.is("fault of " + text, s.fault(), 0);
        return s;
    }

    private static SkinLedger bookIs(String text, int lines) {
        SkinLedger s = Check.at(Check.PORT);
        c.is("book of " + text, Check.book(s, text), lines);
        c.is("fault of " + text, s.fault(), 0);
        return s;
    }

    private static boolean isSmallLetter(int b) {
        return b >= 97 && b <= 122;
    }

    private static boolean isDigit(int b) {
        return b >= 48 && b <= 57;
    }

    private static void blanks() {
        c.part("blanks (32, 10) between them or not");
        portIs(" body a 5;", 1);
        portIs("\nbody\na\n5\n;\n", 1);
        portIs("body a 5;body b 5 kin a;line 0;dot 9;", 4);
        portIs(" \n body  a\n\n5 \n;  ", 1);
        bookIs("year;ring;", 2);
        bookIs(" year\n;\n\nring ; ", 2);
        c.part("each other byte ahead of a TOKEN is none");
        for (int b = 0; b < 256; b++) {
            String text = (char) b + "body a 5;";
            if (b == 32 || b == 10) {
                portIs(text, 1);
            } else {
                c.portFault(text, 1, 0);
            }
        }
        c.part("each byte in the middle of a WORD");
        for (int b = 0; b < 256; b++) {
            String text = "body a" + (char) b + "c 5;";
            if (isSmallLetter(b)) {
                portIs(text, 1);
            } else if (b == 32 || b == 10) {
                c.portFault(text, 1, 7);
            } else {
                c.portFault(text, 1, isDigit(b) ? 5 : 6);
            }
        }
        c.part("each byte behind a NUMBER");
        for (int b = 0; b < 256; b++) {
            String text = "body a 5" + (char) b + ";";
            if (isDigit(b) || b == 32 || b == 10) {
                c.is("ROOM of " + text, portIs(text, 1).body(0, 0), isDigit(b) ? 50 + b - 48 : 5);
            } else {
                c.portFault(text, 1, isSmallLetter(b) ? 7 : b == ';' ? 9 : 8);
            }
        }
    }

    private static void words() {
        c.part("WORDS: small letters, 1 to 7");
        portIs("body a 5;", 1);
        portIs("body z 5;", 1);
        portIs("body abcdefg 5;", 1);
        portIs("kind abcdefg 5;", 1);
        portIs("body abcdefg 5;body b 5 kin abcdefg;", 2);
        portIs("body abcdefg 5;body abcdefh 5;body bcdefg 5;body abcdef 5;body b 5;", 5);
        c.portFault("body abcdefgh 5;", 1, 5);
        c.portFault("kind abcdefgh 5;", 1, 5);
        c.portFault("body abcdefg 5;body aabcdefg 5;", 1, 20);
        c.portFault("body a 5;body b 5 kin abcdefgh;", 1, 22);
        c.portFault("kind p 1 doubledd;", 1, 9);
        c.portFault("kind p 1 double;", 1, 9);
        c.portFault("bodybody a 5;", 1, 0);
        c.portFault("aaaabody a 5;", 1, 0);
        c.bookFault("dies a abcdefgh;", 1, 7);
        c.bookFault("aaaayear;", 1, 0);
    }

    private static void runs() {
        c.part("a WORD, NUMBER goes on as long as small letters and digits do");
        c.portFault("body a5;", 1, 5);
        c.portFault("body5 a 5;", 1, 0);
        c.portFault("bodya 5;", 1, 0);
        c.portFault("body 5a 5;", 1, 5);
        c.portFault("body a 5kin a;", 1, 7);
        c.portFault("body a 5;body b 5 kina;", 1, 18);
        c.portFault("kind p 5joint;", 1, 7);
        c.portFault("line5;", 1, 0);
        c.portFault("line 5a;", 1, 5);
        c.portFault("dot a5;", 1, 4);
        c.bookFault("strike5;", 1, 0);
        c.bookFault("scar 5debt;", 1, 5);
        c.bookFault("deal a b 5p;", 1, 9);
        c.bookFault("deal ab 5 p;", 3, 5);
    }

    /** A NUMBER of each place: what is told by it, and what is not as told or no TOKEN. */
    private static void numbers() {
        for (String n : new String[] {"1", "01", "9", "10", "98", "99"}) {
            c.part("ROOM 1 to 99");
            c.is("ROOM " + n, portIs("body a " + n + ";", 1).body(0, 0), Integer.parseInt(n));
            c.part("SUM 1 to 99");
            SkinLedger s = bookIs("deal a b " + n + " p;", 1);
            c.is("judge", s.judge(1), -1);
            c.is("SUM " + n, s.deal(0, 2), Integer.parseInt(n));
        }
        for (String n : new String[] {"0", "00"}) {
            c.part("ROOM, SUM 0");
            c.portFault("body a " + n + ";", 2, 7);
            c.portFault("body a 5;body b " + n + " kin b;", 2, 16);
            c.bookFault("deal a b " + n + " p;", 2, 9);
        }
        for (int n = 0; n <= 99; n++) {
            c.part("SIZE 1 to 9");
            if (n >= 1 && n <= 9) {
                c.is("SIZE " + n, portIs("kind p " + n + ";", 1).kind(0, 0), n);
                c.is("SIZE 0" + n, portIs("kind p 0" + n + " joint;", 1).kind(0, 0), n);
            } else {
                c.portFault("kind p " + n + ";", 2, 7);
            }
            c.part("line, dot 0 to 9");
            if (n <= 9) {
                c.is("line " + n, portIs("line " + n + ";", 1).count(2), n);
                c.is("line 0" + n, portIs("line 0" + n + ";", 1).count(2), n);
                c.is("dot " + n, portIs("dot " + n + ";", 1).count(3), n);
                c.is("dot 0" + n, portIs("dot 0" + n + ";", 1).count(3), n);
            } else {
                c.portFault("line " + n + ";", 2, 5);
                c.portFault("dot " + n + ";", 2, 4);
            }
            c.part("D: 0 to 59");
            if (n <= 59) {
                bookIs("strike " + n + ";", 1);
                bookIs("scar " + n + " debt;", 1);
            } else {
                c.bookFault("strike " + n + ";", 2, 7);
                c.bookFault("scar " + n + " debt;", 2, 5);
            }
        }
        c.portFault("kind p 00;", 2, 7);
        c.part("1 to 2 digits");
        for (String n : new String[] {"000", "001", "009", "055", "100", "999", "0000000005"}) {
            c.portFault("body a " + n + ";", 1, 7);
            c.portFault("kind p " + n + ";", 1, 7);
            c.portFault("line " + n + ";", 1, 5);
            c.portFault("dot " + n + ";", 1, 4);
            c.bookFault("deal a b " + n + " p;", 1, 9);
            c.bookFault("strike " + n + ";", 1, 7);
            c.bookFault("scar " + n + " debt;", 1, 5);
        }
        c.part("D 59 is the 60th DEAL");
        SkinLedger s = Check.at("body a 99;body b 99;kind p 1;");
        for (int i = 0; i < 60; i++) {
            s.write(0, 1, 5, 0);
        }
        Check.book(s, "scar 59 credit;strike 59;strike 0;strike 09;");
        c.is("judge", s.judge(1), -1);
        c.is("scarred", s.read(59, 0), 0);
        c.is("struck", s.deal(59, 5), 1);
        c.is("struck", s.deal(0, 5), 1);
        c.is("struck", s.deal(9, 5), 1);
        c.is("open", s.deal(58, 5), 0);
    }

    private static void without() {
        c.part("line 1 and dot 0 without");
        SkinLedger s = portIs("body a 5;", 1);
        c.is("line", s.count(2), 1);
        c.is("dot", s.count(3), 0);
        s = portIs("line 7;", 1);
        c.is("dot", s.count(3), 0);
        c.is("the next PORT", Check.port(s, "dot 8;"), 1);
        c.is("line", s.count(2), 1);
        c.is("dot", s.count(3), 8);
        c.is("the next PORT", Check.port(s, "line 2;"), 1);
        c.is("line", s.count(2), 2);
        c.is("dot", s.count(3), 0);
        c.is("an empty PORT", Check.port(s, ""), 0);
        c.is("line", s.count(2), 1);
        c.is("dot", s.count(3), 0);
        c.part("once each");
        c.portFault("line 1;line 1;", 3, 7);
        c.portFault("dot 0;dot 0;", 3, 6);
        c.portFault("line 1;dot 0;line 10;", 3, 13);
        c.portFault("dot 0;line 1;dot;", 3, 13);
        portIs("dot 3;line 3;", 2);
    }

    private static void names() {
        c.part("NAME: none of those told here or in a BOOK");
        for (String w : RESERVED) {
            c.portFault("body " + w + " 5;", 1, 5);
            c.portFault("kind " + w + " 5;", 1, 5);
            c.portFault("body a 5;body b 5 kin " + w + ";", 1, 22);
            c.bookFault("deal " + w + " b 5 p;", 1, 5);
            c.bookFault("deal a " + w + " 5 p;", 1, 7);
            c.bookFault("deal a b 5 " + w + ";", 1, 11);
            c.bookFault("dies " + w + " b;", 1, 5);
            c.bookFault("dies a " + w + ";", 1, 7);
        }
        for (String w : new String[] {"bod", "kins", "ki", "kinds", "plain", "lines", "dots", "deals", "strikes", "scars",
            "credits", "debts", "rings", "die", "years", "halve", "doubl", "joints", "truth", "heir", "none"}) {
            portIs("body " + w + " 5;body b 5 kin " + w + ";", 2);
            portIs("kind " + w + " 5;", 1);
        }
        c.part("NAME: told once");
        c.portFault("body a 5;body a 5;", 3, 14);
        c.portFault("kind a 5;kind a 5;", 3, 14);
        c.portFault("body a 5;kind a 5;", 3, 14);
        c.portFault("kind a 5;body a 5;", 3, 14);
        c.portFault(NINE + "kind l 5;", 3, 86);
        c.portFault(SIX + "body r 5;", 3, 59);
        SkinLedger s = portIs(NINE, 9);
        c.is("once in each PORT", Check.port(s, NINE), 9);
        c.is("what was a BODY may be a KIND", Check.port(s, "kind a 5;"), 1);
        c.part("kin: a BODY told ahead");
        s = portIs("body a 5;body b 5 kin a;body d 5 kin b;body e 5 kin a;body g 5;body h 5;body i 5;body j 5;body l 5 kin j;", 9);
        int[] kin = {-1, 0, 1, 0, -1, -1, -1, -1, 7};
        for (int b = 0; b < 9; b++) {
            c.is("kin of " + b, s.body(b, 1), kin[b]);
        }
        c.portFault("body a 5 kin a;", 3, 13);
        c.portFault("body a 5 kin b;body b 5;", 3, 13);
        c.portFault("kind p 5;body a 5 kin p;", 3, 22);
        c.portFault("body a 5 kin old;", 3, 13);
        c.portFault("body a 5 kin 5;", 1, 13);
        c.portFault("body a 5 kin ;", 1, 13);
        c.part("a NAME not told, or of another sort");
        c.bookFault("deal z b 5 p;", 3, 5);
        c.bookFault("deal a z 5 p;", 3, 7);
        c.bookFault("deal a b 5 z;", 3, 11);
        c.bookFault("deal p b 5 p;", 3, 5);
        c.bookFault("deal a p 5 p;", 3, 7);
        c.bookFault("deal a b 5 b;", 3, 11);
        c.bookFault("dies z b;", 3, 5);
        c.bookFault("dies a p;", 3, 7);
        s = Check.at("body x 5;");
        Check.port(s, "body y 5;");
        c.is("not of the PORT ahead", Check.book(s, "dies y x;"), -8);
        c.is("of another sort", s.fault(), 3);
    }

    private static void many() {
        c.part("9 BODIES, 6 KINDS at most, numbered from 0 each");
        SkinLedger s = portIs(NINE + SIX + "line 2;dot 2;", 17);
        c.is("BODIES", s.count(0), 9);
        c.is("KINDS", s.count(1), 6);
        for (int b = 0; b < 9; b++) {
            c.is("ROOM", s.body(b, 0), b + 1);
        }
        for (int k = 0; k < 6; k++) {
            c.is("SIZE", s.kind(k, 0), k + 1);
        }
        c.noBody(s, 9, 0);
        c.noKind(s, 6, 0);
        portIs(SIX + NINE, 15);
        s = portIs("kind m 5;body a 7;kind n 6;body b 8;", 4);
        c.is("BODY 0", s.body(0, 0), 7);
        c.is("KIND 1", s.kind(1, 0), 6);
        c.part("4 a tenth BODY, a seventh KIND (at the LINE's first WORD)");
        c.portFault(NINE + "body", 4, 81);
        c.portFault(NINE + " body body", 4, 82);
        c.portFault(NINE + "body a 0", 4, 81);
        c.portFault(NINE + SIX + "body z 5;", 4, 135);
        c.portFault(SIX + "kind", 4, 54);
        c.portFault(SIX + "\nkind kind", 4, 55);
        c.portFault(SIX + "kind m 0", 4, 54);
        c.portFault(NINE + SIX + "kind z 5;", 4, 135);
        c.portFault(NINE + SIX + "line 1;kind z 5;", 4, 142);
        c.portFault(SIX + NINE + "bodies", 1, 135);
        c.part("a BOOK: 40 LINES at most; 4 a 41st (at the LINE's first WORD)");
        String[] lines = {"deal a b 5 p;", "strike 0;", "scar 0 debt;", "ring;", "dies a b;", "year;"};
        for (String line : lines) {
            String forty = "ring;".repeat(39) + line;
            c.is("LINES", bookIs(forty, 40).count(7), 40);
            c.bookFault("ring;".repeat(40) + line, 4, 200);
            c.bookFault("ring;".repeat(40) + " " + line.substring(0, 4).replace(";", " "), line.startsWith("strike") ? 1 : 4, 201);
        }
        c.bookFault("ring;".repeat(40) + "deal z", 4, 200);
        c.bookFault("ring;".repeat(40) + "strike 60;", 4, 200);
        c.bookFault("ring;".repeat(39) + "strike 60;year;", 2, 202);
        c.part("of one TOKEN the least: 1 is less than 4");
        for (String word : new String[] {"body", "kind", "line", "dot", "kin", "a", "p", "credit", "5", ";", "?", "rings"}) {
            c.bookFault("ring;".repeat(40) + word, 1, 200);
        }
        c.is("behind 40 the end", bookIs("ring;".repeat(40) + " \n", 40).count(7), 40);
    }

    private static void first() {
        c.part("FAULTS, the first along the text");
        c.portFault("body a 0;body a 5;?", 2, 7);
        c.portFault("body a 5;body a 0;?", 3, 14);
        c.portFault("body a 5;?body a 0;", 1, 9);
        c.portFault("line 10;line 10;", 2, 5);
        c.portFault("body year 0;", 1, 5);
        c.portFault("body a 5;kind a 0;", 3, 14);
        c.portFault("body a 5 kin b 5;", 3, 13);
        c.bookFault("deal z z 0 z;", 3, 5);
        c.bookFault("deal a z 0 z;", 3, 7);
        c.bookFault("deal a b 0 z;", 2, 9);
        c.bookFault("deal a b 5 z", 3, 11);
        c.bookFault("scar 60 line;", 2, 5);
        c.bookFault("scar 59 line;", 1, 8);
    }

    /** Each LINE cut off behind each of its bytes but the last: the end comes where it can't. */
    private static void ends() {
        c.part("the end: how many bytes there are");
        for (String line : new String[] {"body a ", "body a 5 ", "body a 5;body b 5 kin ", "kind p ", "kind p 5 ",
            "kind p 5 joint ", "line ", "line 5 ", "dot ", "dot 5 ", "body ", "kind "}) {
            c.portFault(line, 1, line.length());
            c.portFault(line + "\n ", 1, line.length() + 2);
            c.portFault(line.trim(), 1, line.length() - 1);
        }
        for (String line : new String[] {"deal ", "deal a ", "deal a b ", "deal a b 5 ", "deal a b 5 p ", "strike ", "strike 5 ",
            "scar ", "scar 5 ", "scar 5 debt ", "ring ", "dies ", "dies a ", "dies a b ", "year "}) {
            c.bookFault(line, 1, line.length());
            c.bookFault(line.trim(), 1, line.length() - 1);
        }
        c.part("an empty text has no FAULT");
        c.is("LINES", portIs("", 0).count(0), 0);
        c.is("LINES", bookIs("", 0).count(7), 0);
        c.portFault(";", 1, 0);
        c.bookFault(";", 1, 0);
        c.portFault("body a 5;;", 1, 9);
        c.bookFault("year;;", 1, 5);
    }

    private static String blanks(int n) {
        return " ".repeat(n);
    }

    private static void sixHundred() {
        c.part("at most 600 bytes");
        portIs(blanks(600), 0);
        portIs("line 1;" + blanks(593), 1);
        portIs(blanks(593) + "line 1;", 1);
        bookIs(blanks(600), 0);
        bookIs(blanks(595) + "year;", 1);
        for (int more = 1; more <= 40; more += 39) {
            c.portFault(blanks(600 + more), 1, 600);
            c.portFault("line 1;" + blanks(593 + more), 1, 600);
            c.portFault("line 1;" + "\n".repeat(593 + more), 1, 600);
            c.bookFault(blanks(600 + more), 1, 600);
            c.bookFault("year;" + blanks(595 + more), 1, 600);
        }
        c.part("exactly 600, the end within a LINE");
        c.portFault(blanks(594) + "line 5", 1, 600);
        c.bookFault(blanks(596) + "year", 1, 600);
        c.portFault(blanks(593) + "line 5", 1, 599);
        c.part("a FAULT ahead is told first");
        c.portFault("?" + blanks(620), 1, 0);
        c.portFault("line 10;" + blanks(620), 2, 5);
        c.portFault(blanks(599) + "?", 1, 599);
        c.portFault(blanks(599) + "?" + blanks(20), 1, 599);
        c.portFault(blanks(600) + "?", 1, 600);
        c.bookFault("year;;" + blanks(620), 1, 5);
        c.bookFault(blanks(599) + ";;", 1, 599);
        c.bookFault(blanks(600) + ";", 1, 600);
        c.part("TOKENS that begin ahead of it are read whole");
        c.portFault(blanks(594) + "line 55;", 2, 599);
        c.portFault(blanks(595) + "line 55;", 1, 600);
        c.portFault(blanks(594) + "line 555;", 1, 599);
        c.portFault(blanks(594) + "line 05;", 1, 600);
        c.portFault(blanks(592) + "line 1;linea", 1, 599);
        c.portFault(blanks(592) + "line 1;lin", 1, 599);
        c.portFault(blanks(592) + "line 1;line", 3, 599);
        c.portFault(blanks(593) + "line 1;line", 1, 600);
        c.portFault(blanks(595) + "body abcdefg 5;", 1, 600);
        c.portFault(blanks(594) + "body abcdefg 5;", 1, 600);
        c.portFault(blanks(594) + "body abcdefgh 5;", 1, 599);
        c.portFault(blanks(585) + "body a 5;body a 5;", 3, 599);
        c.portFault(blanks(518) + NINE + "body", 4, 599);
        c.portFault(blanks(519) + NINE + "body", 1, 600);
        c.portFault(blanks(545) + SIX + "kind", 4, 599);
        c.portFault(blanks(546) + SIX + "kind", 1, 600);
        c.bookFault(blanks(399) + "ring;".repeat(40) + "ring;", 4, 599);
        c.bookFault(blanks(400) + "ring;".repeat(40) + "ring;", 1, 600);
        c.bookFault(blanks(592) + "strike 60;", 2, 599);
        c.bookFault(blanks(592) + "strike 59;", 1, 600);
        c.bookFault(blanks(592) + "dies a zz;", 3, 599);
        c.bookFault(blanks(593) + "dies a zz;", 1, 600);
    }

    private static void tape() {
        c.part("promise 2: NONE, and none come, if it would have more than 640");
        SkinLedger s = new SkinLedger();
        for (int n = 20; n <= 640; n += 20) {
            c.is("feed", s.feed(0x6c696e65, 0x20373b20, 0x20202020, 0x20202020, 0x20202020), n);
        }
        c.is("feed of a full tape", s.feed(0, 0, 0, 0, 0), -1);
        c.is("bytes", s.count(8), 640);
        for (int n = 621; n < 640; n++) {
            s.end(0);
            for (int i = 0; i < 32; i++) {
                s.feed(0x20202020, 0x20202020, 0x20202020, 0x20202020, 0x20202020);
            }
            s.end(n);
            c.is("feed behind " + n, s.feed(0, 0, 0, 0, 0), -1);
            c.is("bytes", s.count(8), n);
            s = new SkinLedger();
        }
        s = Check.at("body a 5;body b 5;kind p 1;");
        Check.bytes(s, new int[620]);
        c.is("feed behind 620", s.feed(1, 2, 3, 4, 5), 640);
        c.part("promise 2: Twenty bytes, of each number the highest first");
        SkinLedger t = new SkinLedger();
        c.is("feed", t.feed(0x626f6479, 0x20616263, 0x64656667, 0x2039393b, 0x6c696e65), 20);
        c.is("feed", t.feed(0x20303b64, 0x6f742039, 0x3bffffff, 0xffffffff, 0xffffffff), 40);
        c.is("end", t.end(29), true);
        c.is("port", t.port(), 3);
        c.is("ROOM", t.body(0, 0), 99);
        c.is("line", t.count(2), 0);
        c.is("dot", t.count(3), 9);
        c.is("an empty tape is an empty PORT", t.port(), 0);
        c.is("BODIES", t.count(0), 0);
        c.part("promise 3: false, if it has not so many, or n is below 0");
        for (int n = 0; n <= 640; n += 160) {
            SkinLedger u = new SkinLedger();
            for (int i = 0; i < n; i += 20) {
                u.feed(0, 0, 0, 0, 0);
            }
            c.is("end one more", u.end(n + 1), false);
            c.is("end far more", u.end(Integer.MAX_VALUE), false);
            c.is("end -1", u.end(-1), false);
            c.is("end least", u.end(Integer.MIN_VALUE), false);
            c.is("it stays", u.count(8), n);
            c.is("end all", u.end(n), true);
            c.is("it stays", u.count(8), n);
            c.is("end one less", u.end(n - 1), n > 0);
            c.is("it has", u.count(8), n > 0 ? n - 1 : 0);
            c.is("end 0", u.end(0), true);
            c.is("it has none", u.count(8), 0);
        }
    }

    /** Nothing of the PORT ahead is so in the next one, be it the same text. */
    private static void anew() {
        c.part("A new PORT: no DEALS, no BOOK, YEAR 0; nothing can be undone");
        for (String text : new String[] {Check.PORT, Check.PORT + " ", "body a 20;body b 10;", ""}) {
            SkinLedger s = Check.at(Check.PORT);
            for (int i = 0; i < 3; i++) {
                s.write(i % 2, 1 - i % 2, 5, 0);
            }
            s.strike(2);
            s.scar(0, 1);
            s.cut();
            s.dies(3, 1);
            s.year();
            Check.book(s, "year;");
            c.is("lines and dots", s.body(0, 6) + s.body(1, 6), 6);
            c.is("LINES of the BOOK", s.count(7), 1);
            Check.text(s, text);
            c.is("port", s.port() >= 0, true);
            for (int what = 4; what <= 8; what++) {
                c.is("count(" + what + ")", s.count(what), 0);
            }
            for (int b = 0; b < s.count(0); b++) {
                c.is("lives", s.body(b, 2), 1);
                c.is("LEFT is ROOM", s.body(b, 3), s.body(b, 0));
                c.is("NET", s.body(b, 4), 0);
                c.is("MARKS", s.body(b, 5), 0);
                c.is("lines and dots", s.body(b, 6), 0);
            }
            c.noDeal(s, 0, 0);
            c.is("judge", s.judge(0), -1);
            c.is("LINES done", s.judged(1), 0);
            c.is("undo", s.undo(), -1);
        }
        c.part("promise 1: An empty PORT; an empty tape");
        SkinLedger s = new SkinLedger();
        int[] due = {0, 0, 1, 0, 0, 0, 0, 0, 0};
        for (int what = 0; what <= 8; what++) {
            c.is("count(" + what + ")", s.count(what), due[what]);
        }
        c.is("no byte", s.end(1), false);
        c.is("no bytes", s.end(0), true);
    }

    private static void emptied() {
        c.part("promise 4: The tape (empty then, here and below, whatever is answered)");
        SkinLedger s = Check.at(Check.PORT);
        c.is("a PORT", Check.port(s, Check.PORT) > 0 ? s.count(8) : -1, 0);
        c.is("no PORT", Check.port(s, "?") < 0 ? s.count(8) : -1, 0);
        c.is("a BOOK", Check.book(s, "year;") > 0 ? s.count(8) : -1, 0);
        c.is("no BOOK", Check.book(s, "?") < 0 ? s.count(8) : -1, 0);
        Check.bytes(s, 0, 1, 0);
        c.is("packed", s.pack() == 1 ? s.count(8) : -1, 0);
        Check.bytes(s, 0, 1, 9);
        c.is("not packed", s.pack() == -1 ? s.count(8) : -1, 0);
        Check.nets(s, 0, 0, 0, 0);
        c.is("fits", s.fits(1) == 1 ? s.count(8) : -1, 0);
        for (int most : new int[] {0, 21}) {
            Check.nets(s, 0, 0, 0, 0);
            c.is("no fits", s.fits(most) == -1 ? s.count(8) : -1, 0);
        }
        Check.bytes(s, 1);
        c.is("no fits", s.fits(1) == -1 ? s.count(8) : -1, 0);
        c.part("promise 5: 0 without one and ahead of any");
        SkinLedger t = new SkinLedger();
        c.is("ahead of any", t.fault(), 0);
        String[] ports = {"?", "line 10;", "line 1;line 1;", NINE + "body"};
        for (int i = 0; i < 4; i++) {
            Check.port(t, ports[i]);
            c.is("of a PORT", t.fault(), i + 1);
            Check.book(t, "year;");
            c.is("of the latest, a BOOK", t.fault(), 0);
            Check.port(t, ports[i]);
            Check.port(t, "body a 5;");
            c.is("of the latest, a PORT", t.fault(), 0);
        }
        String[] books = {"?", "strike 60;", "dies z z;", "ring;".repeat(41)};
        for (int i = 0; i < 4; i++) {
            Check.book(t, books[i]);
            c.is("of a BOOK", t.fault(), i + 1);
            Check.port(t, "body a 5;");
            c.is("of the latest, a PORT", t.fault(), 0);
        }
    }

    public static void main(String[] args) {
        blanks();
        words();
        runs();
        numbers();
        without();
        names();
        many();
        first();
        ends();
        sixHundred();
        tape();
        anew();
        emptied();
        c.end("TextBoundsTest");
    }
}
