import java.util.NoSuchElementException;

/** All that can be asked of a SkinLedger, as texts: in parts, as an object has 512 calls, and some calls change what others tell. */
final class Told {
    static final int LATEST = 0;
    static final int TAPE = 1;
    static final int BOOK = 2;
    static final int PARTS = 11;

    private final SkinLedger s;
    private final StringBuilder text = new StringBuilder();

    private Told(SkinLedger s) {
        this.s = s;
    }

    static String part(SkinLedger s, int part) {
        Told told = new Told(s);
        switch (part) {
            case LATEST: told.latest(); break;
            case TAPE: told.tape(); break;
            case BOOK: told.book(); break;
            case 3: told.port(); break;
            case 4: told.deals(0, 20); break;
            case 5: told.deals(52, 60); break;
            case 6: told.marks(); break;
            case 7: told.undone(); break;
            case 8: told.images(); break;
            case 9: told.rings(); break;
            default: told.sums();
        }
        return told.text.toString();
    }

    private void add(long answer) {
        text.append(answer).append(' ');
    }

    /** What other calls told last: asked ahead of any that tells it anew. */
    private void latest() {
        add(s.fault());
        for (int i = -1; i < 7; i++) {
            add(s.ringAt(i));
            add(s.packed(i));
            add(s.judged(i));
            add(s.fit(i, 0));
            add(s.fit(i, 1));
        }
        for (int b = 0; b < s.count(0); b++) {
            add(s.price(b, 1));
            add(s.price(b, 9));
        }
        for (int i = 0; i < 300 && s.byteAt(i) >= 0; i++) {
            text.append((char) s.byteAt(i));
        }
    }

    private void tape() {
        add(s.count(8));
        s.end(Math.min(s.count(8), 600));
        add(s.port());
        add(s.fault());
        port();
    }

    private void book() {
        add(s.count(7));
        add(s.judge(0));
        for (int what = 0; what < 5; what++) {
            add(s.judged(what));
        }
        add(s.judge(1));
        port();
        deals(0, 12);
    }

    private void port() {
        for (int what = 0; what < 9; what++) {
            add(what == 8 ? 0 : s.count(what));
        }
        for (int b = 0; b < s.count(0); b++) {
            for (int what = 0; what < 7; what++) {
                add(s.body(b, what));
            }
        }
        for (int k = 0; k < s.count(1); k++) {
            add(s.kind(k, 0));
            add(s.kind(k, 1));
        }
    }

    private void deals(int from, int to) {
        add(s.count(4));
        for (int d = from; d < to; d++) {
            for (int what = 0; what < 10; what++) {
                try {
                    add(s.deal(d, what));
                } catch (NoSuchElementException e) {
                    text.append("none ");
                    break;
                }
            }
            add(s.read(d, 0));
            add(s.read(d, 1));
        }
    }

    private void marks() {
        for (int b = 0; b < s.count(0); b++) {
            for (int k = -1; k < 20; k++) {
                add(s.mark(b, k));
            }
            add(s.skin(b));
            for (int i = 0; i < 20; i++) {
                text.append((char) (s.byteAt(i) & 255));
            }
        }
    }

    private void undone() {
        for (int i = 0; i < 10; i++) {
            add(s.undo());
            add(s.count(4));
            add(s.count(5));
            add(s.count(6));
            for (int b = 0; b < s.count(0); b++) {
                add(s.body(b, 2));
                add(s.body(b, 3));
                add(s.body(b, 4));
            }
        }
    }

    private void images() {
        for (int k = 0; k < 2; k++) {
            text.append(s.restore(k)).append(' ');
            port();
            deals(0, 6);
            add(s.judge(0));
            add(s.judged(1));
            add(s.undo());
        }
    }

    private void rings() {
        for (int d = 0; d < s.count(4); d++) {
            add(s.ringOf(d));
            add(s.witness(d));
        }
        add(s.ring());
        for (int i = 0; i < 5; i++) {
            add(s.ringAt(i));
        }
        for (int b = 0; b < s.count(0); b++) {
            for (int k = 0; k < s.count(1); k++) {
                add(s.can(b, k));
                add(s.ringsFor(b, (b + 1) % s.count(0), k));
            }
        }
    }

    private void sums() {
        add(s.settled());
        add(s.lost(-1));
        for (int b = 0; b < s.count(0); b++) {
            add(s.fullest(b));
            add(s.owes(b, 0));
            add(s.owes(b, 1));
            add(s.proof(b));
            add(s.aged(b, s.count(6)));
            for (int o = 0; o < s.count(0); o++) {
                add(s.chain(b, o));
                add(s.between(b, o, -1));
                add(s.owed(b, 1 << o, 0));
                add(s.owed(b, 1 << o, 1));
            }
        }
        for (int what = 0; what < 4; what++) {
            add(s.trade(s.count(6), what));
            add(s.greatest(what));
        }
        for (int law = 0; law < 3; law++) {
            add(s.lasts(law, 7));
        }
    }
}
