import java.util.NoSuchElementException;

/** Each call ahead of any that it speaks of: on a new object, on an empty PORT, on a PORT without DEALS. */
public final class AheadTest {
    private static final Check c = new Check();
    private static final long THROWN = 1L << 40;
    private static int calls = 0;

    private interface Call {
        int on(SkinLedger s);
    }

    private interface YesOrNo {
        boolean on(SkinLedger s);
    }

    private static long answer(Call call, SkinLedger s) {
        try {
            return call.on(s);
        } catch (NoSuchElementException e) {
            return THROWN;
        }
    }

    private static SkinLedger emptyPort() {
        SkinLedger s = new SkinLedger();
        c.is("port", s.port(), 0);
        return s;
    }

    private static SkinLedger noDeals() {
        return Check.at("body a 9;body b 8 kin a;kind p 1;");
    }

    private static void is(String name, Call call, long onEmpty, long onPort) {
        calls++;
        c.part("on a new object");
        c.is(name, answer(call, new SkinLedger()), onEmpty);
        c.part("on an empty PORT");
        c.is(name, answer(call, emptyPort()), onEmpty);
        c.part("on a PORT without DEALS");
        c.is(name, answer(call, noDeals()), onPort);
        c.part("on an empty PORT behind one with DEALS");
        SkinLedger s = noDeals();
        s.write(0, 1, 5, 0);
        s.year();
        c.is("port", s.port(), 0);
        c.is(name, answer(call, s), onEmpty);
    }

    private static void is(String name, Call call, long due) {
        is(name, call, due, due);
    }

    private static void isSo(String name, YesOrNo call, boolean due) {
        is(name, s -> call.on(s) ? 1 : 0, due ? 1 : 0);
    }

    private static void texts() {
        is("feed", s -> s.feed(0, 0, 0, 0, 0), 20);
        isSo("end(0)", s -> s.end(0), true);
        isSo("end(1)", s -> s.end(1), false);
        isSo("end(-1)", s -> s.end(-1), false);
        is("port", s -> s.port(), 0);
        is("fault", s -> s.fault(), 0);
        is("book", s -> s.book(), 0);
        is("skin", s -> s.skin(0), -1, 0);
        is("byteAt", s -> s.byteAt(0), -1);
        is("byteAt behind an empty text", s -> s.skin(0) * 0 + s.byteAt(0), -1);
    }

    private static void looks() {
        is("body ROOM", s -> s.body(0, 0), THROWN, 9);
        is("body kin", s -> s.body(1, 1), THROWN, 0);
        is("body lives", s -> s.body(1, 2), THROWN, 1);
        is("body LEFT", s -> s.body(1, 3), THROWN, 8);
        is("body NET", s -> s.body(1, 4), THROWN, 0);
        is("body MARKS", s -> s.body(1, 5), THROWN, 0);
        is("body lines", s -> s.body(1, 6), THROWN, 0);
        is("kind SIZE", s -> s.kind(0, 0), THROWN, 1);
        is("kind sort", s -> s.kind(0, 1), THROWN, 0);
        for (int what = 0; what <= 9; what++) {
            int told = what;
            is("deal " + what, s -> s.deal(0, told), THROWN);
        }
        is("read CREDIT", s -> s.read(0, 0), -1);
        is("read DEBT", s -> s.read(0, 1), -1);
        is("how many MARKS", s -> s.mark(0, -1), -1, 0);
        is("mark", s -> s.mark(0, 0), -1);
        is("aged", s -> s.aged(0, 0), -1, 0);
        is("who owes", s -> s.owes(0, 0), -1, 0);
        is("to whom", s -> s.owes(0, 1), -1, 0);
        is("chain to himself", s -> s.chain(0, 0), -1, 0);
        is("chain", s -> s.chain(0, 1), -1);
        is("fullest", s -> s.fullest(0), -1, 1);
        for (int what = 0; what <= 3; what++) {
            int told = what;
            is("trade " + what, s -> s.trade(0, told), 0);
            is("trade of 99 " + what, s -> s.trade(99, told), 0);
        }
        is("settled", s -> s.settled(), 0);
        is("how many between", s -> s.between(0, 1, -1), -1, 0);
        is("between", s -> s.between(0, 1, 0), -1);
        is("greatest", s -> s.greatest(0), -1);
        int[] empty = {0, 0, 1, 0, 0, 0, 0, 0, 0};
        int[] port = {2, 1, 1, 0, 0, 0, 0, 0, 0};
        for (int what = 0; what < 9; what++) {
            int told = what;
            is("count " + what, s -> s.count(told), empty[what], port[what]);
        }
    }

    private static void acts() {
        is("write", s -> s.write(0, 1, 5, 0), -1, 0);
        is("write with himself", s -> s.write(0, 0, 5, 0), -1, -11);
        is("strike", s -> s.strike(0), 4);
        is("scar the CREDIT", s -> s.scar(0, 0), 4);
        is("scar the DEBT", s -> s.scar(0, 1), 4);
        is("scar another side", s -> s.scar(0, 2), -1);
        is("ring", s -> s.ring(), -1);
        is("ringAt", s -> s.ringAt(0), -1);
        is("ringAt behind no ring()", s -> s.ring() * 0 + s.ringAt(0), -1);
        is("ringOf", s -> s.ringOf(0), -1);
        is("cut", s -> s.cut(), -1);
        is("dies", s -> s.dies(0, 1), -1, 0);
        is("dies, his own heir", s -> s.dies(0, 0), -1, -11);
        is("year", s -> s.year(), 1);
        is("undo", s -> s.undo(), -1);
        is("can", s -> s.can(0, 0), -1, 2);
        is("ringsFor", s -> s.ringsFor(0, 1, 0), -1, 0);
    }

    private static void judged() {
        is("judge", s -> s.judge(0), -1);
        is("judge lived", s -> s.judge(1), -1);
        is("judge another", s -> s.judge(2), -2);
        int[] empty = {0, 0, 0, 0, 0};
        int[] port = {0, 0, 0, 17, 0};
        for (int what = 0; what < 5; what++) {
            int told = what;
            is("judged " + what, s -> s.judged(told), -1);
            is("judged " + what + " behind another", s -> s.judge(2) * 0 + s.judged(told), -1);
            is("judged " + what + " of no BOOK", s -> s.judge(0) * 0 + s.judged(told), empty[what], port[what]);
            is("judged " + what + " of no BOOK lived", s -> s.judge(1) * 0 + s.judged(told), empty[what], port[what]);
        }
        is("undo behind no BOOK lived", s -> s.judge(1) * 0 + s.undo(), -1);
        is("lasts", s -> s.lasts(0, 0) >= 0 ? 1 : -1, -1, 1);
        is("lasts by another law", s -> s.lasts(3, 0), -1);
    }

    private static void searches() {
        is("pack", s -> s.pack(), -1);
        is("packed", s -> s.packed(0), -1);
        is("packed behind no pack()", s -> s.pack() * 0 + s.packed(0), -1);
        is("price", s -> s.price(0, 1), -1);
        is("price behind no pack()", s -> s.pack() * 0 + s.price(0, 1), -1);
        is("how many LOST", s -> s.lost(-1), 0);
        is("lost", s -> s.lost(0), -1);
        is("fits", s -> s.fits(1), 1, -1);
        is("fits of another SUM", s -> s.fits(0), -1);
        is("fit", s -> s.fit(0, 0), -1);
        is("fit behind fits()", s -> s.fits(1) * 0 + s.fit(0, 0), -1);
        is("owed SURELY", s -> s.owed(0, 0, 0), -1, 0);
        is("owed AT MOST", s -> s.owed(0, 0, 1), -1, 0);
        is("proof", s -> s.proof(0), -1, 0);
        is("witness", s -> s.witness(0), -1);
        isSo("image", s -> s.image(0), true);
        isSo("image of no such place", s -> s.image(2), false);
        isSo("restore", s -> s.restore(0), false);
        isSo("restore of the other place", s -> s.restore(1), false);
        isSo("restore of another than is kept", s -> s.image(0) && s.restore(1), false);
        isSo("restore of what is kept", s -> s.image(1) && s.restore(1), true);
    }

    public static void main(String[] args) {
        texts();
        looks();
        acts();
        judged();
        searches();
        c.is("calls", calls > 100, true);
        c.end("AheadTest");
    }
}
