import java.util.NoSuchElementException;

/** A SkinLedger and a Model that are asked the same calls. */
final class Both {
    static final long THROWN = Long.MIN_VALUE;
    static final String[] CALLS = {"feed", "end", "port", "fault", "body", "kind", "deal", "read", "mark", "write",
        "strike", "scar", "ring", "ringAt", "ringOf", "cut", "dies", "year", "undo", "can", "ringsFor", "aged",
        "owes", "chain", "fullest", "trade", "settled", "skin", "byteAt", "between", "greatest", "book", "judge",
        "judged", "pack", "packed", "price", "lost", "fits", "fit", "owed", "proof", "witness", "lasts", "image",
        "restore", "count"};

    final SkinLedger ledger = new SkinLedger();
    final Model model = new Model();
    final StringBuilder told = new StringBuilder();
    final long[] asked = new long[CALLS.length];
    int calls = 0;
    int wrong = 0;

    /** The answer of both; a run stops at the first that is not like the other's. */
    long ask(String call, int... args) {
        int[] a = java.util.Arrays.copyOf(args, 5);
        long got = fromLedger(call, a);
        long due = fromModel(call, a);
        calls++;
        told.append(call).append(java.util.Arrays.toString(args)).append(" = ").append(got).append('\n');
        if (got != due) {
            wrong++;
            System.out.println(told + "due is " + due);
        }
        return got;
    }

    private static long bit(boolean b) {
        return b ? 1 : 0;
    }

    private long fromLedger(String call, int[] a) {
        SkinLedger s = ledger;
        try {
            switch (call) {
                case "feed": return s.feed(a[0], a[1], a[2], a[3], a[4]);
                case "end": return bit(s.end(a[0]));
                case "port": return s.port();
                case "fault": return s.fault();
                case "body": return s.body(a[0], a[1]);
                case "kind": return s.kind(a[0], a[1]);
                case "deal": return s.deal(a[0], a[1]);
                case "read": return s.read(a[0], a[1]);
                case "mark": return s.mark(a[0], a[1]);
                case "write": return s.write(a[0], a[1], a[2], a[3]);
                case "strike": return s.strike(a[0]);
                case "scar": return s.scar(a[0], a[1]);
                case "ring": return s.ring();
                case "ringAt": return s.ringAt(a[0]);
                case "ringOf": return s.ringOf(a[0]);
                case "cut": return s.cut();
                case "dies": return s.dies(a[0], a[1]);
                case "year": return s.year();
                case "undo": return s.undo();
                case "can": return s.can(a[0], a[1]);
                case "ringsFor": return s.ringsFor(a[0], a[1], a[2]);
                case "aged": return s.aged(a[0], a[1]);
                case "owes": return s.owes(a[0], a[1]);
                case "chain": return s.chain(a[0], a[1]);
                case "fullest": return s.fullest(a[0]);
                case "trade": return s.trade(a[0], a[1]);
                case "settled": return s.settled();
                case "skin": return s.skin(a[0]);
                case "byteAt": return s.byteAt(a[0]);
                case "between": return s.between(a[0], a[1], a[2]);
                case "greatest": return s.greatest(a[0]);
                case "book": return s.book();
                case "judge": return s.judge(a[0]);
                case "judged": return s.judged(a[0]);
                case "pack": return s.pack();
                case "packed": return s.packed(a[0]);
                case "price": return s.price(a[0], a[1]);
                case "lost": return s.lost(a[0]);
                case "fits": return s.fits(a[0]);
                case "fit": return s.fit(a[0], a[1]);
                case "owed": return s.owed(a[0], a[1], a[2]);
                case "proof": return s.proof(a[0]);
                case "witness": return s.witness(a[0]);
                case "lasts": return s.lasts(a[0], a[1]);
                case "image": return bit(s.image(a[0]));
                case "restore": return bit(s.restore(a[0]));
                case "count": return s.count(a[0]);
                default: throw new IllegalArgumentException(call);
            }
        } catch (NoSuchElementException e) {
            return THROWN;
        }
    }

    private long fromModel(String call, int[] a) {
        Model s = model;
        try {
            switch (call) {
                case "feed": return s.feed(a[0], a[1], a[2], a[3], a[4]);
                case "end": return bit(s.end(a[0]));
                case "port": return s.port();
                case "fault": return s.fault();
                case "body": return s.body(a[0], a[1]);
                case "kind": return s.kind(a[0], a[1]);
                case "deal": return s.deal(a[0], a[1]);
                case "read": return s.read(a[0], a[1]);
                case "mark": return s.mark(a[0], a[1]);
                case "write": return s.write(a[0], a[1], a[2], a[3]);
                case "strike": return s.strike(a[0]);
                case "scar": return s.scar(a[0], a[1]);
                case "ring": return s.ring();
                case "ringAt": return s.ringAt(a[0]);
                case "ringOf": return s.ringOf(a[0]);
                case "cut": return s.cut();
                case "dies": return s.dies(a[0], a[1]);
                case "year": return s.year();
                case "undo": return s.undo();
                case "can": return s.can(a[0], a[1]);
                case "ringsFor": return s.ringsFor(a[0], a[1], a[2]);
                case "aged": return s.aged(a[0], a[1]);
                case "owes": return s.owes(a[0], a[1]);
                case "chain": return s.chain(a[0], a[1]);
                case "fullest": return s.fullest(a[0]);
                case "trade": return s.trade(a[0], a[1]);
                case "settled": return s.settled();
                case "skin": return s.skin(a[0]);
                case "byteAt": return s.byteAt(a[0]);
                case "between": return s.between(a[0], a[1], a[2]);
                case "greatest": return s.greatest(a[0]);
                case "book": return s.book();
                case "judge": return s.judge(a[0]);
                case "judged": return s.judged(a[0]);
                case "pack": return s.pack();
                case "packed": return s.packed(a[0]);
                case "price": return s.price(a[0], a[1]);
                case "lost": return s.lost(a[0]);
                case "fits": return s.fits(a[0]);
                case "fit": return s.fit(a[0], a[1]);
                case "owed": return s.owed(a[0], a[1], a[2]);
                case "proof": return s.proof(a[0]);
                case "witness": return s.witness(a[0]);
                case "lasts": return s.lasts(a[0], a[1]);
                case "image": return bit(s.image(a[0]));
                case "restore": return bit(s.restore(a[0]));
                case "count": return s.count(a[0]);
                default: throw new IllegalArgumentException(call);
            }
        } catch (NoSuchElementException e) {
            return THROWN;
        }
    }
}
