import java.util.ArrayList;
import java.util.Arrays;
import java.util.List;
import java.util.NoSuchElementException;

/** The document told a second time, as slowly and plainly as can be: what SkinLedger is held against. */
final class Model {
    static final List<String> RESERVED = Arrays.asList("body", "kin", "kind", "doubled", "halved", "false", "joint",
            "line", "dot", "deal", "strike", "scar", "credit", "debt", "ring", "dies", "year");
    static final List<String> SORTS = Arrays.asList("plain", "doubled", "halved", "false", "joint");

    record Body(String name, int room, int kin) { }

    record Kind(String name, int size, String sort) { }

    record Line(String act, int a, int b, int sum, int kind) { }

    /** A PORT is told once and never changed, so that the same object is the same PORT. */
    static final class Port {
        List<Body> bodies = new ArrayList<>();
        List<Kind> kinds = new ArrayList<>();
        int line = 1;
        int dot = 0;
        int lines = 0;
    }

    static final class Deal {
        int lender, debtor, sum, kind, year, state;
        int[] bearer = new int[2];
        boolean[] scarred = new boolean[2];

        Deal copy() {
            Deal c = new Deal();
            c.lender = lender;
            c.debtor = debtor;
            c.sum = sum;
            c.kind = kind;
            c.year = year;
            c.state = state;
            c.bearer = bearer.clone();
            c.scarred = scarred.clone();
            return c;
        }
    }

    static final class Fault extends RuntimeException {
        private static final long serialVersionUID = 1;
        final int kind, place;

        Fault(int kind, int place) {
            this.kind = kind;
            this.place = place;
        }
    }

    record Token(String text, int at) { }

    final class State {
        List<Deal> deals = new ArrayList<>();
        int[] extra = new int[9];
        boolean[] dead = new boolean[9];
        int year = 0;

        State copy() {
            State c = new State();
            for (Deal d : deals) {
                c.deals.add(d.copy());
            }
            c.extra = extra.clone();
            c.dead = dead.clone();
            c.year = year;
            return c;
        }

        int size(Deal d) {
            return port.kinds.get(d.kind).size();
        }

        int left(int b) {
            int left = port.bodies.get(b).room() - extra[b];
            for (Deal d : deals) {
                for (int bearer : d.bearer) {
                    if (bearer == b) {
                        left -= size(d);
                    }
                }
            }
            return left;
        }

        boolean isRead(Deal d, int side) {
            return d.bearer[side] >= 0 && !d.scarred[side] && !dead[d.bearer[side]];
        }

        boolean isKnown(Deal d) {
            if (port.kinds.get(d.kind).sort().equals("joint")) {
                return isRead(d, 0) && isRead(d, 1);
            }
            return isRead(d, 0) || isRead(d, 1);
        }

        int net(int b) {
            int net = 0;
            for (Deal d : deals) {
                if (d.state == 0 && d.lender == b) {
                    net += value(d);
                }
                if (d.state == 0 && d.debtor == b) {
                    net -= value(d);
                }
            }
            return net;
        }

        int bearerFor(int b, int size) {
            if (left(b) >= size) {
                return b;
            }
            int kin = port.bodies.get(b).kin();
            return kin >= 0 && !dead[kin] && left(kin) >= size ? kin : -1;
        }

        int write(int lender, int debtor, int sum, int kind) {
            if (lender == debtor || dead[lender] || dead[debtor]) {
                return 1;
            }
            Deal d = new Deal();
            d.lender = lender;
            d.debtor = debtor;
            d.sum = sum;
            d.kind = kind;
            d.year = year;
            d.bearer[0] = bearerFor(lender, port.kinds.get(kind).size());
            d.bearer[1] = -1;
            if (d.bearer[0] < 0) {
                return 2;
            }
            deals.add(d);
            d.bearer[1] = bearerFor(debtor, port.kinds.get(kind).size());
            int wrong = d.bearer[1] < 0 ? 3 : deals.size() > 60 ? 7 : 0;
            if (wrong != 0) {
                deals.remove(deals.size() - 1);
            }
            return wrong;
        }

        int strike(int n) {
            if (n < 0 || n >= deals.size() || deals.get(n).state != 0) {
                return 4;
            }
            Deal d = deals.get(n);
            int[] more = new int[9];
            for (int b : d.bearer) {
                if (b >= 0 && !dead[b]) {
                    more[b] += port.line;
                }
            }
            for (int b = 0; b < port.bodies.size(); b++) {
                if (more[b] > 0 && left(b) < more[b]) {
                    return 5;
                }
            }
            for (int b = 0; b < 9; b++) {
                extra[b] += more[b];
            }
            d.state = 1;
            return 0;
        }

        int scar(int n, int side) {
            if (n < 0 || n >= deals.size() || deals.get(n).state != 0) {
                return 4;
            }
            Deal d = deals.get(n);
            if (d.bearer[side] < 0 || dead[d.bearer[side]] || d.scarred[side]) {
                return 6;
            }
            d.scarred[side] = true;
            return 0;
        }

        int year() {
            if (year == 99) {
                return 9;
            }
            year++;
            return 0;
        }

        int dies(int b, int heir) {
            if (b == heir || dead[b] || dead[heir]) {
                return 1;
            }
            dead[b] = true;
            for (Deal d : deals) {
                if (d.state == 0 && (d.lender == b || d.debtor == b)) {
                    if (d.lender == b) {
                        d.lender = heir;
                    }
                    if (d.debtor == b) {
                        d.debtor = heir;
                    }
                    if (d.lender == d.debtor) {
                        d.state = 2;
                    }
                }
            }
            return 0;
        }

        /** All RINGS, each told from its least DEAL on. */
        List<List<Integer>> rings() {
            List<List<Integer>> all = new ArrayList<>();
            for (int d = 0; d < deals.size(); d++) {
                List<Integer> path = new ArrayList<>();
                path.add(d);
                if (inRings(d)) {
                    walk(path, all);
                }
            }
            return all;
        }

        boolean inRings(int d) {
            String sort = port.kinds.get(deals.get(d).kind).sort();
            return deals.get(d).state == 0 && (sort.equals("plain") || sort.equals("joint"));
        }

        void walk(List<Integer> path, List<List<Integer>> all) {
            Deal last = deals.get(path.get(path.size() - 1));
            if (path.size() >= 2 && last.debtor == deals.get(path.get(0)).lender) {
                all.add(new ArrayList<>(path));
                return;
            }
            for (int i = path.get(0) + 1; i < deals.size() && path.size() < 5; i++) {
                if (!inRings(i) || deals.get(i).lender != last.debtor) {
                    continue;
                }
                boolean isMet = false;
                for (int p : path) {
                    isMet |= deals.get(p).lender == deals.get(i).lender;
                }
                if (!isMet) {
                    path.add(i);
                    walk(path, all);
                    path.remove(path.size() - 1);
                }
            }
        }

        int least(List<Integer> ring) {
            int least = 1000;
            for (int d : ring) {
                least = Math.min(least, deals.get(d).sum);
            }
            return least;
        }

        int frees(List<Integer> ring) {
            int frees = 0;
            for (int d : ring) {
                if (deals.get(d).sum == least(ring)) {
                    for (int b : deals.get(d).bearer) {
                        if (b >= 0 && !dead[b]) {
                            frees += size(deals.get(d)) - Math.min(port.dot, size(deals.get(d)));
                        }
                    }
                }
            }
            return frees;
        }

        List<Integer> bestRing() {
            List<List<Integer>> all = rings();
            all.sort((x, y) -> {
                if (frees(x) != frees(y)) {
                    return frees(y) - frees(x);
                }
                if (x.size() != y.size()) {
                    return x.size() - y.size();
                }
                for (int i = 0; i < x.size(); i++) {
                    if (!x.get(i).equals(y.get(i))) {
                        return x.get(i) - y.get(i);
                    }
                }
                return 0;
            });
            return all.isEmpty() ? null : all.get(0);
        }

        /** By how much it was CUT; -1: there is no RING. */
        int cut() {
            List<Integer> ring = bestRing();
            if (ring == null) {
                return -1;
            }
            int least = least(ring);
            for (int n : ring) {
                Deal d = deals.get(n);
                d.sum -= least;
                if (d.sum == 0) {
                    d.state = 2;
                    for (int side = 0; side < 2; side++) {
                        if (!dead[d.bearer[side]]) {
                            extra[d.bearer[side]] += Math.min(port.dot, size(d));
                        }
                        d.bearer[side] = -1;
                    }
                }
            }
            return least;
        }

        int line(Line l) {
            switch (l.act()) {
                case "deal": return write(l.a(), l.b(), l.sum(), l.kind());
                case "strike": return strike(l.a());
                case "scar": return scar(l.a(), l.b());
                case "ring": return cut() < 0 ? 8 : 0;
                case "dies": return dies(l.a(), l.b());
                default: return year();
            }
        }

        int open() {
            int open = 0;
            for (Deal d : deals) {
                open += d.state == 0 ? 1 : 0;
            }
            return open;
        }
    }

    int valueOf(int kind, int sum) {
        switch (port.kinds.get(kind).sort()) {
            case "doubled": return sum + sum;
            case "halved": return (sum - sum % 2) / 2;
            case "false": return 0;
            default: return sum;
        }
    }

    int value(Deal d) {
        return valueOf(d.kind, d.sum);
    }

    Port port = new Port();
    State now = new State();
    List<Line> bookLines = new ArrayList<>();
    List<Integer> tape = new ArrayList<>();
    List<State> past = new ArrayList<>();
    int fault = 0;
    List<Integer> toldRing = new ArrayList<>();
    int[] judgement = null;
    String text = "";
    int[][] packDeals = new int[0][];
    Port packPort = null;
    int[] packWays = new int[0];
    int fitWays = 0;
    List<int[]> fitBounds = new ArrayList<>();
    Object[][] images = new Object[2][];

    // ---- texts

    List<Integer> takeTape() {
        List<Integer> taken = tape;
        tape = new ArrayList<>();
        return taken;
    }

    final class Reading {
        final List<Integer> bytes;
        int at = 0;

        Reading(List<Integer> bytes) {
            this.bytes = bytes;
        }

        /** The next TOKEN; its text is "" at the end, and "?" for what is none. */
        Token next() {
            while (at < bytes.size() && (bytes.get(at) == 32 || bytes.get(at) == 10)) {
                at++;
            }
            if (at >= 600 && bytes.size() > 600) {
                return new Token("", 600);
            }
            if (at >= bytes.size()) {
                return new Token("", bytes.size());
            }
            int from = at;
            StringBuilder run = new StringBuilder();
            while (at < bytes.size() && ("" + (char) (int) bytes.get(at)).matches("[a-z0-9]")) {
                run.append((char) (int) bytes.get(at));
                at++;
            }
            if (run.length() == 0) {
                run.append(bytes.get(at) == ';' ? ';' : '?');
                at++;
            }
            String s = run.toString();
            return new Token(s.matches("[a-z]{1,7}|[0-9]{1,2}|;") ? s : "?", from);
        }

        String nameOrFault(Token t) {
            if (!t.text().matches("[a-z]+") || RESERVED.contains(t.text())) {
                throw new Fault(1, t.at());
            }
            return t.text();
        }

        int number(int least, int most) {
            Token t = next();
            if (!t.text().matches("[0-9]+")) {
                throw new Fault(1, t.at());
            }
            int n = Integer.parseInt(t.text());
            if (n < least || n > most) {
                throw new Fault(2, t.at());
            }
            return n;
        }

        String newName(Port p) {
            Token t = next();
            String name = nameOrFault(t);
            if (body(p, name) >= 0 || kind(p, name) >= 0) {
                throw new Fault(3, t.at());
            }
            return name;
        }

        int body(Port p, String name) {
            for (int b = 0; b < p.bodies.size(); b++) {
                if (p.bodies.get(b).name().equals(name)) {
                    return b;
                }
            }
            return -1;
        }

        int kind(Port p, String name) {
            for (int k = 0; k < p.kinds.size(); k++) {
                if (p.kinds.get(k).name().equals(name)) {
                    return k;
                }
            }
            return -1;
        }

        int toldBody(Port p) {
            Token t = next();
            int b = body(p, nameOrFault(t));
            if (b < 0) {
                throw new Fault(3, t.at());
            }
            return b;
        }

        int toldKind(Port p) {
            Token t = next();
            int k = kind(p, nameOrFault(t));
            if (k < 0) {
                throw new Fault(3, t.at());
            }
            return k;
        }

        void stop(Token t) {
            if (!t.text().equals(";")) {
                throw new Fault(1, t.at());
            }
        }

        Port port() {
            Port p = new Port();
            boolean line = false;
            boolean dot = false;
            while (true) {
                Token t = next();
                if (t.text().isEmpty()) {
                    if (bytes.size() > 600) {
                        throw new Fault(1, 600);
                    }
                    return p;
                }
                switch (t.text()) {
                    case "body": {
                        if (p.bodies.size() == 9) {
                            throw new Fault(4, t.at());
                        }
                        String name = newName(p);
                        int room = number(1, 99);
                        Token u = next();
                        int kin = -1;
                        if (u.text().equals("kin")) {
                            kin = toldBody(p);
                            u = next();
                        }
                        stop(u);
                        p.bodies.add(new Body(name, room, kin));
                        break;
                    }
                    case "kind": {
                        if (p.kinds.size() == 6) {
                            throw new Fault(4, t.at());
                        }
                        String name = newName(p);
                        int size = number(1, 9);
                        Token u = next();
                        String sort = "plain";
                        if (SORTS.indexOf(u.text()) > 0) {
                            sort = u.text();
                            u = next();
                        }
                        stop(u);
                        p.kinds.add(new Kind(name, size, sort));
                        break;
                    }
                    case "line":
                        if (line) {
                            throw new Fault(3, t.at());
                        }
                        line = true;
                        p.line = number(0, 9);
                        stop(next());
                        break;
                    case "dot":
                        if (dot) {
                            throw new Fault(3, t.at());
                        }
                        dot = true;
                        p.dot = number(0, 9);
                        stop(next());
                        break;
                    default:
                        throw new Fault(1, t.at());
                }
                p.lines++;
            }
        }

        List<Line> book() {
            List<Line> lines = new ArrayList<>();
            while (true) {
                Token t = next();
                if (t.text().isEmpty()) {
                    if (bytes.size() > 600) {
                        throw new Fault(1, 600);
                    }
                    return lines;
                }
                if (!Arrays.asList("deal", "strike", "scar", "ring", "dies", "year").contains(t.text())) {
                    throw new Fault(1, t.at());
                }
                if (lines.size() == 40) {
                    throw new Fault(4, t.at());
                }
                int a = 0;
                int b = 0;
                int sum = 0;
                int kind = 0;
                if (t.text().equals("deal") || t.text().equals("dies")) {
                    a = toldBody(port);
                    b = toldBody(port);
                }
                if (t.text().equals("deal")) {
                    sum = number(1, 99);
                    kind = toldKind(port);
                }
                if (t.text().equals("strike") || t.text().equals("scar")) {
                    a = number(0, 59);
                }
                if (t.text().equals("scar")) {
                    Token u = next();
                    if (!u.text().equals("credit") && !u.text().equals("debt")) {
                        throw new Fault(1, u.at());
                    }
                    b = u.text().equals("debt") ? 1 : 0;
                }
                stop(next());
                lines.add(new Line(t.text(), a, b, sum, kind));
            }
        }
    }

    int feed(int a, int b, int c, int d, int e) {
        if (tape.size() + 20 > 640) {
            return -1;
        }
        for (int n : new int[] {a, b, c, d, e}) {
            for (int i = 3; i >= 0; i--) {
                tape.add(n >>> 8 * i & 255);
            }
        }
        return tape.size();
    }

    boolean end(int n) {
        if (n < 0 || n > tape.size()) {
            return false;
        }
        tape = new ArrayList<>(tape.subList(0, n));
        return true;
    }

    int port() {
        try {
            port = new Reading(takeTape()).port();
        } catch (Fault f) {
            fault = f.kind;
            return -1 - f.place;
        }
        fault = 0;
        now = new State();
        bookLines = new ArrayList<>();
        past.clear();
        return port.lines;
    }

    int book() {
        try {
            bookLines = new Reading(takeTape()).book();
        } catch (Fault f) {
            fault = f.kind;
            return -1 - f.place;
        }
        fault = 0;
        return bookLines.size();
    }

    int fault() {
        return fault;
    }

    // ---- what is so

    boolean isBody(int b) {
        return b >= 0 && b < port.bodies.size();
    }

    boolean isKind(int k) {
        return k >= 0 && k < port.kinds.size();
    }

    boolean isDeal(int d) {
        return d >= 0 && d < now.deals.size();
    }

    int body(int b, int what) {
        if (!isBody(b) || what < 0 || what > 6) {
            throw new NoSuchElementException();
        }
        int[] facts = {port.bodies.get(b).room(), port.bodies.get(b).kin(), now.dead[b] ? 0 : 1, now.left(b),
                now.net(b), mark(b, -1), now.extra[b]};
        return facts[what];
    }

    int kind(int k, int what) {
        if (!isKind(k) || what < 0 || what > 1) {
            throw new NoSuchElementException();
        }
        return what == 0 ? port.kinds.get(k).size() : SORTS.indexOf(port.kinds.get(k).sort());
    }

    int deal(int n, int what) {
        if (!isDeal(n) || what < 0 || what > 9) {
            throw new NoSuchElementException();
        }
        Deal d = now.deals.get(n);
        int[] facts = {d.lender, d.debtor, d.sum, d.kind, d.year, d.state, d.bearer[0], d.bearer[1],
                now.isKnown(d) ? 1 : 0, value(d)};
        return facts[what];
    }

    int read(int d, int side) {
        if (!isDeal(d) || side < 0 || side > 1 || now.deals.get(d).bearer[side] < 0) {
            return -1;
        }
        return now.isRead(now.deals.get(d), side) ? 1 : 0;
    }

    int pick(List<Integer> all, int k) {
        return k == -1 ? all.size() : k >= 0 && k < all.size() ? all.get(k) : -1;
    }

    int mark(int b, int k) {
        if (!isBody(b)) {
            return -1;
        }
        List<Integer> all = new ArrayList<>();
        for (int i = 0; i < 2 * now.deals.size(); i++) {
            if (now.deals.get(i / 2).bearer[i % 2] == b) {
                all.add(i);
            }
        }
        return pick(all, k);
    }

    int aged(int b, int year) {
        if (!isBody(b) || year < 0 || year > 99) {
            return -1;
        }
        int n = 0;
        for (int k = 0; k < mark(b, -1); k++) {
            n += now.deals.get(mark(b, k) / 2).year <= year ? 1 : 0;
        }
        return n;
    }

    int owes(int b, int what) {
        if (!isBody(b) || what < 0 || what > 1) {
            return -1;
        }
        int bits = 0;
        for (int o = 0; o < port.bodies.size(); o++) {
            int n = what == 0 ? between(b, o, -1) : between(o, b, -1);
            bits |= n > 0 ? 1 << o : 0;
        }
        return bits;
    }

    int chain(int a, int b) {
        if (!isBody(a) || !isBody(b)) {
            return -1;
        }
        int n = port.bodies.size();
        int[] far = new int[n];
        Arrays.fill(far, 1000);
        far[a] = 0;
        for (int round = 0; round < n; round++) {
            for (Deal d : now.deals) {
                if (d.state == 0) {
                    far[d.lender] = Math.min(far[d.lender], far[d.debtor] + 1);
                }
            }
        }
        return far[b] >= 1000 ? -1 : far[b];
    }

    int fullest(int k) {
        List<Integer> all = new ArrayList<>();
        for (int b = 0; b < port.bodies.size(); b++) {
            if (!now.dead[b]) {
                all.add(b);
            }
        }
        all.sort((x, y) -> now.left(x) - now.left(y));
        return k < 0 ? -1 : pick(all, k);
    }

    int trade(int year, int what) {
        if (year < 0 || year > 99 || what < 0 || what > 3) {
            return -1;
        }
        int sum = 0;
        for (Deal d : now.deals) {
            sum += d.year == year && (what == 0 || what == d.state + 1) ? value(d) : 0;
        }
        return sum;
    }

    int settled() {
        List<Integer> nets = new ArrayList<>();
        for (int b = 0; b < port.bodies.size(); b++) {
            nets.add(now.net(b));
        }
        return settle(nets, 0);
    }

    /** The first that is not even is paid or pays with each other one of the other sign in turn. */
    int settle(List<Integer> nets, int i) {
        while (i < nets.size() && nets.get(i) == 0) {
            i++;
        }
        if (i == nets.size()) {
            return 0;
        }
        int best = 1000;
        int net = nets.get(i);
        for (int j = i + 1; j < nets.size(); j++) {
            int other = nets.get(j);
            if (other != 0 && (other < 0) != (net < 0)) {
                nets.set(j, other + net);
                best = Math.min(best, 1 + settle(nets, i + 1));
                nets.set(j, other);
            }
        }
        return best;
    }

    int between(int lender, int debtor, int k) {
        if (!isBody(lender) || !isBody(debtor)) {
            return -1;
        }
        List<Integer> all = new ArrayList<>();
        for (int d = 0; d < now.deals.size(); d++) {
            Deal e = now.deals.get(d);
            if (e.state == 0 && e.lender == lender && e.debtor == debtor) {
                all.add(d);
            }
        }
        return pick(all, k);
    }

    int greatest(int k) {
        List<Integer> all = new ArrayList<>();
        for (int d = 0; d < now.deals.size(); d++) {
            if (now.deals.get(d).state == 0) {
                all.add(d);
            }
        }
        all.sort((x, y) -> value(now.deals.get(y)) - value(now.deals.get(x)));
        return k < 0 ? -1 : pick(all, k);
    }

    int skin(int b) {
        if (!isBody(b)) {
            return -1;
        }
        text = "";
        for (int k = 0; k < mark(b, -1); k++) {
            int m = mark(b, k);
            Deal d = now.deals.get(m / 2);
            text += m % 2 == 0 ? "+ " + port.bodies.get(d.debtor).name() : "- " + port.bodies.get(d.lender).name();
            text += " " + (d.scarred[m % 2] ? "?" : "" + d.sum) + " " + port.kinds.get(d.kind).name();
            text += (d.state == 1 ? "x" : d.state == 2 ? "o" : "") + ";";
        }
        return text.length();
    }

    int byteAt(int i) {
        return i >= 0 && i < text.length() ? text.charAt(i) : -1;
    }

    // ---- ACTS

    void keep(State before) {
        past.add(before);
        if (past.size() > 8) {
            past.remove(0);
        }
    }

    int write(int lender, int debtor, int sum, int kind) {
        if (!isBody(lender) || !isBody(debtor) || !isKind(kind) || sum < 1 || sum > 99) {
            return -1;
        }
        State before = now.copy();
        int wrong = now.write(lender, debtor, sum, kind);
        if (wrong != 0) {
            return -10 - wrong;
        }
        keep(before);
        return now.deals.size() - 1;
    }

    int strike(int d) {
        State before = now.copy();
        int wrong = now.strike(d);
        if (wrong == 0) {
            keep(before);
        }
        return wrong;
    }

    int scar(int d, int side) {
        if (side < 0 || side > 1) {
            return -1;
        }
        State before = now.copy();
        int wrong = now.scar(d, side);
        if (wrong == 0) {
            keep(before);
        }
        return wrong;
    }

    int cut() {
        State before = now.copy();
        int by = now.cut();
        if (by >= 0) {
            keep(before);
        }
        return by;
    }

    int dies(int b, int heir) {
        if (!isBody(b) || !isBody(heir)) {
            return -1;
        }
        State before = now.copy();
        int wrong = now.dies(b, heir);
        if (wrong != 0) {
            return -10 - wrong;
        }
        keep(before);
        int his = 0;
        for (int i = 0; i < before.deals.size(); i++) {
            Deal was = before.deals.get(i);
            his += was.state == 0 && (was.lender == b || was.debtor == b) && now.deals.get(i).state == 0 ? 1 : 0;
        }
        return his;
    }

    int year() {
        State before = now.copy();
        if (now.year() != 0) {
            return -1;
        }
        keep(before);
        return now.year;
    }

    int undo() {
        if (past.isEmpty()) {
            return -1;
        }
        now = past.remove(past.size() - 1);
        return past.size();
    }

    // ---- RINGS

    int ring() {
        List<Integer> best = now.bestRing();
        if (best == null) {
            return -1;
        }
        toldRing = best;
        return now.frees(best);
    }

    int ringAt(int i) {
        return i < 0 ? -1 : pick(toldRing, i);
    }

    int ringOf(int d) {
        int best = -1;
        for (List<Integer> r : now.rings()) {
            if (r.contains(d)) {
                best = Math.max(best, now.frees(r));
            }
        }
        return best;
    }

    int can(int lender, int kind) {
        if (!isBody(lender) || !isKind(kind)) {
            return -1;
        }
        int bits = 0;
        for (int b = 0; b < port.bodies.size(); b++) {
            bits |= now.copy().write(lender, b, 1, kind) == 0 ? 1 << b : 0;
        }
        return bits;
    }

    int ringsFor(int lender, int debtor, int kind) {
        if (!isBody(lender) || !isBody(debtor) || !isKind(kind)) {
            return -1;
        }
        State s = now.copy();
        int n = 0;
        while (true) {
            int wrong = s.write(lender, debtor, 1, kind);
            if (wrong == 0) {
                return n;
            }
            if (wrong == 1 || s.cut() < 0) {
                return -1;
            }
            n++;
        }
    }

    // ---- judged, packed

    int judge(int lives) {
        if (lives != 0 && lives != 1) {
            return -2;
        }
        State s = now.copy();
        int done = 0;
        int wrong = 0;
        for (Line l : bookLines) {
            wrong = s.line(l);
            if (wrong != 0) {
                break;
            }
            done++;
        }
        int left = 0;
        for (int b = 0; b < port.bodies.size(); b++) {
            left += s.dead[b] ? 0 : s.left(b);
        }
        judgement = new int[] {wrong, done, s.open(), left, s.year};
        if (lives == 1 && done > 0) {
            keep(now);
            now = s;
        }
        return wrong == 0 ? -1 : done;
    }

    int judged(int what) {
        return judgement != null && what >= 0 && what < 5 ? judgement[what] : -1;
    }

    int[] packing(int b, int more) {
        int n = packDeals.length;
        int[] best = new int[n];
        Arrays.fill(best, 4);
        int most = 0;
        int all = (int) Math.pow(5, n);
        for (int code = 0; code < all; code++) {
            int[] ways = new int[n];
            int rest = code;
            int written = 0;
            for (int i = n - 1; i >= 0; i--) {
                ways[i] = rest % 5;
                rest /= 5;
                written += ways[i] < 4 ? 1 : 0;
            }
            if (written > most && isPacked(ways, b, more)) {
                most = written;
                best = ways;
            }
        }
        return best;
    }

    boolean isPacked(int[] ways, int b, int more) {
        int[] used = new int[9];
        for (int i = 0; i < ways.length; i++) {
            if (ways[i] == 4) {
                continue;
            }
            int lender = packDeals[i][0];
            int debtor = packDeals[i][1];
            int credit = ways[i] % 2 == 1 ? port.bodies.get(lender).kin() : lender;
            int debt = ways[i] >= 2 ? port.bodies.get(debtor).kin() : debtor;
            if (lender == debtor || credit < 0 || debt < 0) {
                return false;
            }
            for (int who : new int[] {lender, debtor, credit, debt}) {
                if (now.dead[who]) {
                    return false;
                }
            }
            used[credit] += port.kinds.get(packDeals[i][2]).size();
            used[debt] += port.kinds.get(packDeals[i][2]).size();
        }
        for (int c = 0; c < port.bodies.size(); c++) {
            if (used[c] > 0 && used[c] > now.left(c) + (c == b ? more : 0)) {
                return false;
            }
        }
        return true;
    }

    int countOf(int[] ways) {
        int n = 0;
        for (int w : ways) {
            n += w < 4 ? 1 : 0;
        }
        return n;
    }

    int pack() {
        List<Integer> told = takeTape();
        int n = told.size() / 3;
        if (told.size() % 3 != 0 || n < 1 || n > 6) {
            return -1;
        }
        int[][] deals = new int[n][];
        for (int i = 0; i < n; i++) {
            deals[i] = new int[] {told.get(3 * i), told.get(3 * i + 1), told.get(3 * i + 2)};
            if (!isBody(deals[i][0]) || !isBody(deals[i][1]) || !isKind(deals[i][2])) {
                return -1;
            }
        }
        packDeals = deals;
        packPort = port;
        packWays = packing(-1, 0);
        return countOf(packWays);
    }

    int packed(int i) {
        return i >= 0 && i < packWays.length && packWays[i] < 4 ? packWays[i] : -1;
    }

    int price(int b, int n) {
        if (!isBody(b) || n < 1 || n > 99 || packPort == null || packPort != port) {
            return -1;
        }
        return countOf(packing(b, n)) - countOf(packing(-1, 0));
    }

    // ---- LOST, OWED

    List<Integer> allLost() {
        List<Integer> all = new ArrayList<>();
        for (int d = 0; d < now.deals.size(); d++) {
            Deal e = now.deals.get(d);
            if (e.state == 0 && !now.isKnown(e) && !port.kinds.get(e.kind).sort().equals("false")) {
                all.add(d);
            }
        }
        return all;
    }

    int lost(int k) {
        return pick(allLost(), k);
    }

    int fits(int most) {
        List<Integer> told = takeTape();
        List<Integer> lost = allLost();
        if (most < 1 || most > 20 || told.size() != 2 * port.bodies.size() || lost.size() > 4) {
            return -1;
        }
        fitWays = 0;
        fitBounds = new ArrayList<>();
        for (int i = 0; i < lost.size(); i++) {
            fitBounds.add(new int[] {1000, 0});
        }
        int all = (int) Math.pow(most, lost.size());
        int[] nets = new int[port.bodies.size()];
        for (int code = 0; code < all; code++) {
            Arrays.fill(nets, 0);
            for (int d = 0; d < now.deals.size(); d++) {
                Deal e = now.deals.get(d);
                if (e.state == 0 && !lost.contains(d)) {
                    nets[e.lender] += value(e);
                    nets[e.debtor] -= value(e);
                }
            }
            int rest = code;
            int[] sums = new int[lost.size()];
            for (int i = 0; i < sums.length; i++) {
                sums[i] = 1 + rest % most;
                rest /= most;
                Deal e = now.deals.get(lost.get(i));
                nets[e.lender] += valueOf(e.kind, sums[i]);
                nets[e.debtor] -= valueOf(e.kind, sums[i]);
            }
            boolean fits = true;
            for (int b = 0; b < nets.length; b++) {
                fits &= now.dead[b] || nets[b] == told.get(2 * b) * 256 + told.get(2 * b + 1) - 10000;
            }
            if (fits) {
                fitWays++;
                for (int i = 0; i < sums.length; i++) {
                    fitBounds.get(i)[0] = Math.min(fitBounds.get(i)[0], sums[i]);
                    fitBounds.get(i)[1] = Math.max(fitBounds.get(i)[1], sums[i]);
                }
            }
        }
        return fitWays;
    }

    int fit(int i, int what) {
        return i >= 0 && i < fitBounds.size() && fitWays > 0 && (what == 0 || what == 1) ? fitBounds.get(i)[what] : -1;
    }

    boolean isKnownBy(Deal d, int found) {
        boolean[] told = new boolean[2];
        for (int side = 0; side < 2; side++) {
            told[side] = d.bearer[side] >= 0 && !d.scarred[side] && (found & 1 << d.bearer[side]) != 0;
        }
        return port.kinds.get(d.kind).sort().equals("joint") ? told[0] && told[1] : told[0] || told[1];
    }

    int owed(int b, int found, int what) {
        if (!isBody(b) || found < 0 || found > (1 << port.bodies.size()) - 1 || what < 0 || what > 1) {
            return -1;
        }
        int sure = 0;
        int most = 0;
        for (Deal d : now.deals) {
            if (d.state != 0 || d.lender != b) {
                continue;
            }
            boolean isOn = false;
            for (int bearer : d.bearer) {
                isOn |= bearer >= 0 && (found & 1 << bearer) != 0;
            }
            if (isKnownBy(d, found)) {
                sure += value(d);
                most += value(d);
            } else if (isOn) {
                most += valueOf(d.kind, 99);
            }
        }
        return what == 0 ? sure : most;
    }

    /** All sets, the fewest first, then as bits. */
    List<Integer> sets() {
        List<Integer> all = new ArrayList<>();
        for (int bits = 0; bits <= 9; bits++) {
            for (int set = 0; set < 1 << port.bodies.size(); set++) {
                if (Integer.bitCount(set) == bits) {
                    all.add(set);
                }
            }
        }
        return all;
    }

    int proof(int b) {
        if (isBody(b)) {
            for (int set : sets()) {
                if (owed(b, set, 0) == owed(b, (1 << port.bodies.size()) - 1, 0)) {
                    return set;
                }
            }
        }
        return -1;
    }

    int witness(int d) {
        if (isDeal(d)) {
            for (int set : sets()) {
                if (isKnownBy(now.deals.get(d), set)) {
                    return set;
                }
            }
        }
        return -1;
    }

    int x;

    int draw(int n) {
        x = x * 1103515245 + 12345;
        return (x >>> 8) % n;
    }

    int lasts(int law, int seed) {
        if (law < 0 || law > 2 || port.bodies.isEmpty() || port.kinds.isEmpty()) {
            return -1;
        }
        State s = now.copy();
        List<Integer> mine = new ArrayList<>();
        x = seed;
        int refused = 0;
        for (int round = 1; round <= 200; round++) {
            int lender = draw(port.bodies.size());
            int debtor = draw(port.bodies.size());
            int kind = draw(port.kinds.size());
            int sum = draw(99) + 1;
            if (law == 1) {
                for (int i = mine.size() - 1; i >= 0; i--) {
                    if (s.deals.get(mine.get(i)).state == 0) {
                        s.strike(mine.get(i));
                        break;
                    }
                }
            }
            int wrong = s.write(lender, debtor, sum, kind);
            if (wrong == 0) {
                mine.add(s.deals.size() - 1);
                if (law == 2) {
                    s.cut();
                }
            } else if (wrong != 1) {
                refused++;
                if (refused == 10) {
                    break;
                }
            }
        }
        return mine.size();
    }

    // ---- images

    boolean image(int k) {
        if (k < 0 || k > 1) {
            return false;
        }
        images[k] = new Object[] {port, now.copy(), bookLines};
        return true;
    }

    @SuppressWarnings("unchecked")
    boolean restore(int k) {
        if (k < 0 || k > 1 || images[k] == null) {
            return false;
        }
        port = (Port) images[k][0];
        now = ((State) images[k][1]).copy();
        bookLines = (List<Line>) images[k][2];
        past.clear();
        return true;
    }

    int count(int what) {
        switch (what) {
            case 0: return port.bodies.size();
            case 1: return port.kinds.size();
            case 2: return port.line;
            case 3: return port.dot;
            case 4: return now.deals.size();
            case 5: return now.open();
            case 6: return now.year;
            case 7: return bookLines.size();
            case 8: return tape.size();
            default: return -1;
        }
    }
}
