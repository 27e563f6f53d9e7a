import java.util.ArrayList;
import java.util.List;

/** Long mixed runs of calls, the same each time, in which SkinLedger answers as the Model does. */
public final class ModelRunsTest {
    private static long state;

    static int below(int n) {
        state += 0x9E3779B97F4A7C15L;
        long z = state;
        z = (z ^ z >>> 30) * 0xBF58476D1CE4E5B9L;
        z = (z ^ z >>> 27) * 0x94D049BB133111EBL;
        z ^= z >>> 31;
        return (int) Math.floorMod(z, (long) n);
    }

    static <T> T one(List<T> of) {
        return of.get(below(of.size()));
    }

    static final String[] NAMES = {"a", "bo", "cat", "dora", "ellen", "frieda", "gunther", "h", "i", "j", "bodys", "ki"};
    static final String[] KINDS = {"p", "q", "loan", "mortga", "pledges", "t", "u"};
    static final String[] SORTS = {"", "", "", " joint", " doubled", " halved", " false"};

    private final Both both = new Both();
    private final int bodies;
    private final int kinds;
    private final int tight;
    private String portText;

    ModelRunsTest(int seed) {
        state = seed * 7919L;
        bodies = below(10) == 0 ? 9 : 2 + below(5);
        kinds = 1 + below(4);
        tight = below(3);
    }

    String blanks() {
        return below(6) == 0 ? below(2) == 0 ? "\n" : "  " : "";
    }

    String makePort() {
        StringBuilder s = new StringBuilder();
        for (int b = 0; b < bodies; b++) {
            int room = tight == 0 ? 1 + below(12) : tight == 1 ? 8 + below(30) : 60 + below(40);
            s.append("body ").append(NAMES[b]).append(' ').append(room);
            if (b > 0 && below(2) == 0) {
                s.append(" kin ").append(NAMES[below(b)]);
            }
            s.append(blanks()).append(';').append(blanks());
        }
        for (int k = 0; k < kinds; k++) {
            int size = tight == 2 ? 1 : 1 + below(4);
            s.append("kind ").append(KINDS[k]).append(' ').append(size).append(SORTS[below(SORTS.length)]).append(';');
        }
        if (below(2) == 0) {
            s.append("line ").append(below(3)).append(';');
        }
        if (below(2) == 0) {
            s.append("dot ").append(below(4)).append(blanks()).append(';');
        }
        return s.toString();
    }

    String makeBook() {
        StringBuilder s = new StringBuilder();
        int lines = below(4) == 0 ? below(45) : 1 + below(8);
        for (int i = 0; i < lines; i++) {
            switch (below(12)) {
                case 0: s.append("ring"); break;
                case 1: s.append("strike ").append(below(6)); break;
                case 2: s.append("scar ").append(below(6)).append(below(2) == 0 ? " credit" : " debt"); break;
                case 3: s.append("year"); break;
                case 4: s.append("dies ").append(NAMES[below(bodies)]).append(' ').append(NAMES[below(bodies)]); break;
                default:
                    s.append("deal ").append(NAMES[below(bodies)]).append(' ').append(NAMES[below(bodies)]);
                    s.append(' ').append(1 + below(99)).append(' ').append(KINDS[below(kinds)]);
            }
            s.append(blanks()).append(";").append(blanks());
        }
        return s.toString();
    }

    /** A text with some of it lost, doubled or changed. */
    String spoilt(String text) {
        StringBuilder s = new StringBuilder(text);
        for (int n = 1 + below(2); n > 0 && s.length() > 0; n--) {
            int at = below(s.length());
            switch (below(7)) {
                case 0: s.deleteCharAt(at); break;
                case 1: s.insert(at, (char) ('a' + below(26))); break;
                case 2: s.insert(at, (char) ('0' + below(10))); break;
                case 3: s.setLength(at); break;
                case 4: s.insert(at, one(Model.RESERVED)); break;
                case 5: s.setCharAt(at, (char) below(256)); break;
                default: s.insert(at, s.substring(at, Math.min(s.length(), at + 1 + below(30))));
            }
        }
        if (below(6) == 0) {
            int to = 590 + below(40);
            while (s.length() < to) {
                s.insert(0, ' ');
            }
        }
        return s.toString();
    }

    void feedBytes(int[] bytes) {
        both.ask("end", 0);
        for (int i = 0; i < bytes.length; i += 20) {
            int[] five = new int[5];
            for (int j = 0; j < 20 && i + j < bytes.length; j++) {
                five[j / 4] |= bytes[i + j] << 24 - 8 * (j % 4);
            }
            both.ask("feed", five);
        }
        both.ask("end", bytes.length);
    }

    void feedText(String s) {
        String fit = s.length() > 640 ? s.substring(0, 640) : s;
        int[] bytes = new int[fit.length()];
        for (int i = 0; i < bytes.length; i++) {
            bytes[i] = fit.charAt(i) & 255;
        }
        feedBytes(bytes);
    }

    int some(int n) {
        return below(40) == 0 ? below(3) - 2 + below(2) * (n + 2) : below(Math.max(1, n));
    }

    int deals() {
        return both.model.now.deals.size();
    }

    void act() {
        switch (below(20)) {
            case 0: both.ask("strike", some(deals())); break;
            case 1: both.ask("scar", some(deals()), some(2)); break;
            case 2: both.ask("scar", some(deals()), some(2)); break;
            case 3: both.ask("cut"); break;
            case 4:
                if (below(6) == 0) {
                    both.ask("dies", some(bodies), some(bodies));
                }
                break;
            case 5: both.ask("year"); break;
            case 6: both.ask("undo"); break;
            default:
                int sum = below(3) == 0 ? 1 + below(99) : below(50) == 0 ? below(200) - 50 : 1 + below(12);
                both.ask("write", some(bodies), some(bodies), sum, some(kinds));
        }
    }

    void packing() {
        int n = below(10) == 0 ? below(8) : 1 + below(4);
        int[] bytes = new int[3 * n + (below(20) == 0 ? below(3) : 0)];
        for (int i = 0; i < bytes.length; i++) {
            bytes[i] = i % 3 == 2 ? below(kinds) : below(bodies);
        }
        if (bytes.length > 0 && below(30) == 0) {
            bytes[below(bytes.length)] = below(256);
        }
        feedBytes(bytes);
        both.ask("pack");
        for (int i = -1; i <= n; i++) {
            both.ask("packed", i);
        }
        for (int b = 0; b < bodies; b++) {
            both.ask("price", b, 1 + below(6));
        }
    }

    void fitting() {
        int most = below(20) == 0 ? below(24) - 1 : 1 + below(20);
        List<Integer> lost = both.model.allLost();
        int[] bytes = new int[2 * bodies];
        int[] sums = new int[lost.size()];
        for (int i = 0; i < sums.length; i++) {
            Model.Deal d = both.model.now.deals.get(lost.get(i));
            sums[i] = d.sum;
            d.sum = 1 + below(Math.max(1, most));
        }
        for (int b = 0; b < bodies && b < both.model.port.bodies.size(); b++) {
            int told = both.model.now.net(b) + 10000 + (below(30) == 0 ? 1 : 0);
            if (both.model.now.dead[b]) {
                told = below(65536);
            }
            bytes[2 * b] = told >> 8 & 255;
            bytes[2 * b + 1] = told & 255;
        }
        for (int i = 0; i < sums.length; i++) {
            both.model.now.deals.get(lost.get(i)).sum = sums[i];
        }
        feedBytes(below(40) == 0 ? new int[bytes.length + 1 - below(3)] : bytes);
        both.ask("fits", most);
        for (int i = 0; i < 5; i++) {
            both.ask("fit", i - below(2), below(3) - below(2));
        }
    }

    void texts() {
        switch (below(8)) {
            case 0:
                feedText(spoilt(portText));
                both.ask("port");
                both.ask("fault");
                break;
            case 1: case 2:
                feedText(spoilt(makeBook()));
                both.ask("book");
                both.ask("fault");
                break;
            default:
                feedText(makeBook());
                both.ask("book");
                both.ask("fault");
                both.ask("judge", below(2));
                for (int what = -1; what <= 5; what++) {
                    both.ask("judged", what);
                }
        }
    }

    void skins() {
        long n = both.ask("skin", some(bodies));
        for (int i = -1; i <= n && i < 30; i++) {
            both.ask("byteAt", i);
        }
        both.ask("byteAt", (int) n);
        both.ask("byteAt", (int) n - 1);
    }

    void rings() {
        both.ask("ring");
        for (int i = -1; i < 6; i++) {
            both.ask("ringAt", i);
        }
        both.ask("ringOf", some(deals()));
        both.ask("ringsFor", some(bodies), some(bodies), some(kinds));
    }

    void look() {
        switch (below(24)) {
            case 0: both.ask("body", some(bodies), some(7)); break;
            case 1: both.ask("kind", some(kinds), some(2)); break;
            case 2: case 3: both.ask("deal", some(deals()), some(10)); break;
            case 4: both.ask("read", some(deals()), some(2)); break;
            case 5: both.ask("mark", some(bodies), below(8) - 1); break;
            case 6: both.ask("can", some(bodies), some(kinds)); break;
            case 7: both.ask("aged", some(bodies), some(5)); break;
            case 8: both.ask("owes", some(bodies), some(2)); break;
            case 9: both.ask("chain", some(bodies), some(bodies)); break;
            case 10: both.ask("fullest", some(bodies)); break;
            case 11: both.ask("trade", some(6), some(4)); break;
            case 12: both.ask("settled"); break;
            case 13: both.ask("between", some(bodies), some(bodies), below(4) - 1); break;
            case 14: both.ask("greatest", some(deals())); break;
            case 15: both.ask("lost", below(5) - 1); break;
            case 16: both.ask("owed", some(bodies), some(1 << bodies), some(2)); break;
            case 17: both.ask("proof", some(bodies)); break;
            case 18: both.ask("witness", some(deals())); break;
            case 19: both.ask("lasts", some(3), below(1 << 30) * 4 + below(4)); break;
            case 20: both.ask("count", below(11) - 1); break;
            case 21: both.ask("price", some(bodies), some(100)); break;
            case 22: both.ask("image", some(2)); break;
            default:
                if (below(4) == 0) {
                    both.ask("restore", some(2));
                }
        }
    }

    void step() {
        int kind = below(40);
        if (kind == 0) {
            texts();
        } else if (kind == 1) {
            packing();
        } else if (kind == 2) {
            fitting();
        } else if (kind == 3) {
            skins();
        } else if (kind < 6) {
            rings();
        } else if (kind < 24) {
            act();
        } else {
            look();
        }
        if (below(300) == 0) {
            portText = makePort();
            feedText(portText);
            both.ask("port");
        }
    }

    boolean run() {
        portText = makePort();
        for (int i = 0; i < 5; i++) {
            look();
        }
        feedText(portText);
        both.ask("port");
        int writes = tight == 2 ? 60 : 0;
        for (int i = 0; i < writes; i++) {
            act();
        }
        while (both.calls < 440 && both.wrong == 0) {
            step();
        }
        return both.wrong == 0;
    }

    public static void main(String[] args) {
        int runs = args.length > 0 ? Integer.parseInt(args[0]) : 400;
        int from = args.length > 1 ? Integer.parseInt(args[1]) : 1;
        List<Integer> wrong = new ArrayList<>();
        for (int seed = from; seed < from + runs && wrong.size() < 3; seed++) {
            if (!new ModelRunsTest(seed).run()) {
                wrong.add(seed);
            }
        }
        System.out.println(wrong.isEmpty() ? runs + " runs are as the model's" : "runs not as the model's: " + wrong);
        if (!wrong.isEmpty()) {
            System.exit(1);
        }
    }
}
