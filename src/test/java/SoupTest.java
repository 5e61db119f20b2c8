import java.util.Random;

/** Promises 8, 9 and 34: rows of TOKENS at random, mostly ones that can stand, read by the program and by the Model. */
public final class SoupTest {
    private static final Check CHECK = new Check();
    private static final String[] STARTS = {"insure", "set", "pay", "needy", "bar", "suit", "like"};
    private static final String[] PARTS = {"0", "1", "7", "12", "99999", "age", "wage", "stamps", "wait", "court", "paid"};
    private static final String[] JOINTS = {"+", "-", "*", "/", "<", "=", "and", "or", "unless", ")", ";", ",", "bar"};
    private static final String[] ODD = {"100000", "8", "hello", "not", "(", ")", "?", "\t", "Age", ";", "set", "or", "000007",
        "()", "not not not not not not not", "((((((", "<", ""};

    private final Random random;

    private SoupTest(long seed) {
        random = new Random(seed);
    }

    public static void main(String[] args) {
        int runs = args.length > 0 ? Integer.parseInt(args[0]) : 200;
        for (int seed = 1; seed <= runs; seed++) {
            new SoupTest(seed).run();
        }
        CHECK.end();
    }

    private String one(String... of) {
        return of[random.nextInt(of.length)];
    }

    private boolean oneOf(int n) {
        return random.nextInt(n) == 0;
    }

    /** A part, with parentheses and 'not' ahead of it now and then. */
    private void part(StringBuilder s, int deep) {
        if (oneOf(40)) {
            s.append(one(ODD)).append(' ');
        }
        while (oneOf(6)) {
            s.append("not ");
        }
        if (oneOf(3) && deep < 8) {
            s.append("(");
            expression(s, deep + 1);
            s.append(oneOf(30) ? "" : ")");
        } else {
            s.append(one(PARTS)).append(oneOf(9) ? "\n" : " ");
        }
    }

    private void expression(StringBuilder s, int deep) {
        part(s, deep);
        for (int i = 0; i < 4 && oneOf(2); i++) {
            s.append(oneOf(25) ? one(JOINTS) : one("+", "-", "*", "/", "and", "or")).append(' ');
            part(s, deep);
        }
        if (oneOf(5)) {
            s.append(one("<", "=")).append(one(PARTS)).append(' ');
        }
    }

    private void clause(StringBuilder s) {
        String start = oneOf(40) ? one(ODD) : one(STARTS);
        s.append(start).append(' ');
        if (start.equals("insure")) {
            s.append(random.nextInt(8));
            for (int i = 0; i < 3 && oneOf(2); i++) {
                s.append(oneOf(20) ? " " : " , ").append(random.nextInt(oneOf(6) ? 12 : 8));
            }
        } else if (start.equals("set")) {
            s.append(oneOf(20) ? one(ODD) : one("wait", "gap", "rate", "days", "per", "extra", "stamp", "court")).append(' ');
            s.append(oneOf(20) ? one(ODD) : one("0", "5", "99999"));
        } else {
            expression(s, 1);
            if (start.equals("like")) {
                s.append(oneOf(20) ? one(JOINTS) : "bar").append(' ').append(oneOf(20) ? one(ODD) : "5");
            } else if (oneOf(4)) {
                s.append("unless ");
                expression(s, 1);
            }
        }
        s.append(oneOf(30) ? one(JOINTS) : ";");
    }

    private void run() {
        LabourExchange x = new LabourExchange();
        Model m = new Model();
        for (int i = 0; i < 15; i++) {
            StringBuilder s = new StringBuilder();
            for (int n = random.nextInt(5); n >= 0; n--) {
                clause(s);
            }
            String text = s.length() > 600 ? s.substring(0, 600) : s.toString();
            byte[] bytes = Land.bytes(text);
            boolean trial = oneOf(3);
            Land.feed(x, bytes);
            for (int at = 0; at < bytes.length; at += 20) {
                m.feed(five(bytes, at));
            }
            int n = oneOf(4) ? random.nextInt(text.length() + 1) : text.length();
            long want = trial ? m.attempt(n, 312, 400) : m.text(n, 312, 400);
            CHECK.due((trial ? "attempt " : "text ") + n + " of: " + text, want,
                trial ? x.attempt(n, 312, 400) : x.text(n, 312, 400));
            CHECK.due("place in: " + text, m.fault(), x.fault());
        }
        for (int what = 0; what < 8; what++) {
            CHECK.due("law " + what, m.law(what, 350), x.law(what, 350));
            CHECK.due("trade " + what, m.law(10 + what, 350), x.law(10 + what, 350));
        }
    }

    private static int[] five(byte[] bytes, int at) {
        int[] five = new int[5];
        for (int i = 0; i < 20; i++) {
            five[i / 4] = five[i / 4] << 8 | (at + i < bytes.length ? bytes[at + i] & 255 : 32);
        }
        return five;
    }
}
