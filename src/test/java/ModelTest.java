import java.util.NoSuchElementException;
import java.util.Random;

/**
 * Random runs of calls, each answered by the program and by the Model, from fixed seeds. Every tenth run is of twenty
 * people, and every tenth asks for what isn't as told every third time.
 */
public final class ModelTest {
    private final Random random;
    private final LabourExchange x = new LabourExchange();
    private final Model m = new Model();
    private final Check check;
    private final StringBuilder calls = new StringBuilder();
    private final int odds;
    private final boolean crowded;
    private int made;

    private ModelTest(long seed, Check check) {
        random = new Random(seed);
        this.check = check;
        odds = seed % 10 == 7 ? 3 : 25;
        crowded = seed % 10 == 4;
    }

    public static void main(String[] args) {
        int from = args.length > 0 ? Integer.parseInt(args[0]) : 1;
        int to = args.length > 1 ? Integer.parseInt(args[1]) : 250;
        Check check = new Check();
        for (int seed = from; seed <= to; seed++) {
            new ModelTest(seed, check).run(seed);
        }
        check.end();
    }

    interface Call {
        long make();
    }

    private static long outcome(Call call) {
        try {
            return call.make();
        } catch (NoSuchElementException e) {
            return e.getClass() == NoSuchElementException.class ? -1000001 : -1000009;
        } catch (IllegalArgumentException e) {
            return e.getClass() == IllegalArgumentException.class ? -1000002 : -1000009;
        } catch (RuntimeException e) {
            e.printStackTrace();
            return -1000009;
        }
    }

    private static long one(boolean b) {
        return b ? 1 : 0;
    }

    private void both(String call, Call program, Call model) {
        made++;
        long want = outcome(model);
        long got = outcome(program);
        calls.append(call).append(" -> ").append(want).append('\n');
        check.due(call, want, got);
        if (want != got) {
            System.out.println(calls);
            check.end();
        }
    }

    private int to(int most) {
        return random.nextInt(most + 1);
    }

    private boolean seldom() {
        return random.nextInt(odds) == 0;
    }

    /** A number from least to most, seldom one just outside or far off. */
    private int number(int least, int most) {
        if (seldom()) {
            int[] odd = {least - 1, most + 1, Integer.MIN_VALUE, Integer.MAX_VALUE, -1, 0};
            return odd[to(odd.length - 1)];
        }
        return most < least ? least : least + to(most - least);
    }

    private void run(long seed) {
        calls.append("seed ").append(seed).append('\n');
        for (int i = 0; i < 2; i++) {
            office();
        }
        int people = crowded ? 21 : 2 + to(3);
        for (int i = 0; i < people; i++) {
            person();
        }
        String first = "insure 0,1,2,3;set wait " + to(3) + ";set extra " + to(4) + ";pay usual/2;";
        feed(Land.bytes(first));
        both("text(" + first + ")", () -> x.text(first.length(), 0, 935), () -> m.text(first.length(), 0, 935));
        text(validText());
        for (int p = 0; p < people && p < 6; p++) {
            row(p, 0);
        }
        while (made < 505) {
            step();
        }
        for (int what = -1; what <= 11; what++) {
            int w = what;
            both("count(" + w + ")", () -> x.count(w), () -> m.count(w));
        }
    }

    private void step() {
        switch (to(29)) {
            case 0:
                office();
                break;
            case 1:
                if (seldom() || m.people.size() < 4) {
                    person();
                }
                break;
            case 2:
                if (to(2) == 0) {
                    row(number(0, m.people.size() - 1), number(0, 2));
                }
                break;
            case 3:
                returned();
                break;
            case 4:
                text(seldom() ? brokenText() : validText());
                break;
            case 5:
                if (to(1) == 0) {
                    text(brokenText());
                }
                break;
            case 6:
            case 7:
            case 8:
            case 9:
            case 10:
            case 11:
            case 12:
            case 13:
                event();
                break;
            case 14:
                if (to(2) == 0) {
                    back();
                }
                break;
            case 15:
            case 16:
                days();
                break;
            case 17:
                look();
                break;
            case 18:
                vacancy();
                break;
            case 19:
            case 20:
            case 21:
                offer();
                break;
            case 22:
                sending();
                break;
            case 23:
            case 24:
                court();
                break;
            case 25:
                if (to(1) == 0) {
                    attempt();
                }
                break;
            default:
                askPerson();
                askRest();
                break;
        }
    }

    private void office() {
        int a = number(0, 99);
        int b = number(0, 99);
        both("office(" + a + ", " + b + ")", () -> x.office(a, b), () -> m.office(a, b));
    }

    private void person() {
        int trade = number(0, 3);
        int age = number(14, 90);
        int office = number(0, m.offices.size() - 1);
        int wage = number(1, 60);
        int family = number(0, 5);
        both("person(" + trade + ", " + age + ", " + office + ", " + wage + ", " + family + ")",
            () -> x.person(trade, age, office, wage, family), () -> m.person(trade, age, office, wage, family));
    }

    private void feed(byte[] bytes) {
        for (int at = 0; at < bytes.length; at += 20) {
            int[] five = new int[5];
            for (int i = 0; i < 20; i++) {
                five[i / 4] = five[i / 4] << 8 | (at + i < bytes.length ? bytes[at + i] & 255 : 32);
            }
            both("feed(" + five[0] + ", " + five[1] + ", " + five[2] + ", " + five[3] + ", " + five[4] + ")",
                () -> x.feed(five[0], five[1], five[2], five[3], five[4]), () -> m.feed(five));
        }
    }

    private void row(int p, int year) {
        int n = seldom() ? -1 : 30 + to(22);
        byte[] bytes = new byte[Math.max(0, n)];
        for (int i = 0; i < bytes.length; i++) {
            bytes[i] = (byte) (seldom() ? random.nextInt() : 3 + to(3));
        }
        feed(bytes);
        int length = seldom() ? number(0, 53) : n;
        both("book(" + p + ", " + year + ", " + length + ")", () -> one(x.book(p, year, length)),
            () -> one(m.book(p, year, length)));
    }

    private void returned() {
        int p = number(0, m.people.size() - 1);
        int week = number(0, 155);
        int days = number(-1, 6);
        both("returns(" + p + ", " + week + ", " + days + ")", () -> one(x.returns(p, week, days)),
            () -> one(m.returns(p, week, days)));
        both("stamps(" + p + ", " + week + ")", () -> x.stamps(p, week), () -> m.stamps(p, week));
    }

    private String expression(int depth) {
        if (depth <= 0 || to(3) == 0) {
            String[] parts = {"wait", "rate", "days", "per", "extra", "stamp", "court", "gap", "age", "trade", "usual",
                "out", "paid", "stamps", "unknown", "means", "reason", "miles", "wage", "same", "reason", "means"};
            return to(1) == 0 ? String.valueOf(seldom() ? to(99999) : to(12)) : parts[to(parts.length - 1)];
        }
        String a = expression(depth - 1);
        String b = expression(depth - 1);
        switch (to(7)) {
            case 0:
                return "(" + a + " or " + b + ")";
            case 1:
                return "(" + a + " and not " + b + ")";
            case 2:
                return "(" + a + ") < (" + b + ")";
            case 3:
                return "(" + a + ")=(" + b + ")";
            case 4:
                return "(" + a + ")*(" + b + ")";
            case 5:
                return "(" + a + ")/(" + b + ")";
            case 6:
                return "(" + a + ")-(" + b + ")";
            default:
                return "(" + a + ")+(" + b + ")";
        }
    }

    private String clause() {
        String[] params = {"wait", "gap", "rate", "days", "per", "extra", "stamp", "court"};
        String unless = to(3) == 0 ? " unless " + expression(2) : "";
        switch (to(14)) {
            case 0:
                return to(3) == 0 ? "insure " + to(3) + "," + (4 + to(3)) + ";" : "insure 0,1,2,3;";
            case 1:
                return "needy " + (1 + to(6)) + " unless " + to(60) + " < means;";
            case 2:
                return "set days " + (1 + to(8)) + ";";
            case 3:
            case 4:
                return "set " + params[to(7)] + " " + to(12) + ";";
            case 5:
                return "pay " + expression(2) + unless + ";";
            case 6:
                return "needy " + expression(2) + unless + ";";
            case 7:
                return "bar " + expression(2) + unless + ";";
            case 8:
                return "suit " + expression(2) + unless + " ;\n";
            case 9:
                return "suit " + to(30) + " < wage + same * 20 or out;";
            case 10:
                return "bar " + to(5) + ";";
            case 11:
                return "set wait " + to(3) + ";set extra " + to(4) + ";";
            case 12:
                return "like reason = " + to(4) + " bar " + to(9) + ";";
            case 13:
                return "pay usual / 2 + " + to(9) + ";";
            default:
                return "like " + expression(2) + " bar " + to(9) + ";";
        }
    }

    private String validText() {
        StringBuilder s = new StringBuilder(to(2) == 0 ? "" : "insure 0,1,2,3;");
        for (int n = to(7); n >= 0; n--) {
            String c = clause();
            if (s.length() + c.length() < 200) {
                s.append(c);
            }
        }
        return s.toString();
    }

    private String brokenText() {
        if (to(4) == 0) {
            String[] deep = {"pay ((((((1))))));", "pay (((((1)))));", "pay not not not not not not not 1;",
                "pay not not not not not not 1;", "pay ((((((;", "pay ((((((no", "pay ((((((not", "set rate 100000;",
                "insure 1,2,1;", "insure 000007;", "insure 00007;", "like 1 bar", "like 1 unless", "suit 1 unless 2 or",
                "bar 1<2<3;", "bar 1+not 2;", "set pay 3;", "set 3;", "pay 1 2;", "pay unless;", "like 1 bar 123456;"};
            return deep[to(deep.length - 1)];
        }
        if (to(6) == 0) {
            StringBuilder s = new StringBuilder();
            for (int i = 0; i < 23 + to(2); i++) {
                s.append("set per 3;");
            }
            return s.append(to(1) == 0 ? "set per 9;" : ";").toString();
        }
        StringBuilder s = new StringBuilder(validText());
        if (s.length() > 0) {
            String signs = " ;,()+-*/<=09a?not bar or 123456 \n\t\u00ff";
            int at = to(s.length() - 1);
            int from = to(signs.length() - 1);
            int n = Math.min(signs.length(), from + 1 + to(4));
            if (to(1) == 0) {
                s.insert(at, signs.substring(from, n));
            } else {
                s.setLength(at);
            }
        }
        return s.toString();
    }

    private void text(String text) {
        if (m.texts.size() >= 14 && to(3) != 0) {
            return;
        }
        byte[] bytes = text.getBytes(java.nio.charset.StandardCharsets.ISO_8859_1);
        feed(bytes);
        int n = seldom() ? number(0, 600) : bytes.length;
        int from = to(3) == 0 ? number(0, 935) : number(290, m.today + 20);
        int end = to(3) == 0 ? number(0, 935) : number(m.today, 935);
        both("text(" + n + ", " + from + ", " + end + ")  " + text, () -> x.text(n, from, end),
            () -> m.text(n, from, end));
        both("fault()", x::fault, m::fault);
    }

    private void attempt() {
        byte[] bytes = (to(4) == 0 ? brokenText() : validText()).getBytes(java.nio.charset.StandardCharsets.ISO_8859_1);
        feed(bytes);
        int n = seldom() ? number(0, 600) : bytes.length;
        int from = number(250, 500);
        int end = number(400, 935);
        both("attempt(" + n + ", " + from + ", " + end + ")", () -> x.attempt(n, from, end),
            () -> m.attempt(n, from, end));
        both("fault()", x::fault, m::fault);
        for (int what = 0; what < 3; what++) {
            int w = what;
            int trade = number(0, 8);
            both("tried(" + trade + ", " + w + ")", () -> x.tried(trade, w), () -> m.tried(trade, w));
            both("tried(8, " + w + ")", () -> x.tried(8, w), () -> m.tried(8, w));
        }
    }

    private void event() {
        int[] most = {3, 99, 0, 0, 0, 100, 6};
        int p = number(0, m.people.size() - 1);
        int kind = seldom() || p < 0 || p >= m.people.size() ? number(0, 6) : likely(p);
        int number = kind < 0 || kind > 6 ? 0 : number(kind == 1 || kind == 6 ? 1 : 0, most[kind]);
        int day = to(2) == 0 ? number(312, m.today) : to(1) == 0 ? m.today : Math.max(312, m.today - to(10));
        both("event(" + kind + ", " + p + ", " + number + ", " + day + ")", () -> x.event(kind, p, number, day),
            () -> m.event(kind, p, number, day));
    }

    /** A kind of event that does something mostly. */
    private int likely(int p) {
        int now = m.day(p, m.known(), 0);
        int[][] kinds = {{5, 1, 3}, {5, 5, 1, 3}, {5, 3, 1, 6}, {5, 1, 3}, {5, 1, 3}, {5, 1, 3}, {0, 6, 3}, {0, 0, 6, 6, 2, 3},
            {4}, {2, 2, 2, 1}};
        return kinds[now][to(kinds[now].length - 1)];
    }

    private void back() {
        int e = number(0, m.events.size() - 1);
        both("back(" + e + ")", () -> one(x.back(e)), () -> one(m.back(e)));
    }

    private void days() {
        int n = seldom() ? number(0, 40) : to(9);
        both("days(" + n + ")", () -> x.days(n), () -> m.days(n));
    }

    private void look() {
        int day = to(1) == 0 ? -1 : number(312, m.today);
        both("look(" + day + ")", () -> x.look(day), () -> m.look(day));
    }

    private void vacancy() {
        if (m.vacancies.size() >= 10 && !seldom()) {
            return;
        }
        int office = number(0, m.offices.size() - 1);
        int trade = number(0, 3);
        int wage = number(1, 60);
        int worth = number(0, 40);
        both("vacancy(" + office + ", " + trade + ", " + wage + ", " + worth + ")",
            () -> x.vacancy(office, trade, wage, worth), () -> m.vacancy(office, trade, wage, worth));
    }

    private void offer() {
        int p = number(0, m.people.size() - 1);
        int v = number(0, m.vacancies.size() - 1);
        both("offer(" + p + ", " + v + ")", () -> x.offer(p, v), () -> m.offer(p, v));
        int office = number(0, m.offices.size() - 1);
        both("known(" + v + ", " + office + ")", () -> x.known(v, office), () -> m.known(v, office));
        int o = number(0, m.offers.size() - 1);
        int what = number(0, 4);
        both("offerOf(" + o + ", " + what + ")", () -> x.offerOf(o, what), () -> m.offerOf(o, what));
        if (to(2) == 0) {
            boolean taken = to(2) == 0;
            both("answer(" + o + ", " + taken + ")", () -> x.answer(o, taken), () -> m.answer(o, taken));
        }
    }

    private void sending() {
        both("send()", x::send, m::send);
        for (int p = 0; p < m.people.size(); p++) {
            int q = p;
            both("sent(" + q + ")", () -> x.sent(q), () -> m.sent(q));
        }
        int what = number(0, 1);
        int number = number(0, 5);
        int v = number(0, 9999) % (to(1) == 0 ? 10000 : 30);
        both("price(" + what + ", " + number + ", " + v + ")", () -> one(x.price(what, number, v)),
            () -> one(m.price(what, number, v)));
        both("proves()", x::proves, m::proves);
    }

    private void court() {
        if (m.judges.size() < 7 || seldom()) {
            int list = number(0, 2);
            int family = number(0, 5);
            both("judge(" + list + ", " + family + ")", () -> x.judge(list, family), () -> m.judge(list, family));
        }
        int e = number(0, m.events.size() - 1);
        both("appeal(" + e + ")", () -> x.appeal(e), () -> m.appeal(e));
        int c = number(0, m.cases.size() - 1);
        if (to(2) == 0) {
            boolean allowed = to(3) != 0;
            both("close(" + c + ", " + allowed + ")", () -> one(x.close(c, allowed)), () -> one(m.close(c, allowed)));
        }
        int what = number(0, 7);
        both("caseOf(" + c + ", " + what + ")", () -> x.caseOf(c, what), () -> m.caseOf(c, what));
    }

    private void askPerson() {
        int p = number(0, m.people.size() - 1);
        int day = to(1) == 0 ? m.known() : number(312, m.known());
        for (int i = 0; i < 4; i++) {
            int what = i;
            both("day(" + p + ", " + day + ", " + what + ")", () -> x.day(p, day, what), () -> m.day(p, day, what));
        }
        int number = to(2) == 0 ? 1 : 0;
        int of = number(0, 10);
        both("claim(" + p + ", " + number + ", " + of + ")", () -> x.claim(p, number, of),
            () -> m.claim(p, number, of));
        int value = number(0, 8);
        both("value(" + p + ", " + value + ")", () -> x.value(p, value), () -> m.value(p, value));
        int paid = number(0, 2);
        both("paid(" + p + ", " + paid + ")", () -> x.paid(p, paid), () -> m.paid(p, paid));
    }

    private void askRest() {
        int e = number(0, m.events.size() - 1);
        int what = to(1) == 0 ? 6 : number(0, 6);
        both("told(" + e + ", " + what + ")", () -> x.told(e, what), () -> m.told(e, what));
        int f = number(0, 3);
        both("fund(" + f + ")", () -> x.fund(f), () -> m.fund(f));
        int param = to(1) == 0 ? number(0, 7) : number(10, 17);
        int day = number(0, 935);
        both("law(" + param + ", " + day + ")", () -> x.law(param, day), () -> m.law(param, day));
        int c = number(0, 10);
        both("count(" + c + ")", () -> x.count(c), () -> m.count(c));
    }
}
