import java.util.ArrayList;
import java.util.Arrays;
import java.util.Collections;
import java.util.HashMap;
import java.util.List;
import java.util.Map;
import java.util.NoSuchElementException;

/**
 * The document written down a second time, as plainly as can be and as slowly: nothing is kept that can be worked out,
 * and every answer runs all DAYS from 312 on. Random runs of calls compare it with the program.
 */
final class Model {
    static final String[] PARAMS = {"wait", "gap", "rate", "days", "per", "extra", "stamp", "court"};
    static final String[] FACTS = {"age", "trade", "usual", "out", "paid", "stamps", "unknown", "means", "reason",
        "miles", "wage", "same"};
    static final int[] DEFAULTS = {3, 18, 10, 60, 3, 0, 2, 12};

    static final class Fault extends RuntimeException {
        final int kind;
        final int place;

        Fault(int kind, int place) {
            this.kind = kind;
            this.place = place;
        }
    }

    interface Term {
        long of(Map<String, Long> values);
    }

    static final class Clause {
        String word;
        List<Integer> trades = new ArrayList<>();
        String param;
        int number;
        Term term;
    }

    static final class Text {
        List<Clause> clauses;
        int from;
        int to;
        int told;
        int number;

        Clause last(String word) {
            Clause found = null;
            for (Clause c : clauses) {
                if (c.word.equals(word)) {
                    found = c;
                }
            }
            return found;
        }

        Clause lastSet(String param) {
            Clause found = null;
            for (Clause c : clauses) {
                if (c.word.equals("set") && c.param.equals(param)) {
                    found = c;
                }
            }
            return found;
        }

        List<Clause> all(String word) {
            List<Clause> found = new ArrayList<>();
            for (Clause c : clauses) {
                if (c.word.equals(word)) {
                    found.add(c);
                }
            }
            return found;
        }
    }

    record Token(int place, String text, char kind) { }

    /** Reads a text; throws a Fault. */
    static final class Parser {
        final List<Token> tokens = new ArrayList<>();
        int at;

        Parser(byte[] b) {
            int i = 0;
            while (i < b.length) {
                int c = b[i];
                int start = i;
                if (c == 32 || c == 10) {
                    i++;
                    continue;
                }
                StringBuilder s = new StringBuilder();
                char kind = '?';
                if (c >= 'a' && c <= 'z') {
                    kind = 'w';
                    while (i < b.length && b[i] >= 'a' && b[i] <= 'z') {
                        s.append((char) b[i++]);
                    }
                } else if (c >= '0' && c <= '9') {
                    kind = 'n';
                    while (i < b.length && b[i] >= '0' && b[i] <= '9') {
                        s.append((char) b[i++]);
                    }
                } else {
                    s.append((char) (c & 255));
                    kind = ";,()+-*/<=".indexOf(s.charAt(0)) >= 0 ? 's' : '?';
                    i++;
                }
                tokens.add(new Token(start, s.toString(), kind));
            }
            tokens.add(new Token(b.length, "", 'e'));
        }

        Token peek() {
            return tokens.get(at);
        }

        boolean is(String text) {
            return peek().text.equals(text) && peek().kind != '?' && peek().kind != 'e';
        }

        Fault fault(int kind) {
            return new Fault(kind, peek().place);
        }

        void need(String text) {
            if (!is(text)) {
                throw fault(1);
            }
            at++;
        }

        List<Clause> clauses() {
            List<Clause> all = new ArrayList<>();
            while (peek().kind != 'e') {
                if (!Arrays.asList("insure", "set", "pay", "needy", "bar", "suit", "like").contains(peek().text)) {
                    throw fault(1);
                }
                if (all.size() == 24) {
                    throw fault(2);
                }
                all.add(clause());
            }
            return all;
        }

        Clause clause() {
            Clause c = new Clause();
            c.word = peek().text;
            at++;
            if (c.word.equals("insure")) {
                do {
                    if (!c.trades.isEmpty()) {
                        at++;
                    }
                    if (peek().kind != 'n') {
                        throw fault(1);
                    }
                    if (peek().text.length() > 5 || Integer.parseInt(peek().text) > 7) {
                        throw fault(2);
                    }
                    int trade = Integer.parseInt(peek().text);
                    if (c.trades.contains(trade)) {
                        throw fault(4);
                    }
                    c.trades.add(trade);
                    at++;
                } while (is(","));
            } else if (c.word.equals("set")) {
                if (peek().kind != 'w') {
                    throw fault(1);
                }
                if (!Arrays.asList(PARAMS).contains(peek().text)) {
                    throw fault(3);
                }
                c.param = peek().text;
                at++;
                c.number = number();
            } else if (c.word.equals("like")) {
                c.term = expr(0);
                need("bar");
                c.number = number();
            } else {
                Term first = expr(0);
                c.term = first;
                if (is("unless")) {
                    at++;
                    Term second = expr(0);
                    c.term = v -> second.of(v) != 0 ? 0 : first.of(v);
                }
            }
            need(";");
            return c;
        }

        int number() {
            if (peek().kind != 'n') {
                throw fault(1);
            }
            if (peek().text.length() > 5) {
                throw fault(2);
            }
            int n = Integer.parseInt(peek().text);
            at++;
            return n;
        }

        Term expr(int within) {
            if (within >= 6 && (peek().kind == 'n' || peek().kind == 'w' || is("("))) {
                throw fault(2);
            }
            Term left = and(within);
            while (is("or")) {
                at++;
                Term a = left;
                Term b = and(within);
                left = v -> a.of(v) != 0 || b.of(v) != 0 ? 1 : 0;
            }
            return left;
        }

        Term and(int within) {
            Term left = not(within, 0);
            while (is("and")) {
                at++;
                Term a = left;
                Term b = not(within, 0);
                left = v -> a.of(v) != 0 && b.of(v) != 0 ? 1 : 0;
            }
            return left;
        }

        Term not(int within, int nots) {
            if (is("not")) {
                if (nots == 6) {
                    throw fault(2);
                }
                at++;
                Term a = not(within, nots + 1);
                return v -> a.of(v) == 0 ? 1 : 0;
            }
            Term a = sum(within);
            if (is("<")) {
                at++;
                Term b = sum(within);
                return v -> a.of(v) < b.of(v) ? 1 : 0;
            }
            if (is("=")) {
                at++;
                Term b = sum(within);
                return v -> a.of(v) == b.of(v) ? 1 : 0;
            }
            return a;
        }

        Term sum(int within) {
            Term left = product(within);
            while (is("+") || is("-")) {
                boolean plus = is("+");
                at++;
                Term a = left;
                Term b = product(within);
                left = v -> plus ? a.of(v) + b.of(v) : a.of(v) - b.of(v);
            }
            return left;
        }

        Term product(int within) {
            Term left = part(within);
            while (is("*") || is("/")) {
                boolean times = is("*");
                at++;
                Term a = left;
                Term b = part(within);
                left = v -> times ? a.of(v) * b.of(v) : b.of(v) == 0 ? 0 : a.of(v) / b.of(v);
            }
            return left;
        }

        Term part(int within) {
            if (is("(")) {
                at++;
                Term inner = expr(within + 1);
                need(")");
                return inner;
            }
            if (peek().kind == 'w') {
                String word = peek().text;
                if (!Arrays.asList(PARAMS).contains(word) && !Arrays.asList(FACTS).contains(word)) {
                    throw fault(3);
                }
                at++;
                return v -> v.get(word);
            }
            long n = number();
            return v -> n;
        }
    }

    static final class Event {
        int kind;
        int person;
        int number;
        int day;
        int told;
        int back = -1;
    }

    static final class Row {
        int person;
        int year;
        byte[] bytes;
        int told;
    }

    record Return(int person, int week, int days, int told) { }

    record Person(int trade, int age, int office, int wage, int family) { }

    record Vacancy(int office, int trade, int wage, int worth, int told) { }

    static final class Offer {
        int person;
        int vacancy;
        int failed;
        int fate;
    }

    static final class Case {
        int event;
        int came;
        int[] judges = new int[3];
        int closed = -1;
        boolean allowed;
    }

    final List<int[]> offices = new ArrayList<>();
    final List<Person> people = new ArrayList<>();
    final List<Row> rows = new ArrayList<>();
    final List<Return> returns = new ArrayList<>();
    final List<Text> texts = new ArrayList<>();
    final List<Event> events = new ArrayList<>();
    final List<Vacancy> vacancies = new ArrayList<>();
    final List<Integer> filled = new ArrayList<>();
    final List<Offer> offers = new ArrayList<>();
    final List<int[]> judges = new ArrayList<>();
    final int[] lastJudge = {-1, -1, -1};
    final List<Case> cases = new ArrayList<>();
    final int[] paid = new int[20];
    final int[] owed = new int[20];
    final int[][] prices = new int[2][24];
    final int[] sent = new int[20];
    final List<Integer> weekly = new ArrayList<>();
    int fund = 10000;
    int got;
    int gave;
    byte[] tape = new byte[0];
    int fault = -1;
    int today = 312;
    int look = -1;
    int[][] more;

    Model() {
        Arrays.fill(sent, -1);
    }

    int known() {
        return look == -1 ? today : look;
    }

    // ---- the law

    List<Text> inForce(int day, int k, Text extra) {
        List<Text> found = new ArrayList<>();
        List<Text> all = new ArrayList<>(texts);
        if (extra != null) {
            all.add(extra);
        }
        for (Text t : all) {
            if (t.told <= k && t.from <= day && day < t.to) {
                found.add(t);
            }
        }
        found.sort((a, b) -> a.from != b.from ? b.from - a.from : b.number - a.number);
        return found;
    }

    int param(int which, int day, int k, Text extra) {
        for (Text t : inForce(day, k, extra)) {
            Clause c = t.lastSet(PARAMS[which]);
            if (c != null) {
                return c.number;
            }
        }
        return DEFAULTS[which];
    }

    boolean insured(int trade, int day, int k, Text extra) {
        for (Text t : inForce(day, k, extra)) {
            Clause c = t.last("insure");
            if (c != null) {
                return c.trades.contains(trade);
            }
        }
        return false;
    }

    static int cut(long pence) {
        return pence < 0 ? 0 : pence > 9999 ? 9999 : (int) pence;
    }

    // ---- a life

    static final class Claim {
        int first;
        int earned;
        int[] days = new int[10];
        int pay;
        int joined;
        boolean open;
        int stamps;
        int unknown;
        int closed;
    }

    final class Life {
        final int p;
        final int k;
        final Text extra;
        boolean work = true;
        boolean away;
        int shortDays;
        int bar = -1;
        int left = -1;
        int reason;
        int usual;
        int means;
        final List<Claim> claims = new ArrayList<>();
        final Map<Integer, Boolean> does = new HashMap<>();
        final Map<Integer, int[]> days = new HashMap<>();
        int pay;
        int paidDays;
        int endedDays;

        Life(int p, int k, Text extra) {
            this.p = p;
            this.k = k;
            this.extra = extra;
            usual = people.get(p).wage;
            for (int day = 312; day <= k; day++) {
                for (int e = 0; e < events.size(); e++) {
                    Event v = events.get(e);
                    if (v.person == p && v.day == day && v.kind != 8 && isKnown(v, k)) {
                        does.put(e, meet(v, e, day));
                    }
                }
                live(day);
            }
        }

        Claim claim() {
            return claims.isEmpty() || !claims.get(claims.size() - 1).open ? null : claims.get(claims.size() - 1);
        }

        Map<String, Long> values(int day, Vacancy offer) {
            Map<String, Long> v = new HashMap<>();
            for (int i = 0; i < 8; i++) {
                v.put(PARAMS[i], (long) param(i, day, k, extra));
            }
            Person who = people.get(p);
            Claim c = claim();
            int week = (c == null ? day : c.first) / 6;
            v.put("age", (long) who.age);
            v.put("trade", (long) who.trade);
            v.put("usual", (long) usual);
            v.put("out", work || left < 0 ? 0L : day - left);
            v.put("paid", c == null ? 0L : c.days[3] + c.days[4] + c.days[5]);
            long sum = 0;
            long unknown = 0;
            for (int w = week - 52; w < week; w++) {
                int s = stampsOf(p, w, k);
                if (s < 0) {
                    unknown++;
                } else {
                    sum += s;
                }
            }
            v.put("stamps", sum);
            v.put("unknown", unknown);
            v.put("means", (long) means);
            v.put("reason", (long) reason);
            v.put("miles", offer == null ? 0L : miles(who.office, offer.office));
            v.put("wage", offer == null ? 0L : offer.wage);
            v.put("same", offer == null || offer.trade != who.trade ? 0L : 1L);
            return v;
        }

        void bar(int day, Map<String, Long> values) {
            long n = -1;
            for (Text t : inForce(day, k, extra)) {
                for (Clause c : t.all("like")) {
                    if (n == -1 && c.term.of(values) != 0) {
                        n = c.number;
                    }
                }
            }
            if (n == -1) {
                n = worth("bar", day, values, new int[1]);
            }
            bar = Math.max(bar, day + cut(n) - 1);
        }

        long worth(String word, int day, Map<String, Long> values, int[] by) {
            for (Text t : inForce(day, k, extra)) {
                Clause c = t.last(word);
                if (c != null) {
                    by[0] = t.number;
                    return c.term.of(values);
                }
            }
            by[0] = -1;
            return word.equals("pay") ? values.get("rate") : 0;
        }

        boolean cleared(int e) {
            for (Event v : events) {
                if (v.kind == 8 && v.number == e && isKnown(v, k)) {
                    return true;
                }
            }
            return false;
        }

        void close(int day) {
            if (claim() != null) {
                Claim c = claim();
                c.open = false;
                c.closed = day;
            }
        }

        boolean meet(Event v, int e, int day) {
            switch (v.kind) {
                case 0:
                    if (!work) {
                        return false;
                    }
                    work = false;
                    shortDays = 0;
                    left = day;
                    reason = v.number;
                    if (!cleared(e)) {
                        bar(day, values(day, null));
                    }
                    return true;
                case 1:
                    if (work || away) {
                        return false;
                    }
                    work = true;
                    usual = v.number;
                    close(day);
                    return true;
                case 2:
                    if (work && shortDays == 0 || away || claim() != null
                        || !insured(people.get(p).trade, day, k, extra)) {
                        return false;
                    }
                    sign(day);
                    return true;
                case 3:
                    if (away) {
                        return false;
                    }
                    close(day);
                    away = true;
                    return true;
                case 4:
                    if (!away) {
                        return false;
                    }
                    away = false;
                    return true;
                case 5:
                    means = v.number;
                    return true;
                case 6:
                    if (!work || v.number == 6 && shortDays == 0) {
                        return false;
                    }
                    if (v.number == 6) {
                        shortDays = 0;
                        close(day);
                    } else {
                        shortDays = v.number;
                    }
                    return true;
                default:
                    Offer o = offers.get(v.number);
                    if (claim() == null || o.person != p || o.failed != -1) {
                        return false;
                    }
                    if (!cleared(e)) {
                        Map<String, Long> values = values(day, vacancies.get(o.vacancy));
                        values.put("reason", 4L);
                        bar(day, values);
                    }
                    return true;
            }
        }

        void sign(int day) {
            if (!claims.isEmpty()) {
                Claim c = claims.get(claims.size() - 1);
                if (day - c.closed <= param(1, day, k, extra)) {
                    c.open = true;
                    c.joined++;
                    return;
                }
            }
            Map<String, Long> values = values(day, null);
            Claim c = new Claim();
            c.first = day;
            c.open = true;
            c.stamps = values.get("stamps").intValue();
            c.unknown = values.get("unknown").intValue();
            int per = Math.max(1, param(4, day, k, extra));
            c.earned = Math.min(c.stamps / per, param(3, day, k, extra));
            claims.add(c);
        }

        void live(int day) {
            Claim c = claim();
            int[] d = {away ? 8 : work ? 7 : 9, 0, -1, -1};
            if (c != null) {
                d[3] = claims.size() - 1;
                int[] by = {-1};
                if (shortDays > 0 && day % 6 < shortDays) {
                    d[0] = 6;
                } else if (bar >= day) {
                    d[0] = 1;
                } else if (c.days[2] < param(0, day, k, extra)) {
                    d[0] = 2;
                } else if (c.days[3] < c.earned) {
                    d[0] = 3;
                } else if (c.days[4] < param(5, day, k, extra)) {
                    d[0] = 4;
                } else if (worth("needy", day, values(day, null), by) > 0) {
                    d[0] = 5;
                } else {
                    d[0] = 0;
                }
                if (d[0] >= 3 && d[0] <= 5) {
                    d[1] = cut(worth(d[0] == 5 ? "needy" : "pay", day, values(day, null), by));
                    d[2] = by[0];
                    paidDays++;
                }
                if (d[0] == 0) {
                    endedDays++;
                }
                c.days[d[0]]++;
                c.pay += d[1];
                pay += d[1];
            }
            days.put(day, d);
        }
    }

    boolean isKnown(Event v, int k) {
        return v.told <= k && !(v.back != -1 && v.back <= k);
    }

    int rowOf(int p, int week, int k) {
        byte[] row = null;
        for (Row r : rows) {
            if (r.person == p && r.year == week / 52 && r.told <= k) {
                row = r.bytes;
            }
        }
        return row == null || week % 52 >= row.length ? -1 : Math.max(0, Math.min(6, row[week % 52]));
    }

    int returnOf(int p, int week, int k) {
        int days = -1;
        for (Return r : returns) {
            if (r.person == p && r.week == week && r.told <= k) {
                days = r.days;
            }
        }
        return days;
    }

    int stampsOf(int p, int week, int k) {
        int row = rowOf(p, week, k);
        return row != -1 ? row : returnOf(p, week, k);
    }

    long miles(int a, int b) {
        return Math.abs(offices.get(a)[0] - offices.get(b)[0]) + Math.abs(offices.get(a)[1] - offices.get(b)[1]);
    }

    int knownFrom(int v, int office) {
        long miles = miles(vacancies.get(v).office, office);
        return vacancies.get(v).told + (int) (miles / 50 + (miles % 50 == 0 ? 0 : 1));
    }

    int failing(int p, int v) {
        Life life = new Life(p, today, null);
        Map<String, Long> values = life.values(today, vacancies.get(v));
        for (Text t : inForce(today, today, null)) {
            List<Clause> suits = t.all("suit");
            if (!suits.isEmpty()) {
                for (int i = 0; i < suits.size(); i++) {
                    if (suits.get(i).term.of(values) == 0) {
                        return i;
                    }
                }
                return -1;
            }
        }
        return -1;
    }

    // ---- the face

    static NoSuchElementException none() {
        return new NoSuchElementException();
    }

    void need(boolean holds) {
        if (!holds) {
            throw none();
        }
    }

    void needPerson(int p) {
        need(p >= 0 && p < people.size());
    }

    int office(int x, int y) {
        if (offices.size() == 8 || x < 0 || x > 99 || y < 0 || y > 99) {
            return -1;
        }
        offices.add(new int[] {x, y});
        return offices.size() - 1;
    }

    int person(int trade, int age, int office, int wage, int family) {
        if (people.size() == 20 || trade < 0 || trade > 7 || age < 14 || age > 90 || office < 0
            || office >= offices.size() || wage < 1 || wage > 999 || family < 0 || family > 99) {
            return -1;
        }
        people.add(new Person(trade, age, office, wage, family));
        return people.size() - 1;
    }

    int feed(int... numbers) {
        if (tape.length + 20 > 600) {
            return -1;
        }
        byte[] longer = Arrays.copyOf(tape, tape.length + 20);
        for (int i = 0; i < 20; i++) {
            longer[tape.length + i] = (byte) (numbers[i / 4] >>> 8 * (3 - i % 4));
        }
        tape = longer;
        return tape.length;
    }

    boolean book(int p, int year, int n) {
        needPerson(p);
        if (n > tape.length || year < 0 || year > 2 || n < -1 || n > 52 || rows.size() == 60) {
            return false;
        }
        Row r = new Row();
        r.person = p;
        r.year = year;
        r.told = today;
        r.bytes = n == -1 ? null : Arrays.copyOf(tape, n);
        rows.add(r);
        if (n != -1) {
            tape = new byte[0];
        }
        return true;
    }

    boolean returns(int p, int week, int days) {
        needPerson(p);
        if (week < 0 || week > 155 || days < -1 || days > 6 || returns.size() == 100) {
            return false;
        }
        returns.add(new Return(p, week, days, today));
        return true;
    }

    int stamps(int p, int week) {
        needPerson(p);
        need(week >= 0 && week < 156);
        int row = rowOf(p, week, known());
        int ret = returnOf(p, week, known());
        return row != -1 && ret != -1 && row != ret ? 10 + row : stampsOf(p, week, known());
    }

    private Text parse(int n, int from, int to) {
        Text t = new Text();
        try {
            t.clauses = new Parser(Arrays.copyOf(tape, n)).clauses();
        } finally {
            tape = new byte[0];
        }
        t.from = from;
        t.to = to;
        t.told = today;
        t.number = texts.size();
        return t;
    }

    int text(int n, int from, int to) {
        if (n < 0 || n > tape.length) {
            throw new IllegalArgumentException();
        }
        fault = -1;
        if (texts.size() == 16 || from < 0 || from > 935 || to < 0 || to > 935) {
            tape = new byte[0];
            return -9;
        }
        try {
            texts.add(parse(n, from, to));
        } catch (Fault f) {
            fault = f.place;
            return -1 - f.kind;
        }
        return texts.size() - 1;
    }

    int fault() {
        return fault;
    }

    int event(int kind, int p, int number, int day) {
        needPerson(p);
        need(kind >= 0 && kind <= 6);
        int[] least = {0, 1, 0, 0, 0, 0, 1};
        int[] most = {3, 999, 0, 0, 0, 9999, 6};
        if (events.size() == 160 || number < least[kind] || number > most[kind] || day < 312 || day > today) {
            return -1;
        }
        return tell(kind, p, number, day);
    }

    int tell(int kind, int p, int number, int day) {
        Event e = new Event();
        e.kind = kind;
        e.person = p;
        e.number = number;
        e.day = day;
        e.told = today;
        events.add(e);
        return events.size() - 1;
    }

    boolean back(int e) {
        need(e >= 0 && e < events.size());
        if (events.get(e).back != -1) {
            return false;
        }
        events.get(e).back = today;
        return true;
    }

    int told(int e, int what) {
        need(e >= 0 && e < events.size() && what >= 0 && what <= 6);
        Event v = events.get(e);
        if (what < 6) {
            return new int[] {v.kind, v.person, v.number, v.day, v.told, v.back}[what];
        }
        if (v.kind == 8) {
            return isKnown(v, known()) ? 1 : 0;
        }
        return new Life(v.person, known(), null).does.getOrDefault(e, false) ? 1 : 0;
    }

    int days(int n) {
        if (n < 0 || n > 120 || today + n > 935) {
            throw new IllegalArgumentException();
        }
        for (int i = 0; i < n; i++) {
            if (today % 6 == 5) {
                week();
            }
            today++;
        }
        return today;
    }

    void week() {
        got = 0;
        gave = 0;
        for (int p = 0; p < people.size(); p++) {
            Life life = new Life(p, today, null);
            for (int d = today - 5; d <= today; d++) {
                int kind = life.days.get(d)[0];
                if ((kind == 7 || kind == 6) && insured(people.get(p).trade, d, today, null)) {
                    got += param(6, today, today, null);
                }
            }
            int due = life.pay - paid[p];
            owed[p] = Math.max(0, -due);
            paid[p] += Math.max(0, due);
            gave += Math.max(0, due);
        }
        fund += got - gave;
        weekly.add(got - gave);
    }

    int look(int day) {
        if (day != -1 && (day < 312 || day > today)) {
            throw new IllegalArgumentException();
        }
        int was = look;
        look = day;
        return was;
    }

    int day(int p, int day, int what) {
        needPerson(p);
        need(day >= 312 && day <= known() && what >= 0 && what <= 3);
        return new Life(p, known(), null).days.get(day)[what];
    }

    int claim(int p, int number, int what) {
        needPerson(p);
        Life life = new Life(p, known(), null);
        need(number >= 0 && number < life.claims.size() && what >= 0 && what <= 10);
        Claim c = life.claims.get(number);
        return new int[] {c.first, c.earned, c.days[2], c.days[3], c.days[4], c.days[5], c.pay, c.joined,
            c.open ? 1 : 0, c.stamps, c.unknown}[what];
    }

    long value(int p, int what) {
        needPerson(p);
        need(what >= 0 && what <= 8);
        return new Life(p, today, null).values(today, null).get(FACTS[what]);
    }

    int law(int what, int day) {
        need(day >= 0 && day <= 935 && (what >= 0 && what < 8 || what >= 10 && what < 18));
        return what < 8 ? param(what, day, known(), null) : insured(what - 10, day, known(), null) ? 1 : 0;
    }

    int paid(int p, int what) {
        needPerson(p);
        need(what >= 0 && what <= 2);
        return what == 0 ? paid[p] : what == 1 ? owed[p] : new Life(p, known(), null).pay;
    }

    int fund(int what) {
        need(what >= 0 && what <= 3);
        if (what < 3) {
            return new int[] {fund, got, gave}[what];
        }
        if (fund < 0) {
            return 0;
        }
        int n = Math.min(4, weekly.size());
        if (n == 0) {
            return -1;
        }
        int sum = 0;
        for (int i = 1; i <= n; i++) {
            sum += weekly.get(weekly.size() - i);
        }
        int m = (int) Math.floor((double) sum / n);
        if (m >= 0) {
            return -1;
        }
        int weeks = 0;
        for (long f = fund; f >= 0; f += m) {
            weeks++;
        }
        return weeks;
    }

    int vacancy(int office, int trade, int wage, int worth) {
        if (vacancies.size() == 24 || office < 0 || office >= offices.size() || trade < 0 || trade > 7 || wage < 1
            || wage > 999 || worth < 0 || worth > 999) {
            return -1;
        }
        vacancies.add(new Vacancy(office, trade, wage, worth, today));
        return vacancies.size() - 1;
    }

    int known(int v, int office) {
        need(v >= 0 && v < vacancies.size() && office >= 0 && office < offices.size());
        return knownFrom(v, office);
    }

    int offer(int p, int v) {
        needPerson(p);
        need(v >= 0 && v < vacancies.size());
        if (offers.size() == 60 || new Life(p, today, null).claim() == null || filled.contains(v)
            || knownFrom(v, people.get(p).office) > today) {
            return -1;
        }
        Offer o = new Offer();
        o.person = p;
        o.vacancy = v;
        o.failed = failing(p, v);
        offers.add(o);
        return offers.size() - 1;
    }

    int offerOf(int number, int what) {
        need(number >= 0 && number < offers.size() && what >= 0 && what <= 4);
        Offer o = offers.get(number);
        return new int[] {o.person, o.vacancy, o.failed == -1 ? 1 : 0, o.failed, o.fate}[what];
    }

    int answer(int number, boolean taken) {
        need(number >= 0 && number < offers.size());
        Offer o = offers.get(number);
        if (o.fate != 0 || taken && filled.contains(o.vacancy) || events.size() == 160) {
            return -1;
        }
        o.fate = taken ? 1 : 2;
        if (taken) {
            filled.add(o.vacancy);
            return tell(1, o.person, vacancies.get(o.vacancy).wage, today);
        }
        return tell(7, o.person, number, today);
    }

    int gain(int p, int v) {
        if (filled.contains(v) || knownFrom(v, people.get(p).office) > today) {
            return 0;
        }
        int gain = vacancies.get(v).worth - (int) (miles(people.get(p).office, vacancies.get(v).office) / 10);
        return gain <= 0 || failing(p, v) != -1 ? 0 : gain;
    }

    int[][] gains() {
        int[][] g = new int[people.size()][vacancies.size()];
        for (int p = 0; p < people.size(); p++) {
            if (new Life(p, today, null).claim() != null) {
                for (int v = 0; v < vacancies.size(); v++) {
                    g[p][v] = gain(p, v);
                }
            }
        }
        return g;
    }

    int send() {
        int[][] g = gains();
        Map<Integer, Integer> memo = new HashMap<>();
        int best = best(g, 0, 0, memo);
        Arrays.fill(sent, -1);
        int used = 0;
        for (int p = 0; p < people.size(); p++) {
            int want = best(g, p, used, memo);
            for (int v = 0; v < vacancies.size(); v++) {
                if (g[p][v] > 0 && (used >> v & 1) == 0
                    && g[p][v] + best(g, p + 1, used | 1 << v, memo) == want) {
                    sent[p] = v;
                    used |= 1 << v;
                    break;
                }
            }
        }
        return best;
    }

    /** The greatest sum of the people from p on, if some vacancies are used. */
    static int best(int[][] g, int p, int used, Map<Integer, Integer> memo) {
        if (p == g.length) {
            return 0;
        }
        int key = p << 24 | used;
        Integer kept = memo.get(key);
        if (kept != null) {
            return kept;
        }
        int best = best(g, p + 1, used, memo);
        for (int v = 0; v < g[p].length; v++) {
            if (g[p][v] > 0 && (used >> v & 1) == 0) {
                best = Math.max(best, g[p][v] + best(g, p + 1, used | 1 << v, memo));
            }
        }
        memo.put(key, best);
        return best;
    }

    int sent(int p) {
        needPerson(p);
        return sent[p];
    }

    boolean price(int what, int number, int v) {
        if (what < 0 || what > 1 || number < 0 || number >= (what == 0 ? people.size() : vacancies.size()) || v < 0
            || v > 9999) {
            return false;
        }
        prices[what][number] = v;
        return true;
    }

    int proves() {
        int[][] g = gains();
        for (int p = 0; p < people.size(); p++) {
            for (int v = 0; v < vacancies.size(); v++) {
                if (g[p][v] > 0 && prices[0][p] + prices[1][v] < g[p][v]) {
                    return -1;
                }
            }
        }
        return Arrays.stream(prices[0]).sum() + Arrays.stream(prices[1]).sum();
    }

    int judge(int list, int family) {
        if (judges.size() == 18 || list < 0 || list > 2 || family < 0 || family > 99) {
            return -1;
        }
        judges.add(new int[] {list, family});
        return judges.size() - 1;
    }

    int appeal(int e) {
        need(e >= 0 && e < events.size());
        Event v = events.get(e);
        if (cases.size() == 30 || v.kind != 0 && v.kind != 7 || !isKnown(v, today)) {
            return -1;
        }
        for (Case c : cases) {
            if (c.event == e) {
                return -1;
            }
        }
        Case c = new Case();
        for (int list = 0; list < 3; list++) {
            List<Integer> round = new ArrayList<>();
            for (int j = 0; j < judges.size(); j++) {
                if (judges.get(j)[0] == list) {
                    round.add(j);
                }
            }
            while (lastJudge[list] != -1 && round.get(round.size() - 1) != lastJudge[list]) {
                Collections.rotate(round, 1);
            }
            c.judges[list] = -1;
            for (int j : round) {
                if (c.judges[list] == -1 && judges.get(j)[1] != people.get(v.person).family) {
                    c.judges[list] = j;
                }
            }
            if (c.judges[list] == -1) {
                return -1;
            }
        }
        System.arraycopy(c.judges, 0, lastJudge, 0, 3);
        c.event = e;
        c.came = today;
        cases.add(c);
        return cases.size() - 1;
    }

    boolean close(int number, boolean allowed) {
        need(number >= 0 && number < cases.size());
        Case c = cases.get(number);
        if (c.closed != -1 || allowed && events.size() == 160) {
            return false;
        }
        c.closed = today;
        c.allowed = allowed;
        if (allowed) {
            tell(8, events.get(c.event).person, c.event, today);
        }
        return true;
    }

    int caseOf(int number, int what) {
        need(number >= 0 && number < cases.size() && what >= 0 && what <= 7);
        Case c = cases.get(number);
        boolean late = (c.closed == -1 ? today : c.closed) > c.came + param(7, c.came, today, null);
        return new int[] {c.event, c.came, c.judges[0], c.judges[1], c.judges[2], c.closed, c.allowed ? 1 : 0,
            late ? 1 : 0}[what];
    }

    int attempt(int n, int from, int to) {
        if (n < 0 || n > tape.length) {
            throw new IllegalArgumentException();
        }
        fault = -1;
        if (from < 0 || from > 935 || to < 0 || to > 935) {
            tape = new byte[0];
            return 9;
        }
        Text extra;
        try {
            extra = parse(n, from, to);
        } catch (Fault f) {
            fault = f.place;
            return f.kind;
        }
        more = new int[9][3];
        for (int p = 0; p < people.size(); p++) {
            Life with = new Life(p, today, extra);
            Life without = new Life(p, today, null);
            for (int trade : new int[] {people.get(p).trade, 8}) {
                more[trade][0] += with.pay - without.pay;
                more[trade][1] += with.paidDays - without.paidDays;
                more[trade][2] += with.endedDays - without.endedDays;
            }
        }
        return 0;
    }

    int tried(int trade, int what) {
        need(more != null && trade >= 0 && trade <= 8 && what >= 0 && what <= 2);
        return more[trade][what];
    }

    int count(int what) {
        need(what >= 0 && what <= 10);
        return new int[] {today, offices.size(), people.size(), events.size(), texts.size(), vacancies.size(),
            vacancies.size() - filled.size(), offers.size(), cases.size(), judges.size(), tape.length}[what];
    }
}
