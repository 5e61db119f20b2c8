import java.util.ArrayList;
import java.util.List;

/**
 * All promises: what each refused call answers, and that all other calls answer as they would without it. Each refused
 * call is made in a land of its own, beside one that is told the same but for that call.
 */
public final class RefusedTest {
    private static final Check CHECK = new Check();
    private static final int MIN = Integer.MIN_VALUE;
    private static final int MAX = Integer.MAX_VALUE;
    private static final long NO = Answer.NO_ELEMENT;
    private static final long BAD = Answer.BAD_ARGUMENT;

    interface Build {
        LabourExchange make();
    }

    interface Refused {
        long make(LabourExchange x);
    }

    private static Build build;
    private static List<String> before;

    public static void main(String[] args) {
        in(() -> Land.whole().x);
        wholeLand();
        tellingLands();
        tellingBooks();
        texts();
        events();
        time();
        asking();
        market();
        offers();
        courts();
        tries();
        newLand();
        full();
        CHECK.end();
    }

    /** Refused calls come in such a land from now on. */
    private static void in(Build land) {
        build = land;
        before = Sight.of(land.make());
    }

    private static void refused(String call, long due, Refused made) {
        LabourExchange x = build.make();
        long got = Answer.of(() -> made.make(x));
        CHECK.due(call, due, got);
        CHECK.same("behind " + call, before, Sight.of(x));
    }

    /** A call with each of some numbers is refused. */
    private static void each(String call, long due, Numbered made, int... numbers) {
        for (int number : numbers) {
            int n = number;
            refused(call.replace("#", String.valueOf(n)), due, x -> made.make(x, n));
        }
    }

    interface Numbered {
        long make(LabourExchange x, int number);
    }

    /** That the land is as its comment says, or else what is refused below would be refused for other reasons. */
    private static void wholeLand() {
        LabourExchange x = Land.whole().x;
        int[] counts = {330, 2, 3, 9, 1, 4, 3, 4, 2, 3, 40};
        for (int what = 0; what < counts.length; what++) {
            CHECK.due("whole land, count " + what, counts[what], x.count(what));
        }
        int[][] kinds = {{0, 7}, {1, 3}, {2, 7}};
        for (int[] kind : kinds) {
            CHECK.due("whole land, person " + kind[0], kind[1], x.day(kind[0], 326, 0));
        }
        CHECK.due("VACANCY 3 at office 0", 332, x.known(3, 0));
        CHECK.due("taken", 1, x.offerOf(0, 4));
        CHECK.due("refused", 2, x.offerOf(1, 4));
        CHECK.due("not SUITABLE", 0, x.offerOf(2, 2));
        CHECK.due("CLEARED", 8, x.told(7, 0));
        CHECK.due("a TRY: eleven DAYS of person 0 and eight of person 1", 19 * 5, x.tried(8, 0));
    }

    /** Promises 2 to 4. */
    private static void tellingLands() {
        each("office(#, 0)", -1, (x, n) -> x.office(n, 0), -1, 100, MIN, MAX);
        each("office(0, #)", -1, (x, n) -> x.office(0, n), -1, 100, MIN, MAX);
        each("person of trade #", -1, (x, n) -> x.person(n, 30, 0, 20, 5), -1, 8, MIN, MAX);
        each("person of age #", -1, (x, n) -> x.person(0, n, 0, 20, 5), 13, 91, MIN, MAX);
        each("person of office #", -1, (x, n) -> x.person(0, 30, n, 20, 5), -1, 2, MIN, MAX);
        each("person of wage #", -1, (x, n) -> x.person(0, 30, 0, n, 5), 0, 1000, -1, MIN, MAX);
        each("person of family #", -1, (x, n) -> x.person(0, 30, 0, 20, n), -1, 100, MIN, MAX);
    }

    /** Promises 5 to 7. */
    private static void tellingBooks() {
        each("book of person #", NO, (x, n) -> Answer.one(x.book(n, 0, 20)), -1, 3, MIN, MAX);
        each("nobody's missing row, #", NO, (x, n) -> Answer.one(x.book(n, 0, -1)), -1, 3, MIN, MAX);
        each("book of year #", 0, (x, n) -> Answer.one(x.book(0, n, 20)), -1, 3, MIN, MAX);
        each("a missing row of year #", 0, (x, n) -> Answer.one(x.book(0, n, -1)), -1, 3, MIN, MAX);
        each("book of # bytes", 0, (x, n) -> Answer.one(x.book(0, 0, n)), 41, 52, 53, -2, MIN, MAX);
        each("return of person #", NO, (x, n) -> Answer.one(x.returns(n, 0, 0)), -1, 3, MIN, MAX);
        each("return of week #", 0, (x, n) -> Answer.one(x.returns(0, n, 0)), -1, 156, MIN, MAX);
        each("return of # days", 0, (x, n) -> Answer.one(x.returns(0, 0, n)), -2, 7, MIN, MAX);
        each("stamps of person #", NO, (x, n) -> x.stamps(n, 0), -1, 3, MIN, MAX);
        each("stamps of week #", NO, (x, n) -> x.stamps(0, n), -1, 156, MIN, MAX);
    }

    /** Promise 8: with an exception nothing changes, the tape and the place of the latest FAULT neither. */
    private static void texts() {
        each("text of # bytes", BAD, (x, n) -> x.text(n, 312, 400), 41, -1, MIN, MAX);
        each("text of # bytes, from a DAY that isn't", BAD, (x, n) -> x.text(n, -1, 936), 41, -1);
        each("attempt of # bytes", BAD, (x, n) -> x.attempt(n, 312, 400), 41, -1, MIN, MAX);
        each("attempt of # bytes, from a DAY that isn't", BAD, (x, n) -> x.attempt(n, -1, 936), 41, -1);
        in(() -> {
            Land land = Land.whole();
            land.x.text(0, 0, 0);
            land.text("set wait x;");
            return land.x;
        });
        each("text of # bytes behind a FAULT", BAD, (x, n) -> x.text(n, 312, 400), 1, -1);
        each("attempt of # bytes behind a FAULT", BAD, (x, n) -> x.attempt(n, 312, 400), 1, -1);
        in(() -> Land.whole().x);
    }

    /** Promises 10 to 12. */
    private static void events() {
        each("event of kind #", NO, (x, n) -> x.event(n, 0, 0, 312), -1, 7, 8, 9, MIN, MAX);
        each("event of person #", NO, (x, n) -> x.event(5, n, 0, 312), -1, 3, MIN, MAX);
        each("event on day #", -1, (x, n) -> x.event(5, 0, 0, n), 311, 331, 0, -1, MIN, MAX);
        int[] least = {0, 1, 0, 0, 0, 0, 1};
        int[] most = {3, 999, 0, 0, 0, 9999, 6};
        for (int kind = 0; kind <= 6; kind++) {
            int k = kind;
            each("event of kind " + k + ", number #", -1, (x, n) -> x.event(k, 0, n, 312), least[k] - 1, most[k] + 1,
                MIN, MAX);
        }
        each("back #", NO, (x, n) -> Answer.one(x.back(n)), -1, 9, MIN, MAX);
        refused("back of what was", 0, x -> Answer.one(x.back(8)));
        each("told of event #", NO, (x, n) -> x.told(n, 0), -1, 9, MIN, MAX);
        each("told what #", NO, (x, n) -> x.told(0, n), -1, 7, MIN, MAX);
    }

    /** Promises 13 and 14. */
    private static void time() {
        each("days #", BAD, (x, n) -> x.days(n), -1, 121, MIN, MAX);
        each("look #", BAD, (x, n) -> x.look(n), 311, 331, 0, -2, 935, MIN, MAX);
    }

    /** Promises 15 to 20. */
    private static void asking() {
        each("day of person #", NO, (x, n) -> x.day(n, 312, 0), -1, 3, MIN, MAX);
        each("day #", NO, (x, n) -> x.day(0, n, 0), 311, 327, 330, -1, MIN, MAX);
        each("day what #", NO, (x, n) -> x.day(0, 312, n), -1, 4, MIN, MAX);
        each("claim of person #", NO, (x, n) -> x.claim(n, 0, 0), -1, 3, MIN, MAX);
        each("claim #", NO, (x, n) -> x.claim(0, n, 0), -1, 1, MIN, MAX);
        each("claim of one without, #", NO, (x, n) -> x.claim(2, n, 0), -1, 0);
        each("claim what #", NO, (x, n) -> x.claim(0, 0, n), -1, 11, MIN, MAX);
        each("value of person #", NO, (x, n) -> x.value(n, 0), -1, 3, MIN, MAX);
        each("value #", NO, (x, n) -> x.value(0, n), -1, 9, MIN, MAX);
        each("law #", NO, (x, n) -> x.law(n, 312), -1, 8, 9, 18, MIN, MAX);
        each("law on #", NO, (x, n) -> x.law(0, n), -1, 936, MIN, MAX);
        each("a TRADE's law on #", NO, (x, n) -> x.law(10, n), -1, 936, MIN, MAX);
        each("paid to #", NO, (x, n) -> x.paid(n, 0), -1, 3, MIN, MAX);
        each("paid #", NO, (x, n) -> x.paid(0, n), -1, 3, MIN, MAX);
        each("fund #", NO, (x, n) -> x.fund(n), -1, 4, MIN, MAX);
        each("count #", NO, (x, n) -> x.count(n), -1, 11, MIN, MAX);
    }

    /** Promises 21, 22, 27 and 28. */
    private static void market() {
        each("vacancy of office #", -1, (x, n) -> x.vacancy(n, 0, 5, 5), -1, 2, MIN, MAX);
        each("vacancy of trade #", -1, (x, n) -> x.vacancy(0, n, 5, 5), -1, 8, MIN, MAX);
        each("vacancy of wage #", -1, (x, n) -> x.vacancy(0, 0, n, 5), 0, 1000, -1, MIN, MAX);
        each("vacancy of worth #", -1, (x, n) -> x.vacancy(0, 0, 5, n), -1, 1000, MIN, MAX);
        each("known of vacancy #", NO, (x, n) -> x.known(n, 0), -1, 4, MIN, MAX);
        each("known at office #", NO, (x, n) -> x.known(0, n), -1, 2, MIN, MAX);
        each("sent #", NO, (x, n) -> x.sent(n), -1, 3, MIN, MAX);
        each("price what #", 0, (x, n) -> Answer.one(x.price(n, 0, 5)), -1, 2, MIN, MAX);
        each("price of person #", 0, (x, n) -> Answer.one(x.price(0, n, 5)), -1, 3, MIN, MAX);
        each("price of vacancy #", 0, (x, n) -> Answer.one(x.price(1, n, 5)), -1, 4, MIN, MAX);
        each("price # of a person", 0, (x, n) -> Answer.one(x.price(0, 1, n)), -1, 10000, MIN, MAX);
        each("price # of a vacancy", 0, (x, n) -> Answer.one(x.price(1, 2, n)), -1, 10000, MIN, MAX);
    }

    /** Promises 23 to 25. */
    private static void offers() {
        each("offer to person #", NO, (x, n) -> x.offer(n, 2), -1, 3, MIN, MAX);
        each("offer of vacancy #", NO, (x, n) -> x.offer(1, n), -1, 4, MIN, MAX);
        each("offer to #, who has no open CLAIM", -1, (x, n) -> x.offer(n, 2), 0, 2);
        each("offer of #, filled or not KNOWN there", -1, (x, n) -> x.offer(1, n), 0, 3);
        each("offerOf #", NO, (x, n) -> x.offerOf(n, 0), -1, 4, MIN, MAX);
        each("offerOf what #", NO, (x, n) -> x.offerOf(0, n), -1, 5, MIN, MAX);
        each("answer # is taken", NO, (x, n) -> x.answer(n, true), -1, 4, MIN, MAX);
        each("answer # is refused", NO, (x, n) -> x.answer(n, false), -1, 4, MIN, MAX);
        each("answer #, of which something became, is taken", -1, (x, n) -> x.answer(n, true), 0, 1);
        each("answer #, of which something became, is refused", -1, (x, n) -> x.answer(n, false), 0, 1);
        each("answer # is taken, its VACANCY is filled", -1, (x, n) -> x.answer(n, true), 3);
    }

    /** Promises 30 to 33. */
    private static void courts() {
        each("judge of list #", -1, (x, n) -> x.judge(n, 5), -1, 3, MIN, MAX);
        each("judge of family #", -1, (x, n) -> x.judge(0, n), -1, 100, MIN, MAX);
        each("appeal of event #", NO, (x, n) -> x.appeal(n), -1, 9, MIN, MAX);
        each("appeal of event #, of another kind", -1, (x, n) -> x.appeal(n), 1, 6, 7, 8);
        each("appeal of event #, in a CASE", -1, (x, n) -> x.appeal(n), 0, 4);
        each("appeal of event #, without a court", -1, (x, n) -> x.appeal(n), 2, 5);
        each("close of case #, allowed", NO, (x, n) -> Answer.one(x.close(n, true)), -1, 2, MIN, MAX);
        each("close of case #, not allowed", NO, (x, n) -> Answer.one(x.close(n, false)), -1, 2, MIN, MAX);
        refused("close of what was, allowed", 0, x -> Answer.one(x.close(0, true)));
        refused("close of what was, not allowed", 0, x -> Answer.one(x.close(0, false)));
        each("caseOf #", NO, (x, n) -> x.caseOf(n, 0), -1, 2, MIN, MAX);
        each("caseOf what #", NO, (x, n) -> x.caseOf(0, n), -1, 8, MIN, MAX);
        in(() -> {
            LabourExchange x = Land.whole().x;
            x.judge(2, 9);
            x.event(0, 1, 0, 312);
            x.back(9);
            x.back(2);
            return x;
        });
        each("appeal of event #, TAKEN BACK", -1, (x, n) -> x.appeal(n), 9, 2);
        in(() -> Land.whole().x);
    }

    /** Promise 35, and a TRY that ends in a FAULT: the tape and the place of the FAULT change, nothing else. */
    private static void tries() {
        each("tried of trade #", NO, (x, n) -> x.tried(n, 0), -1, 9, MIN, MAX);
        each("tried what #", NO, (x, n) -> x.tried(0, n), -1, 3, MIN, MAX);
        in(() -> {
            LabourExchange x = Land.whole().x;
            x.text(0, 0, 0);
            return x;
        });
        each("attempt from #", 9, (x, n) -> x.attempt(0, n, 400), -1, 936, MIN, MAX);
        each("attempt to #", 9, (x, n) -> x.attempt(0, 312, n), -1, 936, MIN, MAX);
        each("text from #", -9, (x, n) -> x.text(0, n, 400), -1, 936, MIN, MAX);
        each("text to #", -9, (x, n) -> x.text(0, 312, n), -1, 936, MIN, MAX);
    }

    /** A new object has no people, OFFICES, VACANCIES, EVENTS, OFFERS, CASES and TRIES to be asked of. */
    private static void newLand() {
        in(LabourExchange::new);
        refused("person without an OFFICE", -1, x -> x.person(0, 30, 0, 20, 5));
        refused("vacancy without an OFFICE", -1, x -> x.vacancy(0, 0, 5, 5));
        refused("book", NO, x -> Answer.one(x.book(0, 0, 0)));
        refused("a missing row", NO, x -> Answer.one(x.book(0, 0, -1)));
        refused("returns", NO, x -> Answer.one(x.returns(0, 0, 0)));
        refused("stamps", NO, x -> x.stamps(0, 0));
        refused("text of what isn't there", BAD, x -> x.text(1, 312, 400));
        refused("attempt of what isn't there", BAD, x -> x.attempt(1, 312, 400));
        refused("event", NO, x -> x.event(5, 0, 0, 312));
        refused("back", NO, x -> Answer.one(x.back(0)));
        refused("told", NO, x -> x.told(0, 0));
        refused("look ahead", BAD, x -> x.look(311));
        refused("look behind", BAD, x -> x.look(313));
        refused("day", NO, x -> x.day(0, 312, 0));
        refused("claim", NO, x -> x.claim(0, 0, 0));
        refused("value", NO, x -> x.value(0, 0));
        refused("paid", NO, x -> x.paid(0, 0));
        refused("known", NO, x -> x.known(0, 0));
        refused("offer", NO, x -> x.offer(0, 0));
        refused("offerOf", NO, x -> x.offerOf(0, 0));
        refused("answer", NO, x -> x.answer(0, true));
        refused("sent", NO, x -> x.sent(0));
        refused("price of nobody", 0, x -> Answer.one(x.price(0, 0, 5)));
        refused("price of no VACANCY", 0, x -> Answer.one(x.price(1, 0, 5)));
        refused("appeal", NO, x -> x.appeal(0));
        refused("close", NO, x -> Answer.one(x.close(0, true)));
        refused("caseOf", NO, x -> x.caseOf(0, 0));
        refused("tried", NO, x -> x.tried(8, 0));
        CHECK.due("sending nobody is not refused", 0, new LabourExchange().send());
        CHECK.due("nor are no PRICES", 0, new LabourExchange().proves());
        CHECK.due("nor an empty TEXT", 0, new LabourExchange().text(0, 0, 0));
        CHECK.due("nor a TRY of it", 0, new LabourExchange().attempt(0, 0, 0));
    }

    /** What is full: the last that can be is told when the land is made, and one more is refused. */
    private static void full() {
        full("offices", 6, (x, i) -> x.office(i, i), i -> i + 2);
        refused("a ninth office", -1, x -> x.office(0, 0));
        full("people", 17, (x, i) -> x.person(0, 30, 0, 20, 5), i -> i + 3);
        refused("a 21st person", -1, x -> x.person(0, 30, 0, 20, 5));
        full("the tape", 28, (x, i) -> x.feed(i, i, i, i, i), i -> 20 * i + 60);
        refused("more than 600 bytes", -1, x -> x.feed(1, 2, 3, 4, 5));
        full("rows", 58, (x, i) -> Answer.one(x.book(2, 2, -1)), i -> 1);
        refused("a 61st row", 0, x -> Answer.one(x.book(0, 0, 20)));
        refused("a 61st row, empty", 0, x -> Answer.one(x.book(0, 0, 0)));
        refused("a 61st row, missing", 0, x -> Answer.one(x.book(0, 0, -1)));
        refused("a 61st row, nobody's", NO, x -> Answer.one(x.book(3, 0, -1)));
        full("returns", 98, (x, i) -> Answer.one(x.returns(2, i, 5)), i -> 1);
        refused("a 101st return", 0, x -> Answer.one(x.returns(0, 51, 1)));
        refused("a 101st return, not told", 0, x -> Answer.one(x.returns(0, 51, -1)));
        refused("a 101st return, nobody's", NO, x -> Answer.one(x.returns(3, 51, 1)));
        full("events", 151, (x, i) -> x.event(5, 2, i, 312), i -> i + 9);
        refused("a 161st event", -1, x -> x.event(5, 0, 1, 312));
        refused("a 161st event, nobody's", NO, x -> x.event(5, 3, 1, 312));
        refused("a 161st event, of no kind", NO, x -> x.event(7, 0, 1, 312));
        refused("a 161st event, refusing", -1, x -> x.answer(2, false));
        refused("a 161st event, taking", -1, x -> x.answer(2, true));
        refused("a 161st event, clearing", 0, x -> Answer.one(x.close(1, true)));
        fullMarket();
    }

    private static void fullMarket() {
        full("texts", 15, (x, i) -> x.text(0, 312 + i, 935), i -> i + 1);
        refused("a 17th text", -9, x -> x.text(0, 312, 935));
        full("vacancies", 20, (x, i) -> x.vacancy(0, 0, 5, i), i -> i + 4);
        refused("a 25th vacancy", -1, x -> x.vacancy(0, 0, 5, 5));
        full("offers", 56, (x, i) -> x.offer(1, 1 + i % 2), i -> i + 4);
        refused("a 61st offer", -1, x -> x.offer(1, 2));
        refused("a 61st offer, to nobody", NO, x -> x.offer(3, 2));
        refused("a 61st offer, of nothing", NO, x -> x.offer(1, 4));
        full("judges", 15, (x, i) -> x.judge(i % 3, 30 + i), i -> i + 3);
        refused("a 19th judge", -1, x -> x.judge(0, 1));
        full("cases", 28, (x, i) -> x.appeal(x.event(0, 0, 1, 312)), i -> i + 2);
        refused("a 31st case", -1, x -> x.appeal(2));
        refused("a 31st case, of no event", NO, x -> x.appeal(37));
    }

    interface Due {
        long of(int i);
    }

    /** From now on the whole land, filled by so many calls more of which each answers what is due. */
    private static void full(String what, int calls, Numbered call, Due due) {
        LabourExchange once = Land.whole().x;
        for (int i = 0; i < calls; i++) {
            CHECK.due(what + " till full, " + i, due.of(i), call.make(once, i));
        }
        in(() -> {
            LabourExchange x = Land.whole().x;
            for (int i = 0; i < calls; i++) {
                call.make(x, i);
            }
            return x;
        });
    }
}
