import java.util.ArrayList;
import java.util.List;

/**
 * What an object tells, asked call by call: two objects of which one had a refused call more must tell the same. Of
 * long rows the first two and the last are asked, so that an object stays under its 512 calls.
 */
final class Sight {
    private final LabourExchange x;
    private final List<String> told = new ArrayList<>();

    private Sight(LabourExchange x) {
        this.x = x;
    }

    /** All that is told now, and what further calls answer behind that. */
    static List<String> of(LabourExchange x) {
        Sight sight = new Sight(x);
        sight.counts();
        sight.people();
        sight.rest();
        sight.further();
        return sight.told;
    }

    private void ask(String call, Answer.Call made) {
        told.add(call + " answered " + Answer.name(Answer.of(made)));
    }

    private static int[] ends(int count) {
        return count == 0 ? new int[] {} : count == 1 ? new int[] {0} : count == 2 ? new int[] {0, 1}
            : new int[] {0, 1, count - 1};
    }

    private void counts() {
        for (int what = 0; what <= 10; what++) {
            int w = what;
            ask("count " + w, () -> x.count(w));
        }
        ask("fault", x::fault);
        int theDay = x.look(-1);
        x.look(theDay);
        told.add("THE DAY " + theDay);
        for (int what = 0; what <= 3; what++) {
            int w = what;
            ask("fund " + w, () -> x.fund(w));
        }
        for (int what = 0; what <= 17; what++) {
            int w = what;
            ask("law " + w, () -> x.law(w, 312));
        }
    }

    private void people() {
        int theDay = x.look(-1);
        int last = theDay == -1 ? x.count(0) : theDay;
        x.look(theDay);
        for (int person : ends(x.count(2))) {
            int p = person;
            for (int week : new int[] {0, 51, 52, 155}) {
                ask("stamps " + p + ", " + week, () -> x.stamps(p, week));
            }
            for (int what = 0; what <= 8; what++) {
                int w = what;
                ask("value " + p + ", " + w, () -> x.value(p, w));
            }
            for (int what = 0; what <= 3; what++) {
                int w = what;
                ask("paid " + p + ", " + w, () -> x.paid(p, w));
                ask("first day " + p + ", " + w, () -> x.day(p, 312, w));
                ask("last day " + p + ", " + w, () -> x.day(p, last, w));
            }
            for (int what = 0; what <= 10; what++) {
                int w = what;
                ask("claim " + p + ", " + w, () -> x.claim(p, 0, w));
            }
            ask("second claim " + p, () -> x.claim(p, 1, 0));
            ask("sent " + p, () -> x.sent(p));
        }
    }

    private void rest() {
        for (int e : ends(x.count(3))) {
            asks("told", e, 6, (number, what) -> x.told(number, what));
        }
        for (int v : ends(x.count(5))) {
            asks("known", v, 1, (number, what) -> x.known(number, what));
        }
        for (int o : ends(x.count(7))) {
            asks("offerOf", o, 4, (number, what) -> x.offerOf(number, what));
        }
        for (int c : ends(x.count(8))) {
            asks("caseOf", c, 7, (number, what) -> x.caseOf(number, what));
        }
        asks("tried", 0, 2, (number, what) -> x.tried(number, what));
        asks("tried", 8, 2, (number, what) -> x.tried(number, what));
        ask("proves", x::proves);
    }

    interface Asking {
        long of(int number, int what);
    }

    private void asks(String call, int number, int most, Asking asking) {
        for (int what = 0; what <= most; what++) {
            int w = what;
            ask(call + " " + number + ", " + w, () -> asking.of(number, w));
        }
    }

    /** The numbers that further calls get, and what the tape holds as it shows in a row. */
    private void further() {
        ask("THE DAY till now", () -> x.look(-1));
        ask("next row", () -> Answer.one(x.book(0, 1, Math.min(52, x.count(10)))));
        for (int week : new int[] {52, 53, 71, 72, 91, 92}) {
            ask("of the tape, week " + week, () -> x.stamps(0, week));
        }
        ask("next feed", () -> x.feed(1, 2, 3, 4, 5));
        ask("next text", () -> x.text(0, 0, 935));
        ask("next office", () -> x.office(9, 9));
        ask("next person", () -> x.person(1, 50, 0, 9, 9));
        ask("next return", () -> Answer.one(x.returns(0, 155, 4)));
        ask("next event", () -> x.event(5, 0, 55, 312));
        ask("its means", () -> x.value(0, 7));
        ask("next vacancy", () -> x.vacancy(0, 1, 9, 9));
        ask("next judge", () -> x.judge(0, 99));
        ask("next offer", () -> x.offer(1, 2));
        ask("next case", () -> x.appeal(2));
        ask("next close", () -> Answer.one(x.close(1, false)));
        ask("next send", x::send);
        ask("sent", () -> x.sent(1));
        ask("days", () -> x.days(6));
        for (int what = 0; what <= 3; what++) {
            int w = what;
            ask("fund behind a WEEK " + w, () -> x.fund(w));
            ask("paid behind a WEEK " + w, () -> x.paid(1, w));
        }
    }
}
