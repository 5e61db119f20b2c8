/** Promises 10 to 12: events told, taken back, and what they do. */
public final class EventTest {
    private static final Check CHECK = new Check();
    private static final int LEAVES = 0;
    private static final int HIRED = 1;
    private static final int SIGNS = 2;
    private static final int AWAY = 3;
    private static final int BACK = 4;
    private static final int MEANS = 5;
    private static final int SHORT = 6;

    public static void main(String[] args) {
        wrongOnes();
        limit();
        takenBack();
        toldOf();
        whatCannotBe();
        orderOfADay();
        asKnown();
        CHECK.end();
    }

    /** Promise 10. */
    private static void wrongOnes() {
        LabourExchange x = Land.of(1).x;
        x.days(3);
        CHECK.noElement("nobody", () -> x.event(0, 1, 0, 312));
        CHECK.noElement("person -1", () -> x.event(0, -1, 0, 312));
        CHECK.noElement("kind -1", () -> x.event(-1, 0, 0, 312));
        CHECK.noElement("kind 7", () -> x.event(7, 0, 0, 312));
        CHECK.noElement("kind 8", () -> x.event(8, 0, 0, 312));
        CHECK.due("day 311", -1, x.event(0, 0, 0, 311));
        CHECK.due("tomorrow", -1, x.event(0, 0, 0, 316));
        int[] least = {0, 1, 0, 0, 0, 0, 1};
        int[] most = {3, 999, 0, 0, 0, 9999, 6};
        int events = 0;
        for (int kind = 0; kind <= 6; kind++) {
            CHECK.due("number below, kind " + kind, -1, x.event(kind, 0, least[kind] - 1, 312));
            CHECK.due("number above, kind " + kind, -1, x.event(kind, 0, most[kind] + 1, 312));
            CHECK.due("least number, kind " + kind, events++, x.event(kind, 0, least[kind], 312));
            CHECK.due("most, kind " + kind, events++, x.event(kind, 0, most[kind], 315));
        }
        CHECK.due("events", events, x.count(3));
    }

    private static void limit() {
        LabourExchange x = Land.of(1).x;
        for (int i = 0; i < 160; i++) {
            CHECK.due("event " + i, i, x.event(MEANS, 0, i, 312));
        }
        CHECK.due("161st", -1, x.event(MEANS, 0, 1, 312));
        CHECK.noElement("161st of no kind", () -> x.event(9, 0, 1, 312));
        CHECK.due("means", 159, x.value(0, 7));
    }

    /** Promise 11. */
    private static void takenBack() {
        LabourExchange x = Land.of(1).x;
        CHECK.noElement("no event", () -> x.back(0));
        x.event(LEAVES, 0, 0, 312);
        CHECK.noElement("event -1", () -> x.back(-1));
        CHECK.noElement("event 1", () -> x.back(1));
        x.days(4);
        CHECK.due("OUT", 9, x.day(0, 316, 0));
        CHECK.due("taken back", true, x.back(0));
        CHECK.due("it was", false, x.back(0));
        CHECK.due("IN WORK", 7, x.day(0, 316, 0));
        CHECK.due("ever since", 7, x.day(0, 312, 0));
        x.event(LEAVES, 0, 3, 312);
        x.event(MEANS, 0, 9, 312);
        CHECK.due("reason", 3, x.value(0, 8));
        CHECK.due("means", 9, x.value(0, 7));
        x.back(1);
        x.back(2);
        CHECK.due("no reason", 0, x.value(0, 8));
        CHECK.due("no means", 0, x.value(0, 7));
        x.look(315);
        CHECK.due("known on the day ahead", 9, x.day(0, 315, 0));
        x.look(316);
        CHECK.due("not on that day", 7, x.day(0, 312, 0));
    }

    /** Promise 12. */
    private static void toldOf() {
        LabourExchange x = Land.of(2).x;
        x.days(5);
        x.event(HIRED, 1, 44, 313);
        int[] want = {1, 1, 44, 313, 317, -1, 0};
        for (int what = 0; what < want.length; what++) {
            CHECK.due("told " + what, want[what], x.told(0, what));
        }
        x.days(1);
        x.back(0);
        CHECK.due("taken back on", 318, x.told(0, 5));
        x.look(317);
        CHECK.due("taken back on, whenever it is asked", 318, x.told(0, 5));
        CHECK.noElement("what -1", () -> x.told(0, -1));
        CHECK.noElement("what 7", () -> x.told(0, 7));
        CHECK.noElement("event 1", () -> x.told(1, 0));
        CHECK.noElement("event -1", () -> x.told(-1, 0));
    }

    private static LabourExchange x;
    private static int person;

    private static void does(int want, int kind, int number) {
        int e = x.event(kind, person, number, x.count(0));
        CHECK.due("event " + e + " of kind " + kind + ": does", want, x.told(e, 6));
    }

    private static void whatCannotBe() {
        Land land = Land.of(2);
        x = land.x;
        person = 1;
        land.text("insure 1;");
        does(0, HIRED, 5);
        does(0, SIGNS, 0);
        does(0, BACK, 0);
        does(0, SHORT, 6);
        does(1, MEANS, 7);
        does(1, SHORT, 2);
        does(1, SHORT, 3);
        does(1, SIGNS, 0);
        does(0, SIGNS, 0);
        does(1, SHORT, 6);
        CHECK.due("SHORT no more: the CLAIM closes", 7, x.day(1, 312, 0));
        does(0, SHORT, 6);
        does(0, SIGNS, 0);
        does(1, AWAY, 0);
        CHECK.due("AWAY though IN WORK", 8, x.day(1, 312, 0));
        does(0, AWAY, 0);
        does(1, LEAVES, 3);
        does(0, LEAVES, 3);
        does(0, SHORT, 2);
        does(0, HIRED, 5);
        does(0, SIGNS, 0);
        does(1, BACK, 0);
        does(0, BACK, 0);
        CHECK.due("OUT", 9, x.day(1, 312, 0));
        does(1, SIGNS, 0);
        CHECK.due("JOINED", 1, x.claim(1, 0, 7));
        does(1, HIRED, 5);
        does(0, HIRED, 5);
        CHECK.due("IN WORK", 7, x.day(1, 312, 0));
        person = 0;
        does(1, LEAVES, 0);
        does(0, SIGNS, 0);
        CHECK.due("a TRADE that isn't insured", 9, x.day(0, 312, 0));
    }

    private static void orderOfADay() {
        Land land = Land.of(1);
        land.text("insure 0;");
        land.x.days(2);
        int signs = land.x.event(SIGNS, 0, 0, 313);
        int leaves = land.x.event(LEAVES, 0, 0, 313);
        CHECK.due("by number: it came ahead of leaving", 0, land.x.told(signs, 6));
        int again = land.x.event(SIGNS, 0, 0, 313);
        CHECK.due("behind leaving", 1, land.x.told(again, 6));
        int earlier = land.x.event(LEAVES, 0, 1, 312);
        CHECK.due("by DAYS first", 1, land.x.told(earlier, 6));
        CHECK.due("one told first but later", 0, land.x.told(leaves, 6));
        CHECK.due("now it can be", 1, land.x.told(signs, 6));
        CHECK.due("and this can't", 0, land.x.told(again, 6));
    }

    private static void asKnown() {
        LabourExchange y = Land.of(1).x;
        y.days(10);
        y.event(LEAVES, 0, 0, 312);
        y.look(321);
        CHECK.due("not known yet: does nothing", 0, y.told(0, 6));
        CHECK.due("not known yet", 7, y.day(0, 321, 0));
        y.look(322);
        CHECK.due("known", 1, y.told(0, 6));
        CHECK.due("worked anew", 9, y.day(0, 312, 0));
        y.days(1);
        CHECK.due("THE DAY stays", 1, y.told(0, 6));
        y.look(-1);
        y.back(0);
        CHECK.due("taken back: does nothing", 0, y.told(0, 6));
        y.look(322);
        CHECK.due("it did", 1, y.told(0, 6));
    }
}
