/** Promises 1 to 7: a new object, offices, people, the tape, books and returns. */
public final class TellTest {
    private static final Check CHECK = new Check();

    public static void main(String[] args) {
        newObject();
        offices();
        people();
        tape();
        books();
        bookLimits();
        returns();
        stamps();
        CHECK.end();
    }

    /** Promise 1. */
    private static void newObject() {
        LabourExchange x = new LabourExchange();
        CHECK.due("NONE", -1, LabourExchange.NONE);
        CHECK.due("TODAY at first", 312, x.count(0));
        for (int what = 1; what <= 10; what++) {
            CHECK.due("count at first " + what, 0, x.count(what));
        }
        CHECK.due("fault at first", -1, x.fault());
        CHECK.due("fund at first", 10000, x.fund(0));
        CHECK.due("THE DAY at first", -1, x.look(312));
        CHECK.due("wait at first", 3, x.law(0, 312));
    }

    /** Promise 2. */
    private static void offices() {
        LabourExchange x = new LabourExchange();
        CHECK.due("x below", -1, x.office(-1, 0));
        CHECK.due("x above", -1, x.office(100, 0));
        CHECK.due("y below", -1, x.office(0, -1));
        CHECK.due("y above", -1, x.office(0, 100));
        for (int i = 0; i < 8; i++) {
            CHECK.due("office " + i, i, x.office(i % 2 == 0 ? 0 : 99, i % 2 == 0 ? 99 : 0));
        }
        CHECK.due("ninth office", -1, x.office(0, 0));
        CHECK.due("offices", 8, x.count(1));
    }

    /** Promise 3. */
    private static void people() {
        LabourExchange x = new LabourExchange();
        CHECK.due("no office yet", -1, x.person(0, 30, 0, 20, 5));
        x.office(0, 0);
        int[][] wrong = {{-1, 30, 0, 20, 5}, {8, 30, 0, 20, 5}, {0, 13, 0, 20, 5}, {0, 91, 0, 20, 5},
            {0, 30, -1, 20, 5}, {0, 30, 1, 20, 5}, {0, 30, 0, 0, 5}, {0, 30, 0, 1000, 5}, {0, 30, 0, 20, -1},
            {0, 30, 0, 20, 100}};
        for (int i = 0; i < wrong.length; i++) {
            int[] w = wrong[i];
            CHECK.due("wrong person " + i, -1, x.person(w[0], w[1], w[2], w[3], w[4]));
        }
        CHECK.due("least", 0, x.person(0, 14, 0, 1, 0));
        CHECK.due("most", 1, x.person(7, 90, 0, 999, 99));
        CHECK.due("IN WORK at first", 7, x.day(1, 312, 0));
        for (int i = 2; i < 20; i++) {
            CHECK.due("person " + i, i, x.person(0, 30, 0, 20, 5));
        }
        CHECK.due("21st person", -1, x.person(0, 30, 0, 20, 5));
        CHECK.due("people", 20, x.count(2));
    }

    /** Promise 4. */
    private static void tape() {
        Land land = Land.of(1);
        LabourExchange x = land.x;
        CHECK.due("twenty", 20, x.feed(0x01020304, 0x05060001, 0x02030405, 0x06010203, 0x04050601));
        CHECK.due("row of the tape", true, x.book(0, 0, 20));
        int[] want = {1, 2, 3, 4, 5, 6, 0, 1, 2, 3, 4, 5, 6, 1, 2, 3, 4, 5, 6, 1};
        for (int week = 0; week < 20; week++) {
            CHECK.due("highest byte first, week " + week, want[week], x.stamps(0, week));
        }
        for (int i = 1; i <= 30; i++) {
            CHECK.due("feed " + i, 20 * i, x.feed(-1, -1, -1, -1, -1));
        }
        CHECK.due("full tape", -1, x.feed(1, 2, 3, 4, 5));
        CHECK.due("bytes", 600, x.count(10));
    }

    /** Promise 5. */
    private static void books() {
        Land land = Land.of(1);
        LabourExchange x = land.x;
        CHECK.noElement("book of nobody", () -> x.book(1, 0, 0));
        CHECK.noElement("book of -1", () -> x.book(-1, 0, 0));
        CHECK.due("nothing on the tape", false, x.book(0, 0, 1));
        CHECK.due("empty row", true, x.book(0, 0, 0));
        Land.feed(x, new byte[60]);
        CHECK.due("53", false, x.book(0, 0, 53));
        CHECK.due("-2", false, x.book(0, 0, -2));
        CHECK.due("year 3", false, x.book(0, 3, 1));
        CHECK.due("year -1", false, x.book(0, -1, 1));
        CHECK.due("tape stays", 60, x.count(10));
        CHECK.due("missing", true, x.book(0, 0, -1));
        CHECK.due("tape stays when missing", 60, x.count(10));
        CHECK.due("52", true, x.book(0, 2, 52));
        CHECK.due("tape is empty then", 0, x.count(10));
        CHECK.due("stamps of year 2", 0, x.stamps(0, 104));
        CHECK.due("year 1 is missing", -1, x.stamps(0, 52));
        CHECK.due("cut", true, land.row(0, 1, 7, 100, -1, -128, 6, 0));
        int[] want = {6, 6, 0, 0, 6, 0, -1};
        for (int i = 0; i < want.length; i++) {
            CHECK.due("cut stamps " + i, want[i], x.stamps(0, 52 + i));
        }
        CHECK.due("row missing from now on", true, x.book(0, 1, -1));
        CHECK.due("missing now", -1, x.stamps(0, 52));
    }

    private static void bookLimits() {
        Land land = Land.of(2);
        LabourExchange x = land.x;
        for (int i = 0; i < 60; i++) {
            CHECK.due("row " + i, true, x.book(i % 2, i % 3, i % 7 == 0 ? -1 : 0));
        }
        CHECK.due("61st row", false, x.book(0, 0, 0));
        CHECK.due("61st row missing", false, x.book(0, 0, -1));
        CHECK.noElement("nobody's 61st row", () -> x.book(2, 0, 0));
    }

    /** Promise 6. */
    private static void returns() {
        Land land = Land.of(1);
        LabourExchange x = land.x;
        CHECK.noElement("return of nobody", () -> x.returns(1, 0, 0));
        CHECK.due("week -1", false, x.returns(0, -1, 0));
        CHECK.due("week 156", false, x.returns(0, 156, 0));
        CHECK.due("7 days", false, x.returns(0, 0, 7));
        CHECK.due("-2 days", false, x.returns(0, 0, -2));
        CHECK.due("first week", true, x.returns(0, 0, 0));
        CHECK.due("last week", true, x.returns(0, 155, 6));
        CHECK.due("told 0", 0, x.stamps(0, 0));
        CHECK.due("told 6", 6, x.stamps(0, 155));
        CHECK.due("not told from now on", true, x.returns(0, 155, -1));
        CHECK.due("not told", -1, x.stamps(0, 155));
        for (int i = 3; i < 100; i++) {
            CHECK.due("return " + i, true, x.returns(0, i, i % 7));
        }
        CHECK.due("101st", false, x.returns(0, 0, 1));
        CHECK.due("as before", 0, x.stamps(0, 0));
    }

    /** Promise 7. */
    private static void stamps() {
        Land land = Land.of(2);
        LabourExchange x = land.x;
        CHECK.noElement("stamps of nobody", () -> x.stamps(2, 0));
        CHECK.noElement("week -1", () -> x.stamps(0, -1));
        CHECK.noElement("week 156", () -> x.stamps(0, 156));
        land.row(0, 0, 3, 3, 3, 9);
        x.returns(0, 0, 3);
        x.returns(0, 1, 4);
        x.returns(0, 3, 6);
        x.returns(0, 4, 2);
        CHECK.due("like", 3, x.stamps(0, 0));
        CHECK.due("QUARREL", 13, x.stamps(0, 1));
        CHECK.due("row alone", 3, x.stamps(0, 2));
        CHECK.due("a row's 9 is 6: no QUARREL", 6, x.stamps(0, 3));
        CHECK.due("behind the row", 2, x.stamps(0, 4));
        CHECK.due("not KNOWN", -1, x.stamps(0, 5));
        CHECK.due("another's", -1, x.stamps(1, 0));
        x.days(2);
        land.row(0, 0, 0, 5);
        x.returns(0, 4, -1);
        CHECK.due("the latest row", 10, x.stamps(0, 0));
        CHECK.due("the latest RETURN", -1, x.stamps(0, 4));
        x.look(313);
        CHECK.due("the row as known ahead", 3, x.stamps(0, 0));
        CHECK.due("the RETURN as known ahead", 2, x.stamps(0, 4));
    }
}
