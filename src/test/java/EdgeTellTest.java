/** Edges of promises 1 to 7 and of the Terms ==== 1: OFFICES, PEOPLE, the tape, BOOKS and RETURNS. */
public final class EdgeTellTest {
    private static final Check CHECK = new Check();

    public static void main(String[] args) {
        theLastOffice();
        numbersOfAnOffice();
        milesBothWays();
        theLastPerson();
        numbersOfAPerson();
        ageStays();
        inWorkAtFirst();
        highestByteFirst();
        fullTape();
        tapeIsEmptyThen();
        rowLengths();
        rowOfAllThatIsOnTheTape();
        missingRow();
        years();
        stampsAreCut();
        theLastRow();
        fullRows();
        weeksOfReturns();
        daysOfReturns();
        theLastReturn();
        rowAheadOfReturn();
        quarrels();
        asKnownOnADay();
        ofTheSameDayTheLatest();
        CHECK.end();
    }

    /** "OFFICES, from 0 on, at most 8"; "NONE: there are 8". */
    private static void theLastOffice() {
        LabourExchange x = new LabourExchange();
        for (int i = 0; i < 7; i++) {
            CHECK.due("office " + i, i, x.office(1, 1));
        }
        CHECK.due("the eighth", 7, x.office(1, 1));
        CHECK.due("a ninth", -1, x.office(1, 1));
        CHECK.due("there are 8", 8, x.count(1));
        CHECK.due("the eighth has people", 0, x.person(0, 30, 7, 20, 5));
        CHECK.due("a ninth has none", -1, x.person(0, 30, 8, 20, 5));
    }

    /** "x, y (0 to 99 each)". */
    private static void numbersOfAnOffice() {
        LabourExchange x = new LabourExchange();
        int[] good = {0, 1, 98, 99};
        int[] bad = {-1, 100};
        int told = 0;
        for (int n : bad) {
            CHECK.due("x " + n, -1, x.office(n, 50));
            CHECK.due("y " + n, -1, x.office(50, n));
        }
        for (int n : good) {
            CHECK.due("x " + n, told++, x.office(n, 50));
            CHECK.due("y " + n, told++, x.office(50, n));
        }
    }

    /** "MILES between two: how far x and y are apart, together". */
    private static void milesBothWays() {
        int[][] pairs = {{0, 0, 0, 0, 0}, {0, 0, 99, 99, 198}, {99, 0, 0, 99, 198}, {10, 20, 30, 5, 35}, {7, 7, 7, 8, 1}};
        for (int[] p : pairs) {
            for (int turn = 0; turn < 2; turn++) {
                Land land = new Land();
                LabourExchange x = land.x;
                x.office(p[0], p[1]);
                x.office(p[2], p[3]);
                x.person(0, 30, turn, 20, 5);
                land.text("insure 0;set wait 0;suit miles = " + p[4] + ";");
                x.event(0, 0, 0, 312);
                x.event(2, 0, 0, 312);
                x.vacancy(1 - turn, 0, 5, 5);
                x.days(4);
                CHECK.due(p[4] + " miles, turn " + turn, 1, x.offerOf(x.offer(0, 0), 2));
            }
        }
    }

    /** "PEOPLE, from 0 on, at most 20"; "NONE: there are 20". */
    private static void theLastPerson() {
        LabourExchange x = Land.of(19).x;
        CHECK.due("the twentieth", 19, x.person(7, 30, 0, 20, 5));
        CHECK.due("a 21st", -1, x.person(7, 30, 0, 20, 5));
        CHECK.due("there are 20", 20, x.count(2));
        CHECK.due("the last is told of", 7, x.value(19, 1));
        CHECK.noElement("a 21st isn't", () -> x.value(20, 1));
        CHECK.due("the last leaves", 0, x.event(0, 19, 0, 312));
        CHECK.due("he is OUT", 9, x.day(19, 312, 0));
        CHECK.due("the one ahead isn't", 7, x.day(18, 312, 0));
    }

    /** "TRADE (0 to 7), AGE (14 to 90), OFFICE, WAGE (1 to 999 a DAY), FAMILY (0 to 99)". */
    private static void numbersOfAPerson() {
        LabourExchange x = Land.of(0).x;
        x.office(5, 5);
        int[][] edges = {{0, 7}, {14, 90}, {0, 1}, {1, 999}, {0, 99}};
        int told = 0;
        for (int which = 0; which < edges.length; which++) {
            for (int side = 0; side < 2; side++) {
                int[] p = {3, 30, 0, 20, 5};
                p[which] = edges[which][side];
                CHECK.due("number " + which + " is " + p[which], told++, x.person(p[0], p[1], p[2], p[3], p[4]));
                p[which] += side == 0 ? -1 : 1;
                CHECK.due("number " + which + " is " + p[which], -1, x.person(p[0], p[1], p[2], p[3], p[4]));
            }
        }
        int[][] values = {{0, 1, 0}, {1, 1, 7}, {2, 0, 14}, {3, 0, 90}, {6, 2, 1}, {7, 2, 999}};
        for (int[] v : values) {
            CHECK.due("value " + v[1] + " of " + v[0], v[2], x.value(v[0], v[1]));
        }
    }

    /** "AGE (14 to 90; it stays)". */
    private static void ageStays() {
        LabourExchange x = Land.of(0).x;
        x.person(0, 90, 0, 20, 5);
        for (int i = 0; i < 5; i++) {
            x.days(120);
        }
        CHECK.due("two years on", 90, x.value(0, 0));
    }

    /** "each is IN WORK at first", from DAY 312 on, whenever the person is told. */
    private static void inWorkAtFirst() {
        LabourExchange x = Land.of(0).x;
        x.days(30);
        x.person(0, 30, 0, 20, 5);
        CHECK.due("IN WORK on 312", 7, x.day(0, 312, 0));
        CHECK.due("IN WORK on 342", 7, x.day(0, 342, 0));
        x.look(330);
        CHECK.due("as known on 330", 7, x.day(0, 330, 0));
    }

    /** "Twenty bytes come behind the tape, of each number the highest first", signed ones too. */
    private static void highestByteFirst() {
        Land land = Land.of(1);
        LabourExchange x = land.x;
        x.feed(0x00010203, 0x04050607, 0x7f80ff01, 0x80000000, 0x000000ff);
        x.feed(0xff000006, 0x06ff0005, 0x02000000, 0x7fffffff, 0xfffffff1);
        x.book(0, 0, 40);
        int[] want = {0, 1, 2, 3, 4, 5, 6, 6, 6, 0, 0, 1, 0, 0, 0, 0, 0, 0, 0, 0,
            0, 0, 0, 6, 6, 0, 0, 5, 2, 0, 0, 0, 6, 0, 0, 0, 0, 0, 0, 0};
        for (int week = 0; week < 40; week++) {
            CHECK.due("byte " + week, want[week], x.stamps(0, week));
        }
    }

    /** "how many it has; NONE, and none come, if it would have more than 600". */
    private static void fullTape() {
        LabourExchange x = Land.of(1).x;
        CHECK.due("empty at first", 0, x.count(10));
        for (int i = 1; i < 30; i++) {
            CHECK.due("feed " + i, 20 * i, x.feed(0x20202020, 0x20202020, 0x20202020, 0x20202020, 0x20202020));
        }
        CHECK.due("just 600", 600, x.feed(0x20202020, 0x20202020, 0x20202020, 0x20202020, 0x20202020));
        CHECK.due("more than 600", -1, x.feed(0x3f3f3f3f, 0x3f3f3f3f, 0x3f3f3f3f, 0x3f3f3f3f, 0x3f3f3f3f));
        CHECK.due("none came", 600, x.count(10));
        CHECK.due("all 600 are blanks", 0, x.text(600, 312, 400));
        CHECK.due("room again", 20, x.feed(1, 2, 3, 4, 5));
    }

    /** "(it is empty then)": of a row, of a TEXT, of one with a FAULT, of a TRY. */
    private static void tapeIsEmptyThen() {
        LabourExchange x = Land.of(1).x;
        for (int i = 0; i < 5; i++) {
            x.feed(0x3f202020, 1, 2, 3, 4);
            x.feed(1, 2, 3, 4, 5);
            CHECK.due("forty", 40, x.count(10));
            long answer = i == 0 ? Answer.one(x.book(0, 0, 7)) : i == 1 ? Answer.one(x.book(0, 0, 0))
                : i == 2 ? x.text(0, 312, 400) : i == 3 ? x.text(7, 312, 400) : x.attempt(7, 312, 400);
            CHECK.due("answer " + i, new long[] {1, 1, 0, -2, 1}[i], answer);
            CHECK.due("it is empty then " + i, 0, x.count(10));
        }
    }

    /** "The tape's first n bytes (0 to 52)"; "a row of WEEKS (at most 52)", "or be shorter than 52". */
    private static void rowLengths() {
        for (int n : new int[] {0, 1, 2, 51, 52}) {
            Land land = Land.of(1);
            Land.feed(land.x, new byte[60]);
            CHECK.due("a row of " + n, true, land.x.book(0, 1, n));
            for (int week : new int[] {0, 1, 2, 50, 51}) {
                CHECK.due("of " + n + ", week " + week, week < n ? 0 : -1, land.x.stamps(0, 52 + week));
            }
            CHECK.due("of " + n + ", the WEEK ahead", -1, land.x.stamps(0, 51));
            CHECK.due("of " + n + ", the WEEK behind", -1, land.x.stamps(0, 104));
        }
        Land land = Land.of(1);
        Land.feed(land.x, new byte[60]);
        CHECK.due("a row of 53", false, land.x.book(0, 1, 53));
        CHECK.due("a row of -2", false, land.x.book(0, 1, -2));
        CHECK.due("the tape stays", 60, land.x.count(10));
        CHECK.due("no row", -1, land.x.stamps(0, 52));
    }

    /** "False: the tape has not so many". */
    private static void rowOfAllThatIsOnTheTape() {
        LabourExchange x = Land.of(1).x;
        CHECK.due("1 of none", false, x.book(0, 0, 1));
        x.feed(0x01010101, 0x01010101, 0x01010101, 0x01010101, 0x01010105);
        CHECK.due("21 of 20", false, x.book(0, 0, 21));
        CHECK.due("the tape stays", 20, x.count(10));
        CHECK.due("20 of 20", true, x.book(0, 0, 20));
        CHECK.due("the last of them", 5, x.stamps(0, 19));
        CHECK.due("behind them", -1, x.stamps(0, 20));
        x.feed(0x02020202, 0x02020202, 0x02020202, 0x02020202, 0x02020203);
        CHECK.due("19 of 20", true, x.book(0, 0, 19));
        CHECK.due("not the last", -1, x.stamps(0, 19));
    }

    /** "A row may be missing (at first)"; "n NONE: it is missing from now on (the tape stays)". */
    private static void missingRow() {
        LabourExchange x = Land.of(1).x;
        CHECK.due("missing at first", -1, x.stamps(0, 0));
        CHECK.due("told as missing all the same", true, x.book(0, 0, -1));
        x.feed(0x04040404, 0, 0, 0, 0);
        x.book(0, 0, 4);
        x.feed(0x05050505, 0, 0, 0, 0);
        x.days(1);
        CHECK.due("missing from now on", true, x.book(0, 0, -1));
        CHECK.due("the tape stays", 20, x.count(10));
        CHECK.due("missing", -1, x.stamps(0, 0));
        x.look(312);
        CHECK.due("it was not", 4, x.stamps(0, 0));
        x.look(-1);
        x.book(0, 0, 1);
        CHECK.due("told again", 5, x.stamps(0, 0));
    }

    /** "each YEAR 0 to 2", "52 WEEKS a YEAR"; "there is no such YEAR"; WEEKS 0 to 155. */
    private static void years() {
        Land land = Land.of(1);
        LabourExchange x = land.x;
        for (int year = 0; year < 3; year++) {
            CHECK.due("year " + year, true, land.fullRow(0, year, year + 1));
        }
        int[][] weeks = {{0, 1}, {51, 1}, {52, 2}, {103, 2}, {104, 3}, {155, 3}};
        for (int[] w : weeks) {
            CHECK.due("week " + w[0], w[1], x.stamps(0, w[0]));
        }
        CHECK.noElement("week 156", () -> x.stamps(0, 156));
        CHECK.noElement("week -1", () -> x.stamps(0, -1));
        CHECK.due("year 3", false, x.book(0, 3, 0));
        CHECK.due("year -1", false, x.book(0, -1, 0));
    }

    /** "STAMPS 0 to 6 (others are cut down to 6; signed, below 0: to 0)": every byte that there is. */
    private static void stampsAreCut() {
        for (int from = 0; from < 256; from += 32) {
            Land land = Land.of(1);
            int[] bytes = new int[32];
            for (int i = 0; i < 32; i++) {
                bytes[i] = from + i;
            }
            land.row(0, 0, bytes);
            for (int i = 0; i < 32; i++) {
                int b = from + i;
                CHECK.due("byte " + b, b > 127 ? 0 : Math.min(6, b), land.x.stamps(0, i));
            }
        }
    }

    /** "or 60 rows were told". */
    private static void theLastRow() {
        LabourExchange x = Land.of(2).x;
        for (int i = 0; i < 59; i++) {
            CHECK.due("row " + i, true, x.book(0, 0, i % 2 == 0 ? 0 : -1));
        }
        x.feed(0x03000000, 0, 0, 0, 0);
        CHECK.due("the sixtieth", true, x.book(1, 2, 1));
        CHECK.due("is told", 3, x.stamps(1, 104));
        x.feed(0x04000000, 0, 0, 0, 0);
        CHECK.due("a 61st", false, x.book(1, 2, 1));
        CHECK.due("is not", 3, x.stamps(1, 104));
        CHECK.due("the tape stays", 20, x.count(10));
    }

    /** Sixty rows of 52 bytes: as many as there may be. */
    private static void fullRows() {
        LabourExchange x = Land.of(20).x;
        for (int i = 0; i < 60; i++) {
            int b = 0x01010101 * (i % 6 + 1);
            for (int k = 0; k < 3; k++) {
                x.feed(b, b, b, b, b);
            }
            CHECK.due("row " + i, true, x.book(i / 3, i % 3, 52));
        }
        for (int i = 0; i < 60; i++) {
            CHECK.due("first of row " + i, i % 6 + 1, x.stamps(i / 3, i % 3 * 52));
            CHECK.due("last of row " + i, i % 6 + 1, x.stamps(i / 3, i % 3 * 52 + 51));
        }
    }

    /** "False: no such WEEK (0 to 155)". */
    private static void weeksOfReturns() {
        LabourExchange x = Land.of(2).x;
        CHECK.due("week -1", false, x.returns(1, -1, 5));
        CHECK.due("week 156", false, x.returns(1, 156, 5));
        for (int week : new int[] {0, 1, 154, 155}) {
            CHECK.due("week " + week, true, x.returns(1, week, 5));
            CHECK.due("is told", 5, x.stamps(1, week));
            CHECK.due("not of another", -1, x.stamps(0, week));
        }
        CHECK.due("week 2", -1, x.stamps(1, 2));
        CHECK.due("week 153", -1, x.stamps(1, 153));
    }

    /** "DAYS worked (0 to 6), or not told"; "days NONE: not told from now on". */
    private static void daysOfReturns() {
        LabourExchange x = Land.of(1).x;
        for (int days = 0; days <= 6; days++) {
            CHECK.due(days + " days", true, x.returns(0, 3, days));
            CHECK.due("are told", days, x.stamps(0, 3));
        }
        CHECK.due("7 days", false, x.returns(0, 3, 7));
        CHECK.due("-2 days", false, x.returns(0, 3, -2));
        CHECK.due("told as before", 6, x.stamps(0, 3));
        CHECK.due("not told from now on", true, x.returns(0, 3, -1));
        CHECK.due("not KNOWN", -1, x.stamps(0, 3));
    }

    /** "or 100 were told". */
    private static void theLastReturn() {
        LabourExchange x = Land.of(2).x;
        for (int i = 0; i < 99; i++) {
            CHECK.due("return " + i, true, x.returns(0, i, i % 8 - 1));
        }
        CHECK.due("the hundredth", true, x.returns(1, 155, 2));
        CHECK.due("is told", 2, x.stamps(1, 155));
        CHECK.due("a 101st", false, x.returns(1, 155, 3));
        CHECK.due("is not", 2, x.stamps(1, 155));
    }

    /** "STAMPS of a WEEK are KNOWN: from the row, if it has that WEEK; else from the RETURN, if it is told; else not". */
    private static void rowAheadOfReturn() {
        Land land = Land.of(1);
        LabourExchange x = land.x;
        land.row(0, 0, 4, 4);
        for (int week = 0; week < 3; week++) {
            x.returns(0, week, 4);
        }
        land.text("insure 0;");
        CHECK.due("row, and a like RETURN", 4, x.stamps(0, 0));
        CHECK.due("the row's last WEEK", 4, x.stamps(0, 1));
        CHECK.due("the WEEK behind: the RETURN", 4, x.stamps(0, 2));
        CHECK.due("neither", -1, x.stamps(0, 3));
        x.returns(0, 1, 5);
        x.returns(0, 2, 5);
        CHECK.due("KNOWN STAMPS: 4 and 4 of the row, 5 of a RETURN", 13, x.value(0, 5));
        CHECK.due("49 aren't KNOWN", 49, x.value(0, 6));
        x.book(0, 0, 0);
        CHECK.due("an empty row has no WEEK", 4 + 5 + 5, x.value(0, 5));
    }

    /** "QUARREL of a WEEK: both are told, and unlike"; "10 and the row's". */
    private static void quarrels() {
        int[][] weeks = {{0, 0, 0}, {0, 1, 10}, {1, 0, 11}, {6, 6, 6}, {6, 5, 16}, {5, 6, 15}, {7, 6, 6}, {7, 5, 16},
            {-1, 0, 0}, {-1, 1, 10}, {0, -1, 0}, {6, -1, 6}};
        Land land = Land.of(1);
        int[] row = new int[weeks.length];
        for (int i = 0; i < row.length; i++) {
            row[i] = weeks[i][0];
            land.x.returns(0, i, weeks[i][1]);
        }
        land.row(0, 0, row);
        for (int i = 0; i < row.length; i++) {
            CHECK.due("row " + weeks[i][0] + ", return " + weeks[i][1], weeks[i][2], land.x.stamps(0, i));
        }
        land.x.returns(0, 1, -1);
        CHECK.due("no QUARREL, when the RETURN is not told", 0, land.x.stamps(0, 1));
        land.x.book(0, 0, -1);
        CHECK.due("nor when the row is missing", 5, land.x.stamps(0, 4));
    }

    /** "AS KNOWN on DAY k: .. BOOKS, RETURNS .. likewise by the DAY on which they were told". */
    private static void asKnownOnADay() {
        Land land = Land.of(1);
        LabourExchange x = land.x;
        x.days(8);
        land.row(0, 0, 3);
        x.returns(0, 1, 4);
        x.days(2);
        int[][] known = {{319, -1, -1}, {320, 3, 4}, {321, 3, 4}};
        for (int[] k : known) {
            x.look(k[0]);
            CHECK.due("row as known on " + k[0], k[1], x.stamps(0, 0));
            CHECK.due("return as known on " + k[0], k[2], x.stamps(0, 1));
        }
    }

    /** "(of a row, a RETURN the latest told by then)", of the same DAY too. */
    private static void ofTheSameDayTheLatest() {
        Land land = Land.of(1);
        LabourExchange x = land.x;
        for (int n = 1; n <= 3; n++) {
            land.row(0, 0, n);
            x.returns(0, 1, n);
        }
        CHECK.due("the third row", 3, x.stamps(0, 0));
        CHECK.due("the third return", 3, x.stamps(0, 1));
        x.days(1);
        land.row(0, 0, 4);
        x.returns(0, 1, 4);
        x.look(312);
        CHECK.due("the latest row by 312", 3, x.stamps(0, 0));
        CHECK.due("the latest return by 312", 3, x.stamps(0, 1));
        x.look(313);
        CHECK.due("the latest row by 313", 4, x.stamps(0, 0));
        CHECK.due("the latest return by 313", 4, x.stamps(0, 1));
    }
}
