/** Promises 13 to 17: days, THE DAY, and claims. */
public final class ClaimTest {
    private static final Check CHECK = new Check();

    public static void main(String[] args) {
        daysGoBy();
        theDay();
        kindsOfDays();
        shortWork();
        bars();
        likes();
        joined();
        newClaim();
        firstClaim();
        earnedDays();
        toldLater();
        payingTexts();
        needy();
        wrongQuestions();
        values();
        reasonOfTheBar();
        valuesOfTheBar();
        stampsByClaims();
        manyClaims();
        CHECK.end();
    }

    /** Promise 13. */
    private static void daysGoBy() {
        LabourExchange x = new LabourExchange();
        CHECK.due("no days", 312, x.days(0));
        CHECK.badArgument("-1", () -> x.days(-1));
        CHECK.badArgument("121", () -> x.days(121));
        CHECK.due("nothing changed", 312, x.count(0));
        int today = 312;
        for (int i = 0; i < 5; i++) {
            today += 120;
            CHECK.due("120 days", today, x.days(120));
        }
        CHECK.badArgument("above 935", () -> x.days(24));
        CHECK.due("up to 935", 935, x.days(23));
        CHECK.badArgument("beyond 935", () -> x.days(1));
        CHECK.due("none more", 935, x.days(0));
    }

    /** Promise 14. */
    private static void theDay() {
        LabourExchange x = Land.of(1).x;
        x.days(10);
        CHECK.badArgument("311", () -> x.look(311));
        CHECK.badArgument("323", () -> x.look(323));
        CHECK.badArgument("-2", () -> x.look(-2));
        CHECK.due("it was TODAY", -1, x.look(312));
        CHECK.due("it was 312", 312, x.look(322));
        x.days(5);
        CHECK.noElement("THE DAY stays 322", () -> x.day(0, 323, 0));
        CHECK.due("it was 322", 322, x.look(-1));
        x.days(1);
        CHECK.due("TODAY, whichever it is", 7, x.day(0, 328, 0));
        CHECK.due("it was TODAY again", -1, x.look(-1));
    }

    private static void kinds(String what, LabourExchange x, int from, int... want) {
        for (int i = 0; i < want.length; i++) {
            CHECK.due(what + ", day " + (from + i), want[i], x.day(0, from + i, 0));
        }
    }

    /** Promises 15 and 16. */
    private static void kindsOfDays() {
        LabourExchange x = Land.withClaim("set wait 2;set days 3;set extra 1;needy 4 unless 335 < out + 312;").x;
        x.days(30);
        kinds("a CLAIM", x, 312, 2, 2, 3, 3, 3, 4, 5, 5);
        kinds("its end", x, 334, 5, 5, 0, 0, 0);
        int[] pays = {0, 0, 10, 10, 10, 10, 4, 4};
        for (int i = 0; i < pays.length; i++) {
            CHECK.due("pay " + i, pays[i], x.day(0, 312 + i, 1));
            CHECK.due("claim's number " + i, 0, x.day(0, 312 + i, 3));
        }
        int[] claim = {312, 3, 2, 3, 1, 18, 112, 0, 1, 312, 0};
        for (int what = 0; what < claim.length; what++) {
            CHECK.due("claim " + what, claim[what], x.claim(0, 0, what));
        }
    }

    private static void shortWork() {
        Land land = Land.of(1);
        LabourExchange x = land.x;
        land.text("insure 0;set wait 1;set days 60;bar 3;");
        land.fullRow(0, 0, 6);
        x.days(20);
        x.event(6, 0, 4, 312);
        x.event(2, 0, 0, 313);
        kinds("SHORT", x, 312, 7, 6, 6, 6, 2, 3, 6, 6, 6, 6, 3, 3, 6);
        x.event(6, 0, 1, 320);
        kinds("SHORT by another number", x, 318, 6, 6, 3, 3, 3, 3, 6, 3);
        x.event(0, 0, 0, 325);
        kinds("OUT, the CLAIM stays open, barred", x, 324, 6, 1, 1, 1, 3, 3, 3);
        CHECK.due("still one CLAIM", 0, x.day(0, 332, 3));
        CHECK.due("open", 1, x.claim(0, 0, 8));
    }

    private static void bars() {
        Land land = Land.withClaim("set wait 0;bar 2 + 5 * (reason = 1) - 9 * (reason = 2);");
        LabourExchange x = land.x;
        x.days(20);
        kinds("barred for this DAY and one more", x, 312, 1, 1, 3);
        x.event(1, 0, 9, 320);
        x.event(0, 0, 1, 321);
        x.event(1, 0, 9, 322);
        x.event(0, 0, 0, 323);
        x.event(2, 0, 0, 323);
        kinds("one that ends later stays", x, 319, 3, 7, 9, 7, 1, 1, 1, 1, 1, 3);
        x.event(1, 0, 9, 330);
        x.event(0, 0, 2, 330);
        x.event(2, 0, 0, 330);
        kinds("below 0 is none", x, 328, 3, 3, 3, 3);
    }

    private static void likes() {
        Land land = Land.of(1);
        LabourExchange x = land.x;
        land.text("insure 0;set wait 0;like reason = 1 bar 3;like reason bar 2;bar 4;", 300, 900);
        land.text("like reason = 2 and age bar 5;like reason = 3 bar 99999;", 310, 900);
        land.fullRow(0, 0, 6);
        x.days(40);
        x.event(0, 0, 1, 312);
        x.event(2, 0, 0, 312);
        kinds("the first 'like' of the earlier TEXT", x, 311 + 1, 1, 1, 1, 3);
        x.event(1, 0, 9, 320);
        x.event(0, 0, 2, 320);
        x.event(2, 0, 0, 320);
        kinds("the LATEST TEXT first", x, 319, 3, 1, 1, 1, 1, 1, 3);
        x.event(1, 0, 9, 330);
        x.event(0, 0, 0, 330);
        x.event(2, 0, 0, 330);
        kinds("no 'like' holds: 'bar'", x, 329, 3, 1, 1, 1, 1, 3);
        x.event(1, 0, 9, 340);
        x.event(0, 0, 3, 340);
        x.event(2, 0, 0, 340);
        kinds("for ever", x, 340, 1);
        CHECK.due("the last DAY", 1, x.day(0, 352, 0));
    }

    private static void joined() {
        Land land = Land.withClaim("set gap 4;set wait 2;");
        LabourExchange x = land.x;
        x.days(30);
        x.event(3, 0, 0, 315);
        x.event(4, 0, 0, 316);
        x.event(2, 0, 0, 319);
        kinds("AWAY, OUT, JOINED without waiting again", x, 312, 2, 2, 3, 8, 9, 9, 9, 3, 3);
        CHECK.due("JOINED", 1, x.claim(0, 0, 7));
        CHECK.due("its first DAY", 312, x.claim(0, 0, 0));
        CHECK.due("no CLAIM in the gap", -1, x.day(0, 316, 3));
        CHECK.noElement("no second CLAIM", () -> x.claim(0, 1, 0));
        x.event(1, 0, 33, 325);
        CHECK.due("closed", 0, x.claim(0, 0, 8));
        CHECK.due("the CLAIM stays", 8, x.claim(0, 0, 3) + x.claim(0, 0, 2) - 1);
    }

    private static void newClaim() {
        Land land = Land.withClaim("set gap 4;set wait 2;");
        LabourExchange x = land.x;
        x.days(30);
        x.event(3, 0, 0, 315);
        x.event(4, 0, 0, 315);
        x.event(2, 0, 0, 320);
        kinds("a new CLAIM behind the gap", x, 319, 9, 2, 2, 3);
        CHECK.due("not JOINED", 0, x.claim(0, 0, 7));
        CHECK.due("the second", 1, x.day(0, 320, 3));
        CHECK.due("its first DAY", 320, x.claim(0, 1, 0));
        CHECK.due("the first is closed", 0, x.claim(0, 0, 8));
        CHECK.due("the second is open", 1, x.claim(0, 1, 8));
        CHECK.due("weeks 1 to 52: one isn't KNOWN", 1, x.claim(0, 1, 10));
        CHECK.due("and 51 are", 306, x.claim(0, 1, 9));
        x.event(3, 0, 0, 330);
        x.event(4, 0, 0, 330);
        x.event(2, 0, 0, 330);
        CHECK.due("JOINED on the DAY it closed", 1, x.claim(0, 1, 7));
        CHECK.noElement("no third CLAIM", () -> x.claim(0, 2, 0));
    }

    /** However long the gap may be, there is nothing to join at first. */
    private static void firstClaim() {
        LabourExchange x = Land.withClaim("set gap 9999;").x;
        CHECK.due("a new CLAIM", 0, x.claim(0, 0, 7));
        CHECK.due("its first DAY", 312, x.claim(0, 0, 0));
        Land land = Land.of(1);
        land.text("insure 0;");
        land.x.event(0, 0, 0, 312);
        land.x.event(2, 0, 0, 312);
        CHECK.due("no WEEK is KNOWN", 52, land.x.claim(0, 0, 10));
        CHECK.due("no STAMPS", 0, land.x.claim(0, 0, 9));
        land.x.days(5);
        CHECK.due("ENDED behind waiting", 0, land.x.day(0, 315, 0));
    }

    /** Rows and RETURNS told behind a CLAIM's first DAY work it anew. */
    private static void toldLater() {
        Land land = Land.of(1);
        LabourExchange x = land.x;
        land.text("insure 0;");
        x.event(0, 0, 0, 312);
        x.event(2, 0, 0, 312);
        x.days(9);
        CHECK.due("no EARNED DAYS", 0, x.claim(0, 0, 1));
        x.returns(0, 51, 6);
        CHECK.due("by a RETURN", 2, x.claim(0, 0, 1));
        land.row(0, 0, 6, 6);
        CHECK.due("by a row", 6, x.claim(0, 0, 1));
        CHECK.due("EARNED ever since", 3, x.day(0, 320, 0));
        x.look(320);
        CHECK.due("as known ahead", 0, x.claim(0, 0, 1));
        x.look(-1);
        x.days(1);
        x.book(0, 0, -1);
        CHECK.due("the row is missing", 2, x.claim(0, 0, 1));
        x.look(321);
        CHECK.due("as known on 321", 6, x.claim(0, 0, 1));
    }

    private static void earnedDays() {
        int[][] rows = {{5, 60, 62}, {0, 999, 312}, {1, 999, 312}, {7, 44, 44}, {400, 60, 0}, {3, 0, 0}};
        for (int[] row : rows) {
            LabourExchange x = Land.withClaim("set per " + row[0] + ";set days " + row[1] + ";").x;
            CHECK.due("stamps by " + row[0], Math.min(row[1], row[2]), x.claim(0, 0, 1));
        }
        Land land = Land.of(1);
        land.text("insure 0;");
        land.row(0, 0, 6, 6, 6, 6, 6, 6, 6);
        land.x.returns(0, 51, 5);
        land.x.returns(0, 52, 5);
        land.x.returns(0, 3, 1);
        land.x.event(0, 0, 0, 312);
        land.x.event(2, 0, 0, 312);
        CHECK.due("47 by 3", 15, land.x.claim(0, 0, 1));
        CHECK.due("rows ahead of RETURNS, and a week not yet ahead", 47, land.x.claim(0, 0, 9));
        CHECK.due("unknown", 44, land.x.claim(0, 0, 10));
    }

    private static void payingTexts() {
        Land land = Land.withClaim("set wait 0;set days 6;");
        LabourExchange x = land.x;
        land.text("pay 7 unless 1;", 314, 316);
        land.text("pay 12;needy 99999;", 313, 900);
        land.text("set rate 5;", 0, 935);
        x.days(20);
        int[] pay = {5, 12, 0, 0, 12, 12, 9999};
        int[] kind = {3, 3, 3, 3, 3, 3, 5};
        int[] text = {-1, 2, 1, 1, 2, 2, 2};
        for (int i = 0; i < pay.length; i++) {
            CHECK.due("kind of day " + i, kind[i], x.day(0, 312 + i, 0));
            CHECK.due("pay of day " + i, pay[i], x.day(0, 312 + i, 1));
            CHECK.due("text of day " + i, text[i], x.day(0, 312 + i, 2));
        }
        Land other = Land.withClaim("set wait 1;set rate 20000;");
        other.x.days(1);
        CHECK.due("waiting is paid by none", -1, other.x.day(0, 312, 2));
        CHECK.due("rate without 'pay', cut", 9999, other.x.day(0, 313, 1));
        CHECK.due("rate is no TEXT", -1, other.x.day(0, 313, 2));
    }

    private static void needy() {
        Land land = Land.withClaim("set wait 0;set days 0;needy 8 - means / 10;");
        LabourExchange x = land.x;
        x.days(6);
        x.event(5, 0, 50, 314);
        x.event(5, 0, 85, 316);
        int[] pay = {8, 8, 3, 3, 0, 0};
        for (int i = 0; i < pay.length; i++) {
            CHECK.due("needy pay " + i, pay[i], x.day(0, 312 + i, 1));
            CHECK.due("needy kind " + i, pay[i] > 0 ? 5 : 0, x.day(0, 312 + i, 0));
            CHECK.due("needy text " + i, pay[i] > 0 ? 0 : -1, x.day(0, 312 + i, 2));
        }
        CHECK.due("NEEDY days", 4, x.claim(0, 0, 5));
        CHECK.due("PAY in all", 22, x.claim(0, 0, 6));
    }

    private static void wrongQuestions() {
        LabourExchange x = Land.withClaim("").x;
        x.days(5);
        CHECK.noElement("day of nobody", () -> x.day(1, 312, 0));
        CHECK.noElement("day 311", () -> x.day(0, 311, 0));
        CHECK.noElement("tomorrow", () -> x.day(0, 318, 0));
        CHECK.noElement("day what 4", () -> x.day(0, 312, 4));
        CHECK.noElement("day what -1", () -> x.day(0, 312, -1));
        CHECK.noElement("claim of nobody", () -> x.claim(-1, 0, 0));
        CHECK.noElement("claim 1", () -> x.claim(0, 1, 0));
        CHECK.noElement("claim -1", () -> x.claim(0, -1, 0));
        CHECK.noElement("claim what 11", () -> x.claim(0, 0, 11));
        CHECK.noElement("claim what -1", () -> x.claim(0, 0, -1));
        CHECK.noElement("value of nobody", () -> x.value(1, 0));
        CHECK.noElement("value 9", () -> x.value(0, 9));
        CHECK.noElement("value -1", () -> x.value(0, -1));
        x.look(312);
        CHECK.due("waited, as known on 312", 1, x.claim(0, 0, 2));
        CHECK.noElement("beyond THE DAY", () -> x.day(0, 313, 0));
    }

    /** Promise 17. */
    private static void values() {
        Land land = Land.of(2);
        LabourExchange x = land.x;
        land.text("insure 1;set wait 1;set days 3;needy 1;");
        land.fullRow(1, 0, 5);
        long[] first = {30, 1, 20, 0, 0, 260, 0, 0, 0};
        for (int what = 0; what < first.length; what++) {
            CHECK.due("value at first " + what, first[what], x.value(1, what));
        }
        x.event(0, 1, 3, 312);
        x.days(12);
        CHECK.due("out", 12, x.value(1, 3));
        CHECK.due("stamps of the 52 weeks ahead of TODAY's", 250, x.value(1, 5));
        CHECK.due("unknown ahead of TODAY", 2, x.value(1, 6));
        x.event(2, 1, 0, 316);
        x.event(5, 1, 77, 317);
        CHECK.due("paid: three EARNED, five NEEDY", 8, x.value(1, 4));
        CHECK.due("stamps of the CLAIM", 260, x.value(1, 5));
        CHECK.due("unknown of the CLAIM", 0, x.value(1, 6));
        CHECK.due("means", 77, x.value(1, 7));
        CHECK.due("reason", 3, x.value(1, 8));
        x.look(312);
        CHECK.due("TODAY, whatever THE DAY is", 77, x.value(1, 7));
        x.event(1, 1, 31, 324);
        CHECK.due("usual", 31, x.value(1, 2));
        CHECK.due("no more out", 0, x.value(1, 3));
        CHECK.due("no open CLAIM: none paid", 0, x.value(1, 4));
        CHECK.due("reason stays", 3, x.value(1, 8));
        x.event(0, 1, 0, 324);
        CHECK.due("the latest LEAVES", 0, x.value(1, 8));
        x.event(0, 1, 2, 324);
        CHECK.due("one that can't be isn't one", 0, x.value(1, 8));
    }

    private static void reasonOfTheBar() {
        Land land = Land.withClaim("set wait 0;bar 3 * (reason = 4) + (wage = 7) * (miles = 0) + same;suit 1;");
        LabourExchange x = land.x;
        x.vacancy(0, 0, 7, 0);
        x.offer(0, 0);
        x.answer(0, false);
        x.days(8);
        kinds("the bar of REFUSES, its OFFER's values", x, 312, 1, 1, 1, 1, 1, 3);
        CHECK.due("reason is that of LEAVES again", 0, x.value(0, 8));
    }

    private static void valuesOfTheBar() {
        LabourExchange params = Land.withClaim("set wait 2;set extra 1;set days 1;bar wait - 1;pay wait * 10 + paid;").x;
        params.days(5);
        kinds("barred by PARAMS", params, 312, 1, 2, 2, 3, 4, 0);
        CHECK.due("paid by them, EARNED", 20, params.day(0, 315, 1));
        CHECK.due("EXTENDED", 21, params.day(0, 316, 1));
        CHECK.due("paid as EARNED and EXTENDED", 2, params.value(0, 4));
        Land land = Land.withClaim("set wait 0;bar out + paid + 100 * (miles + wage + same) * (reason < 4);");
        LabourExchange x = land.x;
        x.vacancy(0, 0, 7, 0);
        x.days(3);
        x.offer(0, 0);
        x.answer(0, false);
        x.days(7);
        kinds("three DAYS out, three paid, this one not yet", x, 314, 3, 1, 1, 1, 1, 1, 1, 3);
        x.vacancy(0, 0, 7, 0);
        x.offer(0, 1);
        x.event(1, 0, 7, 322);
        x.event(0, 0, 0, 322);
        x.event(2, 0, 0, 322);
        CHECK.due("the bar of LEAVES sees no OFFER", 3, x.day(0, 322, 0));
    }

    /** A bar of LEAVES sees the stamps of the open CLAIM, or else those ahead of its own DAY. */
    private static void stampsByClaims() {
        Land land = Land.of(1);
        LabourExchange x = land.x;
        land.text("insure 0;set wait 0;bar 1 + unknown;");
        land.fullRow(0, 0, 6);
        x.days(40);
        x.event(0, 0, 0, 330);
        x.event(2, 0, 0, 330);
        kinds("three weeks unknown ahead of day 330", x, 330, 1, 1, 1, 1, 3);
        x.event(6, 0, 1, 320);
        x.event(2, 0, 0, 320);
        kinds("one ahead of the CLAIM's first DAY", x, 329, 3, 1, 1, 3);
    }

    /** As many CLAIMS of one person as the EVENTS allow. */
    private static void manyClaims() {
        Land land = Land.of(1);
        LabourExchange x = land.x;
        land.text("insure 0;set gap 0;");
        x.days(120);
        x.event(0, 0, 0, 312);
        int claims = 0;
        for (int day = 312; x.count(3) < 158; day += 2) {
            x.event(2, 0, 0, day);
            claims++;
            x.event(3, 0, 0, day);
            x.event(4, 0, 0, day + 1);
        }
        CHECK.due("claims", 53, claims);
        CHECK.due("the last one's first DAY", 312 + 2 * 52, x.claim(0, claims - 1, 0));
        CHECK.noElement("no more of them", () -> x.claim(0, 53, 0));
    }
}
