/** Edges of promise 18 and of the Terms ==== 3: what EXPRESSIONS come to, and which TEXTS are IN FORCE. */
public final class EdgeLawTest {
    private static final Check CHECK = new Check();

    public static void main(String[] args) {
        payIsCut();
        needyIsCut();
        rateIsCut();
        divisions();
        wrapAround();
        tests();
        whatHolds();
        unless();
        leftToRight();
        valuesOfAnOfferOutsideOne();
        defaults();
        spanOfATexts();
        laterFirstDay();
        ofLikeOnesTheGreaterNumber();
        theLastInIt();
        eachOfTheLatestThatHasOne();
        suitsOfTheLatest();
        suitsOfNone();
        likesOfAll();
        knownOnADay();
        manySpans();
        trySpans();
        CHECK.end();
    }

    /** PAY of the first DAY by such an EXPRESSION; 'wait' is 0. */
    private static void pay(String expression, int want) {
        Land land = Land.withClaim("set wait 0;pay " + expression + ";");
        CHECK.due("pay " + expression, want, land.x.day(0, 312, 1));
        CHECK.due("EARNED by " + expression, 3, land.x.day(0, 312, 0));
    }

    private static String number(int n) {
        return n < 0 ? "0 - " + -n : String.valueOf(n);
    }

    /** "'pay', of NEEDY 'needy' (0 to 9999 likewise)". */
    private static void payIsCut() {
        int[][] sums = {{-9999, 0}, {-2, 0}, {-1, 0}, {0, 0}, {1, 1}, {9998, 9998}, {9999, 9999}, {10000, 9999},
            {10001, 9999}, {99999, 9999}};
        for (int[] s : sums) {
            pay(number(s[0]), s[1]);
        }
        pay("99999 * 99999", 9999);
        pay("0 - 99999 * 99999", 0);
        pay("65536 * 65536", 9999);
        pay("65536 * 65536 + 5", 9999);
        pay("0 - 65536 * 65536", 0);
    }

    /** "5 NEEDY, if 'needy' is above 0; 0 ENDED"; "(0 to 9999 likewise)". */
    private static void needyIsCut() {
        int[][] sums = {{-9999, 0}, {-1, 0}, {0, 0}, {1, 1}, {2, 2}, {9998, 9998}, {9999, 9999}, {10000, 9999}};
        for (int[] s : sums) {
            Land land = Land.withClaim("set wait 0;set days 0;needy " + number(s[0]) + ";");
            CHECK.due("needy " + s[0], s[1], land.x.day(0, 312, 1));
            CHECK.due("kind by needy " + s[0], s[0] > 0 ? 5 : 0, land.x.day(0, 312, 0));
            CHECK.due("text by needy " + s[0], s[0] > 0 ? 0 : -1, land.x.day(0, 312, 2));
            CHECK.due("NEEDY DAYS by needy " + s[0], s[0] > 0 ? 1 : 0, land.x.claim(0, 0, 5));
        }
    }

    /** "Without any: .. pay is rate", which may be above 9999. */
    private static void rateIsCut() {
        int[][] rates = {{0, 0}, {1, 1}, {9999, 9999}, {10000, 9999}, {99999, 9999}};
        for (int[] r : rates) {
            Land land = Land.withClaim("set wait 0;set rate " + r[0] + ";");
            CHECK.due("rate " + r[0], r[1], land.x.day(0, 312, 1));
            CHECK.due("law of rate " + r[0], r[0], land.x.law(2, 312));
            CHECK.due("by no TEXT", -1, land.x.day(0, 312, 2));
            CHECK.due("EARNED all the same", 3, land.x.day(0, 312, 0));
        }
    }

    /** "/ cut down to 0, by 0 gives 0". */
    private static void divisions() {
        pay("100 + 7 / 2", 103);
        pay("100 + 1 / 2", 100);
        pay("100 + 6 / 3", 102);
        pay("100 + (0 - 7) / 2", 97);
        pay("100 + 7 / (0 - 2)", 97);
        pay("100 + (0 - 7) / (0 - 2)", 103);
        pay("100 + (0 - 1) / 2", 100);
        pay("100 + 5 / 0", 100);
        pay("100 + (0 - 5) / 0", 100);
        pay("100 + 0 / 0", 100);
        pay("100 + 5 / (3 - 3)", 100);
        pay("100 + 0 / 5", 100);
        pay("100 + 5 / 1", 105);
        pay("100 + 5 / (0 - 1)", 95);
    }

    private static final String TWO_TO_62 = "32768 * 32768 * 65536 * 65536";
    private static final String TWO_TO_63 = "65536 * 65536 * 65536 * 32768";

    /** "longs": they wrap around. */
    private static void wrapAround() {
        pay("100 + (65536 * 65536 * 65536 * 65536 = 0)", 101);
        pay("100 + (" + TWO_TO_62 + " < 0)", 100);
        pay("100 + (" + TWO_TO_63 + " < 0)", 101);
        pay("100 + (" + TWO_TO_62 + " + " + TWO_TO_62 + " = " + TWO_TO_63 + ")", 101);
        pay("100 + (0 < " + TWO_TO_63 + " - 1)", 101);
        pay("100 + (" + TWO_TO_63 + " - 1 + 1 < 0)", 101);
        pay("100 + (0 - " + TWO_TO_63 + " = " + TWO_TO_63 + ")", 101);
        pay("100 + ((" + TWO_TO_63 + ") / (0 - 1) = " + TWO_TO_63 + ")", 101);
        pay("100 + ((" + TWO_TO_63 + ") / 2 = 0 - " + TWO_TO_62 + ")", 101);
        pay(TWO_TO_63, 0);
        pay(TWO_TO_63 + " - 1", 9999);
        pay(TWO_TO_62, 9999);
        pay("65536 * 65536 * 65536 * 65536 + 77", 77);
    }

    /** "tests .. are 1 or 0", on both sides of each. */
    private static void tests() {
        int[][] pairs = {{3, 4}, {4, 4}, {5, 4}, {0, 0}, {0, 1}};
        for (int[] p : pairs) {
            pay("100 + (" + p[0] + " < " + p[1] + ")", p[0] < p[1] ? 101 : 100);
            pay("100 + (" + p[0] + " = " + p[1] + ")", p[0] == p[1] ? 101 : 100);
        }
        pay("100 + (0 - 1 < 0)", 101);
        pay("100 + (0 - 1 < 0 - 1)", 100);
        pay("100 + (0 - 2 < 0 - 1)", 101);
        pay("100 + (0 - 1 = 1)", 100);
    }

    /** "tests, not, and, or are 1 or 0 (what isn't 0 holds)". */
    private static void whatHolds() {
        String[] holds = {"1", "2", "99999", "(0 - 1)", "(0 - 99999)", "(" + TWO_TO_63 + ")", "0", "(5 - 5)"};
        for (int i = 0; i < holds.length; i++) {
            int h = i < 6 ? 1 : 0;
            String a = holds[i];
            pay("100 + (" + a + " or 0)", 100 + h);
            pay("100 + (0 or " + a + ")", 100 + h);
            pay("100 + (" + a + " or " + a + ")", 100 + h);
            pay("100 + (" + a + " and 3)", 100 + h);
            pay("100 + (3 and " + a + ")", 100 + h);
            pay("100 + (" + a + " and 0)", 100);
            pay("100 + (not " + a + ")", 101 - h);
            pay("100 + (not not " + a + ")", 100 + h);
            pay("100 unless " + a, h == 1 ? 0 : 100);
            Land land = Land.withClaim("set wait 0;suit " + a + ";like " + a + " bar 1;");
            land.x.vacancy(0, 0, 5, 5);
            CHECK.due("suit " + a, h, land.x.offerOf(land.x.offer(0, 0), 2));
            CHECK.due("like " + a, h == 1 ? 1 : 3, land.x.day(0, 312, 0));
        }
    }

    /** "EXPR 'unless' EXPR: 0, if the second one holds, else the first": of each CLAUSE that may have it. */
    private static void unless() {
        for (int second = 0; second <= 1; second++) {
            String tail = " unless " + second + ";";
            Land land = Land.withClaim("set wait 0;set days 1;pay 7" + tail + "needy 5" + tail + "bar 1" + tail
                + "suit 1" + tail);
            LabourExchange x = land.x;
            x.days(3);
            int[] kinds = second == 0 ? new int[] {1, 3, 5, 5} : new int[] {3, 0, 0, 0};
            int[] pays = second == 0 ? new int[] {0, 7, 5, 5} : new int[] {0, 0, 0, 0};
            for (int i = 0; i < 4; i++) {
                CHECK.due("kind of " + i + tail, kinds[i], x.day(0, 312 + i, 0));
                CHECK.due("pay of " + i + tail, pays[i], x.day(0, 312 + i, 1));
            }
            x.vacancy(0, 0, 5, 5);
            CHECK.due("suit" + tail, 1 - second, x.offerOf(x.offer(0, 0), 2));
            CHECK.due("failed" + tail, second - 1, x.offerOf(0, 3));
        }
        pay("0 - 5 unless 0", 0);
        pay("0 unless 0", 0);
    }

    /** "From the left", and what binds closer. */
    private static void leftToRight() {
        pay("100 - 3 - 2", 95);
        pay("100 - 3 + 2", 99);
        pay("100 / 7 * 2", 28);
        pay("100 * 7 / 2", 350);
        pay("100 / 7 / 2", 7);
        pay("1 + 2 * 3", 7);
        pay("10 - 6 / 4", 9);
        pay("100 + (1 < 2 + 0)", 101);
        pay("100 + (not 1 = 0)", 101);
        pay("100 + (1 or 1 and 0)", 101);
        pay("100 + (0 and 1 or 1)", 101);
        pay("100 + (not 0 and 0)", 100);
        pay("100 + (1 or 1 < 0)", 101);
    }

    /** "miles, wage, same: of an OFFER (..; 0 else)": in 'pay', 'needy' and the bar of LEAVES, even behind an OFFER. */
    private static void valuesOfAnOfferOutsideOne() {
        for (String value : new String[] {"miles", "wage", "same"}) {
            Land land = Land.of(1);
            LabourExchange x = land.x;
            x.office(30, 30);
            land.text("insure 0;set wait 0;set days 1;pay 100 + " + value + ";needy 200 + " + value + ";bar 1 + " + value
                + ";");
            land.fullRow(0, 0, 6);
            x.event(0, 0, 0, 312);
            x.event(2, 0, 0, 312);
            x.vacancy(1, 0, 7, 500);
            x.days(2);
            CHECK.due("suitable", 1, x.offerOf(x.offer(0, 0), 2));
            CHECK.due("barred by LEAVES for one DAY", 1, x.day(0, 312, 0));
            CHECK.due("pay by " + value, 100, x.day(0, 313, 1));
            CHECK.due("needy by " + value, 200, x.day(0, 314, 1));
            x.event(1, 0, 9, 314);
            x.offer(0, 0);
            x.event(0, 0, 0, 314);
            x.event(2, 0, 0, 314);
            x.send();
            x.days(1);
            CHECK.due("barred again", 1, x.day(0, 314, 0));
            CHECK.due("no longer, by " + value, 5, x.day(0, 315, 0));
            CHECK.due("needy again by " + value, 200, x.day(0, 315, 1));
        }
    }

    /** "Without any: no TRADE is insured; .. PARAMS: wait 3, gap 18, rate 10, days 60, per 3, extra 0, stamp 2, court 12". */
    private static void defaults() {
        int[] want = {3, 18, 10, 60, 3, 0, 2, 12};
        LabourExchange x = new LabourExchange();
        for (int day : new int[] {0, 1, 312, 934, 935}) {
            for (int i = 0; i < 8; i++) {
                CHECK.due("PARAM " + i + " on " + day, want[i], x.law(i, day));
                CHECK.due("TRADE " + i + " on " + day, 0, x.law(10 + i, day));
            }
        }
        Land land = Land.withClaim("set wait 0;set days 1;");
        LabourExchange y = land.x;
        y.vacancy(0, 0, 5, 5);
        y.days(1);
        CHECK.due("without 'bar' not barred, pay is rate", 10, y.day(0, 312, 1));
        CHECK.due("without 'needy' ENDED", 0, y.day(0, 313, 0));
        CHECK.due("without 'suit' SUITABLE", 1, y.offerOf(y.offer(0, 0), 2));
    }

    /** "On a DAY those TEXTS are IN FORCE that are .. from that DAY or ahead, to a later one", as a CLAIM's DAYS show. */
    private static void spanOfATexts() {
        Land land = Land.withClaim("set wait 0;set rate 1;");
        land.text("pay 50;", 314, 316);
        land.x.days(6);
        int[] want = {1, 1, 50, 50, 1, 1};
        for (int i = 0; i < want.length; i++) {
            CHECK.due("pay on " + (312 + i), want[i], land.x.day(0, 312 + i, 1));
            CHECK.due("text on " + (312 + i), want[i] == 50 ? 1 : -1, land.x.day(0, 312 + i, 2));
        }
    }

    /** "LATER is one with a later first DAY": by one DAY, whatever their numbers and ends. */
    private static void laterFirstDay() {
        for (int turn = 0; turn < 2; turn++) {
            Land land = Land.of(1);
            land.text("set gap " + (turn == 0 ? 300 : 301) + ";", turn == 0 ? 300 : 301, 900);
            land.text("set gap " + (turn == 0 ? 301 : 300) + ";", turn == 0 ? 301 : 300, 901);
            CHECK.due("before both", 18, land.x.law(1, 299));
            CHECK.due("one alone", 300, land.x.law(1, 300));
            CHECK.due("the later one", 301, land.x.law(1, 301));
            CHECK.due("to its last DAY", 301, land.x.law(1, 899));
            CHECK.due("then the one that lasts", turn == 0 ? 301 : 300, land.x.law(1, 900));
            CHECK.due("behind both", 18, land.x.law(1, 901));
        }
    }

    /** "of like ones the greater number". */
    private static void ofLikeOnesTheGreaterNumber() {
        Land land = Land.of(1);
        for (int i = 0; i < 3; i++) {
            land.text("set gap " + i + ";", 300, 905 - i);
        }
        CHECK.due("the third", 2, land.x.law(1, 902));
        CHECK.due("the second, when the third is over", 1, land.x.law(1, 903));
        CHECK.due("the first, when both are", 0, land.x.law(1, 904));
        CHECK.due("none", 18, land.x.law(1, 905));
    }

    /** "that of the LATEST TEXT IN FORCE that has one (the last in it); each PARAM likewise". */
    private static void theLastInIt() {
        Land land = Land.withClaim("set wait 9;set wait 0;set wait 0;set days 9;set days 1;pay 5;pay 6;needy 7;needy 8;"
            + "bar 5;bar 1;");
        land.x.days(3);
        CHECK.due("the last 'bar'", 1, land.x.day(0, 312, 0));
        CHECK.due("and no more", 3, land.x.day(0, 313, 0));
        CHECK.due("the last 'pay'", 6, land.x.day(0, 313, 1));
        CHECK.due("the last 'days', 'needy'", 8, land.x.day(0, 314, 1));
        Land other = Land.of(1);
        other.text("insure 0,1,2;insure 3;");
        for (int trade = 0; trade < 8; trade++) {
            CHECK.due("the last 'insure', " + trade, trade == 3, other.x.law(10 + trade, 312) == 1);
        }
    }

    /** A later TEXT that has none leaves what an earlier one has. */
    private static void eachOfTheLatestThatHasOne() {
        Land land = Land.withClaim("set wait 0;set days 1;pay 5;needy 7;bar 1;");
        land.text("set gap 5;", 1, 900);
        land.text("", 2, 900);
        LabourExchange x = land.x;
        x.days(3);
        int[] kinds = {1, 3, 5};
        int[] texts = {-1, 0, 0};
        for (int i = 0; i < 3; i++) {
            CHECK.due("kind " + i, kinds[i], x.day(0, 312 + i, 0));
            CHECK.due("text " + i, texts[i], x.day(0, 312 + i, 2));
        }
        CHECK.due("insured still", 1, x.law(10, 312));
        land.text("pay 6;", 313, 314);
        CHECK.due("one that has it", 3, x.day(0, 313, 2));
        CHECK.due("but not the other", 0, x.day(0, 314, 2));
    }

    /** "'suit': all of the LATEST that has some, in order"; the one that failed: "its number in its TEXT's, from 0 on". */
    private static void suitsOfTheLatest() {
        Land land = Land.withClaim("set wait 0;suit wage < 5;");
        LabourExchange x = land.x;
        land.text("suit 1;pay 1;suit 1;suit wage < 6;suit wage < 7;", 1, 900);
        land.text("set gap 5;pay 1;", 2, 900);
        int[][] offers = {{5, 1, -1}, {6, 0, 2}, {7, 0, 2}};
        for (int i = 0; i < offers.length; i++) {
            x.vacancy(0, 0, offers[i][0], 5);
            int o = x.offer(0, i);
            CHECK.due("suitable at " + offers[i][0], offers[i][1], x.offerOf(o, 2));
            CHECK.due("failed at " + offers[i][0], offers[i][2], x.offerOf(o, 3));
        }
        land.text("suit not (wage = 5);", 3, 900);
        CHECK.due("now of another", 0, x.offerOf(x.offer(0, 0), 3));
        CHECK.due("7 is SUITABLE now", 1, x.offerOf(x.offer(0, 2), 2));
        StringBuilder many = new StringBuilder();
        for (int i = 0; i < 24; i++) {
            many.append(i < 23 ? "suit 1;" : "suit 0;");
        }
        land.text(many.toString(), 4, 900);
        CHECK.due("the 24th", 23, x.offerOf(x.offer(0, 0), 3));
    }

    /** "no 'suit'": neither when TEXTS that have some are not IN FORCE, whatever spans were made ahead of that. */
    private static void suitsOfNone() {
        Land land = Land.withClaim("set wait 0;");
        LabourExchange x = land.x;
        x.vacancy(0, 0, 5, 5);
        land.text("suit 0;", 313, 400);
        CHECK.due("not yet", 1, x.offerOf(x.offer(0, 0), 2));
        land.text("suit 0;", 200, 312);
        CHECK.due("nor any more", 1, x.offerOf(x.offer(0, 0), 2));
        land.text("set gap 1;", 300, 900);
        CHECK.due("nor by another's span", 1, x.offerOf(x.offer(0, 0), 2));
        x.days(1);
        CHECK.due("from its first DAY on", 0, x.offerOf(x.offer(0, 0), 2));
    }

    /** "'like': of all IN FORCE, the LATEST first, in each as they stand"; "or without one 'bar'". */
    private static void likesOfAll() {
        int[][] days = {{0, 2}, {1, 4}, {2, 3}, {3, 6}};
        for (int[] d : days) {
            Land land = Land.of(1);
            LabourExchange x = land.x;
            land.text("insure 0;set wait 0;bar 6;like reason = 0 bar 2;like reason = 1 bar 5;", 0, 935);
            land.text("like reason = 1 bar 4;like reason < 3 and reason = 2 bar 3;like reason = 2 bar 1;", 5, 935);
            land.text("like 1 bar 9;", 313, 935);
            land.fullRow(0, 0, 6);
            x.days(12);
            x.event(0, 0, d[0], 312);
            x.event(2, 0, 0, 312);
            CHECK.due("reason " + d[0] + ", the last DAY of the bar", 1, x.day(0, 311 + d[1], 0));
            CHECK.due("reason " + d[0] + ", the DAY behind", 3, x.day(0, 312 + d[1], 0));
        }
    }

    /** "On a DAY those TEXTS are IN FORCE that are known": told on THE DAY or ahead. */
    private static void knownOnADay() {
        Land land = Land.of(1);
        LabourExchange x = land.x;
        x.days(5);
        land.text("set gap 5;insure 1;", 0, 935);
        x.days(1);
        land.text("set gap 6;", 0, 935);
        x.days(1);
        int[][] known = {{312, 18, 0}, {316, 18, 0}, {317, 5, 1}, {318, 6, 1}, {319, 6, 1}};
        for (int[] k : known) {
            x.look(k[0]);
            CHECK.due("gap as known on " + k[0], k[1], x.law(1, 0));
            CHECK.due("insured as known on " + k[0], k[2], x.law(11, 934));
        }
        x.look(-1);
        CHECK.due("gap as known TODAY", 6, x.law(1, 0));
    }

    /** Sixteen TEXTS, no two of which begin or end on one DAY. */
    private static void manySpans() {
        Land land = Land.of(1);
        for (int i = 0; i < 16; i++) {
            land.text("set gap " + (100 + i) + ";insure " + i % 8 + ";", 1 + 20 * i, 600 + 20 * i);
        }
        for (int i = 0; i < 16; i++) {
            CHECK.due("from " + i, 100 + i, land.x.law(1, 1 + 20 * i));
            CHECK.due("ahead of " + i, i == 0 ? 18 : 99 + i, land.x.law(1, 20 * i));
            CHECK.due("trade from " + i, 1, land.x.law(10 + i % 8, 1 + 20 * i));
            CHECK.due("the last DAY of " + i, 115, land.x.law(1, 599 + 20 * i));
        }
        CHECK.due("behind all", 18, land.x.law(1, 900));
        CHECK.due("no TRADE behind all", 0, land.x.law(17, 900));
    }

    /** As many spans as sixteen TEXTS and a TRY can make, and DAYS behind the last of them. */
    private static void trySpans() {
        Land land = Land.of(1);
        LabourExchange x = land.x;
        land.text("insure 0;set per 1;set days 999;set rate 1;", 1, 435);
        land.fullRow(0, 0, 6);
        x.event(0, 0, 0, 312);
        x.event(2, 0, 0, 312);
        for (int i = 0; i < 15; i++) {
            land.text("pay 1;", 320 + i, 340 + i);
        }
        x.days(120);
        x.days(18);
        tried("five DAYS at 2 for 1, and one for 10", x, 430, 436, 5 - 8);
        tried("to the end", x, 449, 935, 2 * (2 - 10));
        tried("TODAY alone", x, 450, 935, 2 - 10);
        tried("from tomorrow", x, 451, 935, 0);
        tried("waiting is not paid", x, 0, 315, 0);
        tried("the first DAY paid", x, 0, 316, 1);
    }

    private static void tried(String what, LabourExchange x, int from, int to, int want) {
        Land.feed(x, Land.bytes("pay 2;"));
        CHECK.due("a TRY, " + what, 0, x.attempt(6, from, to));
        CHECK.due(what, want, x.tried(8, 0));
    }
}
