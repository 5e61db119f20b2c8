/** Edges of promises 19 and 20 and of the Terms ==== 5: WEEKS that are paid, OWED, THE FUND and how long it LASTS. */
public final class EdgePayTest {
    private static final Check CHECK = new Check();

    public static void main(String[] args) {
        endOfAWeek();
        weeksAtOnce();
        lessThanNothing();
        owedAtTheEndOfTheLatestWeek();
        payUpToTheDay();
        knownOnTheLastDay();
        stampOfTheLastDay();
        insuredOnTheDay();
        whoBringsStamps();
        firstFund();
        aroundZero();
        lastsAtEdges();
        meanOfTheLatestFour();
        meanTowardsTheLess();
        neverLess();
        questions();
        CHECK.end();
    }

    /** "When TODAY goes from a WEEK's last DAY to the next one". */
    private static void endOfAWeek() {
        LabourExchange x = Land.withClaim("set wait 0;").x;
        for (int day = 312; day <= 325; day++) {
            int paid = day < 318 ? 0 : day < 324 ? 60 : 120;
            CHECK.due("paid on " + day, paid, x.paid(0, 0));
            CHECK.due("paid then, on " + day, paid == 0 ? 0 : 60, x.fund(2));
            CHECK.due("PAY up to " + day, 10 * (day - 311), x.paid(0, 2));
            CHECK.due("a DAY goes by", day + 1, x.days(1));
        }
    }

    /** WEEKS that go by in one call are paid one by one. */
    private static void weeksAtOnce() {
        LabourExchange x = Land.withClaim("set wait 0;set per 1;set days 999;").x;
        x.days(5);
        CHECK.due("none yet", 0, x.paid(0, 0));
        x.days(0);
        CHECK.due("no DAY went by", 0, x.paid(0, 0));
        x.days(6);
        CHECK.due("one", 60, x.paid(0, 0));
        CHECK.due("paid in it", 60, x.fund(2));
        x.days(7);
        CHECK.due("three", 180, x.paid(0, 0));
        CHECK.due("in each the same", 60, x.fund(2));
        x.days(120);
        CHECK.due("23", 1380, x.paid(0, 0));
        CHECK.due("THE FUND", 10000 - 1380, x.fund(0));
        CHECK.due("lasts", 8620 / 60 + 1, x.fund(3));
    }

    /** "less what was paid so far (if it is less than nothing: OWED, and nothing is paid)": -1, 0 and 1. */
    private static void lessThanNothing() {
        int[] means = {0, 1, 2};
        for (int m : means) {
            Land land = Land.withClaim("set wait 0;pay 1 * (out = 0) + means * (out = 1);");
            LabourExchange x = land.x;
            int first = x.event(5, 0, 1, 312);
            x.days(6);
            CHECK.due("paid", 2, x.paid(0, 0));
            x.back(first);
            x.event(5, 0, m, 312);
            x.days(6);
            CHECK.due("PAY in all", 1 + m, x.paid(0, 2));
            CHECK.due("OWED", m == 0 ? 1 : 0, x.paid(0, 1));
            CHECK.due("paid so far", Math.max(2, 1 + m), x.paid(0, 0));
            CHECK.due("paid by THE FUND", m == 2 ? 1 : 0, x.fund(2));
        }
    }

    /** "1 OWED at the end of the latest WEEK (0: nothing was)": anew each WEEK. */
    private static void owedAtTheEndOfTheLatestWeek() {
        LabourExchange x = Land.withClaim("set wait 0;").x;
        x.days(6);
        int hired = x.event(1, 0, 9, 312);
        CHECK.due("not yet", 0, x.paid(0, 1));
        x.days(5);
        CHECK.due("nor on the last DAY", 0, x.paid(0, 1));
        x.days(1);
        CHECK.due("OWED", 60, x.paid(0, 1));
        x.days(6);
        CHECK.due("still", 60, x.paid(0, 1));
        x.back(hired);
        CHECK.due("of the latest WEEK", 60, x.paid(0, 1));
        x.days(6);
        CHECK.due("nothing", 0, x.paid(0, 1));
        CHECK.due("all is paid", 240, x.paid(0, 0));
        CHECK.due("three WEEKS at once", 180, x.fund(2));
    }

    /** "2 PAY up to THE DAY as known on it". */
    private static void payUpToTheDay() {
        LabourExchange x = Land.withClaim("set wait 1;").x;
        x.days(4);
        x.event(1, 0, 9, 314);
        int[][] pays = {{312, 0}, {313, 10}, {314, 20}, {315, 30}, {316, 10}};
        for (int[] p : pays) {
            x.look(p[0]);
            CHECK.due("PAY up to " + p[0], p[1], x.paid(0, 2));
            CHECK.due("paid so far", 0, x.paid(0, 0));
        }
    }

    /** "what all PAY up to that last DAY, as known on it, comes to". */
    private static void knownOnTheLastDay() {
        Land land = Land.withClaim("set wait 0;");
        LabourExchange x = land.x;
        x.days(5);
        land.text("pay 11;", 312, 935);
        x.look(316);
        x.days(1);
        CHECK.due("told on the last DAY", 66, x.paid(0, 0));
        x.days(5);
        x.days(1);
        land.text("pay 12;", 312, 935);
        CHECK.due("told on the next one", 132, x.paid(0, 0));
        x.days(6);
        CHECK.due("is put right a WEEK later", 216, x.paid(0, 0));
        CHECK.due("at once", 84, x.fund(2));
    }

    /** "'stamp' (of the WEEK's last DAY) for each DAY IN WORK". */
    private static void stampOfTheLastDay() {
        int[][] spans = {{317, 318, 42}, {316, 317, 12}, {318, 319, 12}, {312, 317, 12}, {312, 318, 42}};
        for (int[] s : spans) {
            Land land = Land.of(1);
            land.text("insure 0;", 0, 935);
            land.text("set stamp 7;", s[0], s[1]);
            land.x.days(6);
            CHECK.due("stamp 7 from " + s[0] + " to " + s[1], s[2], land.x.fund(1));
        }
        for (int stamp : new int[] {0, 1, 99999}) {
            Land land = Land.of(1);
            land.text("insure 0;set stamp " + stamp + ";");
            land.x.days(6);
            CHECK.due("stamp " + stamp, 6 * stamp, land.x.fund(1));
            CHECK.due("it has", 10000 + 6 * stamp, land.x.fund(0));
        }
    }

    /** "of PEOPLE of insured TRADES (insured on that DAY)". */
    private static void insuredOnTheDay() {
        int[][] spans = {{312, 318, 6}, {312, 313, 1}, {313, 317, 4}, {317, 318, 1}, {318, 319, 0}, {0, 312, 0}};
        for (int[] s : spans) {
            Land land = Land.of(2);
            land.text("insure 1;", s[0], s[1]);
            land.x.days(6);
            CHECK.due("insured from " + s[0] + " to " + s[1], 2 * s[2], land.x.fund(1));
        }
    }

    /** "for each DAY IN WORK or SHORT WORKED": not one of the other KINDS. */
    private static void whoBringsStamps() {
        Land land = Land.of(5);
        LabourExchange x = land.x;
        land.text("insure 0,1,2,3;set stamp 1;set wait 0;set days 1;");
        land.fullRow(3, 0, 6);
        x.event(3, 2, 0, 312);
        x.event(6, 3, 2, 312);
        x.event(2, 3, 0, 312);
        x.days(2);
        x.event(0, 1, 0, 314);
        x.event(4, 2, 0, 313);
        x.days(4);
        CHECK.due("6 of 0, 2 of 1, 5 of 2, 2 of 3, none of 4", 15, x.fund(1));
    }

    /** "THE FUND (10,000 pence at first)". */
    private static void firstFund() {
        LabourExchange x = new LabourExchange();
        int[] want = {10000, 0, 0, -1};
        for (int what = 0; what < 4; what++) {
            CHECK.due("fund at first " + what, want[what], x.fund(what));
        }
        x.days(6);
        for (int what = 0; what < 4; what++) {
            CHECK.due("fund of nobody " + what, want[what], x.fund(what));
        }
    }

    /** A FUND that has so much behind its first WEEK. */
    private static LabourExchange fundOf(int left) {
        LabourExchange x = Land.withClaim("set wait 0;set stamp 0;set days 2;pay 9000 * (out = 0) + " + (1000 - left)
            + " * (out = 1);").x;
        x.days(6);
        CHECK.due("THE FUND has", left, x.fund(0));
        return x;
    }

    /** "(it may come below 0)"; "0: it is below 0": at 1, 0 and -1. */
    private static void aroundZero() {
        int[][] left = {{2, 1}, {1, 1}, {0, 1}, {-1, 0}, {-2, 0}};
        for (int[] l : left) {
            CHECK.due("LASTS with " + l[0], l[1], fundOf(l[0]).fund(3));
        }
        LabourExchange x = fundOf(-1);
        x.days(24);
        CHECK.due("0, whatever the mean", 0, x.fund(3));
        CHECK.due("below 0 still", -1, x.fund(0));
    }

    /** "how many such WEEKS more until it is below 0": at a multiple of what goes, one more and one less. */
    private static void lastsAtEdges() {
        int[][] pays = {{5000, 2}, {5001, 1}, {4999, 2}, {3333, 3}, {3334, 2}, {2500, 4}, {2501, 3}, {2499, 4}, {1, 10000},
            {9999, 1}, {10000, 1}};
        for (int[] p : pays) {
            int first = Math.min(p[0], 9999);
            LabourExchange x = Land.withClaim("set wait 0;set stamp 0;set days 2;pay " + first + " * (out = 0) + "
                + (p[0] - first) + ";").x;
            x.days(6);
            CHECK.due("THE FUND less " + p[0], 10000 - p[0], x.fund(0));
            CHECK.due("LASTS, less " + p[0] + " each WEEK", p[1], x.fund(3));
        }
    }

    /** "the mean of what the latest four (fewer, if there were fewer) did". */
    private static void meanOfTheLatestFour() {
        LabourExchange x = Land.withClaim("set wait 0;set stamp 0;set per 1;set days 999;"
            + "pay 100 * (out = 0) + 80 * (out = 6) + 60 * (out = 12) + 40 * (out = 18);").x;
        int[] has = {9900, 9820, 9760, 9720, 9720, 9720, 9720, 9720};
        int[] mean = {100, 90, 80, 70, 45, 25, 10, 0};
        for (int week = 0; week < has.length; week++) {
            x.days(6);
            CHECK.due("THE FUND behind WEEK " + week, has[week], x.fund(0));
            CHECK.due("LASTS behind WEEK " + week, mean[week] == 0 ? -1 : has[week] / mean[week] + 1, x.fund(3));
        }
    }

    /** "cut down (towards the less)". */
    private static void meanTowardsTheLess() {
        int[][] sums = {{1, 1, 1}, {2, 1, 2}, {3, 2, 2}, {4, 2, 3}, {5, 2, 4}, {4, 1, 4}, {8, 2, 4}, {9, 3, 4}};
        for (int[] s : sums) {
            LabourExchange x = Land.withClaim("set wait 0;set stamp 0;pay " + s[0] + " * (out = 0);").x;
            for (int week = 0; week < s[2]; week++) {
                x.days(6);
            }
            CHECK.due(s[0] + " in " + s[2] + " WEEKS", (10000 - s[0]) / s[1] + 1, x.fund(3));
        }
    }

    /** "NONE: else m isn't below 0, or there was none". */
    private static void neverLess() {
        CHECK.due("there was none", -1, Land.withClaim("set wait 0;").x.fund(3));
        for (int stamp = 1; stamp <= 3; stamp++) {
            Land land = Land.of(2);
            LabourExchange x = land.x;
            land.text("insure 0,1;set wait 0;set stamp " + stamp + ";pay 12 * (out = 0);");
            land.fullRow(0, 0, 6);
            x.event(0, 0, 0, 312);
            x.event(2, 0, 0, 312);
            x.days(6);
            CHECK.due("got", 6 * stamp, x.fund(1));
            CHECK.due("paid", 12, x.fund(2));
            CHECK.due("LASTS with stamp " + stamp, stamp == 1 ? 9994 / 6 + 1 : -1, x.fund(3));
        }
    }

    /** "NoSuchElementException: another what". */
    private static void questions() {
        LabourExchange x = Land.of(1).x;
        for (int what = 0; what <= 2; what++) {
            CHECK.due("paid " + what, 0, x.paid(0, what));
        }
        CHECK.noElement("paid 3", () -> x.paid(0, 3));
        CHECK.noElement("paid -1", () -> x.paid(0, -1));
        CHECK.noElement("paid to another", () -> x.paid(1, 0));
        CHECK.noElement("paid to nobody", () -> x.paid(-1, 0));
        CHECK.noElement("fund 4", () -> x.fund(4));
        CHECK.noElement("fund -1", () -> x.fund(-1));
    }
}
