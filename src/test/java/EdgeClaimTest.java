/** Edges of promises 13 to 17 and of the Terms ==== 1 and 4: DAYS, THE DAY, bars, CLAIMS and their KINDS. */
public final class EdgeClaimTest {
    private static final Check CHECK = new Check();

    public static void main(String[] args) {
        daysAtOnce();
        theLastDay();
        lookAtDays();
        daysThatAreTold();
        claimsThatAreTold();
        valuesWithoutAClaim();
        outSinceLeaving();
        weeksAheadOfTheClaim();
        bars();
        barsOfLikes();
        barsThatEndLater();
        barsWithoutAClaim();
        shortDays();
        shortBeforeBar();
        waiting();
        waitChanges();
        earnedByStamps();
        earnedAtMost();
        earnedAreSpent();
        extended();
        gaps();
        gapOfTheDayOfSigning();
        joinedGoesOn();
        newOneStartsAnew();
        kindsWithoutAClaim();
        paidSoFar();
        reasons();
        payOfNone();
        CHECK.end();
    }

    private static void kinds(String what, LabourExchange x, int from, int... want) {
        for (int i = 0; i < want.length; i++) {
            CHECK.due(what + ", day " + (from + i), want[i], x.day(0, from + i, 0));
        }
    }

    /** Promise 13: "n is not 0 to 120, or it would be above 935". */
    private static void daysAtOnce() {
        LabourExchange x = Land.of(1).x;
        CHECK.due("0 days", 312, x.days(0));
        CHECK.due("1 day", 313, x.days(1));
        CHECK.due("119 days", 432, x.days(119));
        CHECK.due("120 days", 552, x.days(120));
        CHECK.badArgument("121 days", () -> x.days(121));
        CHECK.badArgument("-1 days", () -> x.days(-1));
        CHECK.due("none went by", 552, x.count(0));
    }

    private static void theLastDay() {
        LabourExchange x = Land.of(1).x;
        for (int i = 0; i < 5; i++) {
            x.days(120);
        }
        CHECK.due("912", 912, x.count(0));
        CHECK.badArgument("24 days more", () -> x.days(24));
        CHECK.badArgument("120 days more", () -> x.days(120));
        CHECK.due("22 days more", 934, x.days(22));
        CHECK.badArgument("2 days more", () -> x.days(2));
        CHECK.due("1 day more", 935, x.days(1));
        CHECK.badArgument("above 935", () -> x.days(1));
        CHECK.due("none more", 935, x.days(0));
        CHECK.due("IN WORK on 935", 7, x.day(0, 935, 0));
        CHECK.noElement("no 936", () -> x.day(0, 936, 0));
        CHECK.due("look at 935", -1, x.look(935));
        CHECK.badArgument("look at 936", () -> x.look(936));
        CHECK.due("the law of 935", 3, x.law(0, 935));
        CHECK.due("not a WEEK's last DAY paid: 935 goes by no more", 0, x.fund(1));
    }

    /** Promise 14: "(312 to TODAY; NONE: TODAY, whichever it is): what it was". */
    private static void lookAtDays() {
        LabourExchange x = Land.of(1).x;
        x.days(5);
        CHECK.due("at first TODAY", -1, x.look(312));
        CHECK.due("312", 312, x.look(317));
        CHECK.due("317", 317, x.look(313));
        CHECK.badArgument("311", () -> x.look(311));
        CHECK.badArgument("318", () -> x.look(318));
        CHECK.badArgument("-2", () -> x.look(-2));
        CHECK.due("313 still", 313, x.look(317));
        x.days(3);
        CHECK.noElement("TODAY told as a number stays", () -> x.day(0, 318, 0));
        CHECK.due("it was 317", 317, x.look(-1));
        x.days(3);
        CHECK.due("TODAY, whichever it is", 7, x.day(0, 323, 0));
        CHECK.due("TODAY again", -1, x.look(-1));
        CHECK.due("and asked once more", -1, x.look(323));
    }

    /** Promise 15: "(312 to THE DAY)", what 0 to 3. */
    private static void daysThatAreTold() {
        LabourExchange x = Land.withClaim("set wait 1;pay 8;").x;
        x.days(4);
        int[][] want = {{2, 0, -1, 0}, {3, 8, 0, 0}, {3, 8, 0, 0}, {3, 8, 0, 0}, {3, 8, 0, 0}};
        for (int i = 0; i < want.length; i++) {
            for (int what = 0; what < 4; what++) {
                CHECK.due("day " + (312 + i) + ", " + what, want[i][what], x.day(0, 312 + i, what));
            }
        }
        CHECK.noElement("311", () -> x.day(0, 311, 0));
        CHECK.noElement("317", () -> x.day(0, 317, 0));
        CHECK.noElement("what 4", () -> x.day(0, 312, 4));
        CHECK.noElement("what -1", () -> x.day(0, 312, -1));
        x.look(314);
        CHECK.due("THE DAY", 3, x.day(0, 314, 0));
        CHECK.noElement("behind THE DAY", () -> x.day(0, 315, 0));
        x.look(312);
        CHECK.due("the first DAY", 2, x.day(0, 312, 0));
        CHECK.noElement("behind the first DAY", () -> x.day(0, 313, 0));
    }

    /** Promise 16: "no such CLAIM, what", as known on THE DAY. */
    private static void claimsThatAreTold() {
        Land land = Land.withClaim("set gap 1;");
        LabourExchange x = land.x;
        x.days(5);
        CHECK.due("the first", 312, x.claim(0, 0, 0));
        CHECK.noElement("a second", () -> x.claim(0, 1, 0));
        x.event(3, 0, 0, 313);
        x.event(4, 0, 0, 314);
        x.event(2, 0, 0, 315);
        CHECK.due("the second", 315, x.claim(0, 1, 0));
        CHECK.noElement("a third", () -> x.claim(0, 2, 0));
        CHECK.noElement("-1", () -> x.claim(0, -1, 0));
        CHECK.due("what 10", 0, x.claim(0, 1, 10));
        CHECK.noElement("what 11", () -> x.claim(0, 1, 11));
        CHECK.noElement("what -1", () -> x.claim(0, 1, -1));
        x.look(316);
        CHECK.noElement("not known on 316", () -> x.claim(0, 1, 0));
        CHECK.due("open, as known on 316", 1, x.claim(0, 0, 8));
    }

    /** Promise 17: "4 paid (0 without an open CLAIM)", "without a CLAIM: of this DAY"; "reason: .. (0 without ..)". */
    private static void valuesWithoutAClaim() {
        Land land = Land.of(1);
        LabourExchange x = land.x;
        land.text("insure 0;set wait 0;");
        land.fullRow(0, 0, 2);
        long[] want = {30, 0, 20, 0, 0, 104, 0, 0, 0};
        for (int what = 0; what < 9; what++) {
            CHECK.due("value " + what, want[what], x.value(0, what));
        }
        CHECK.noElement("value 9", () -> x.value(0, 9));
        CHECK.noElement("value -1", () -> x.value(0, -1));
        x.event(0, 0, 0, 312);
        x.event(2, 0, 0, 312);
        CHECK.due("paid on the first DAY", 1, x.value(0, 4));
        x.days(6);
        CHECK.due("paid, all seven", 7, x.value(0, 4));
        CHECK.due("stamps of the CLAIM's first DAY", 104, x.value(0, 5));
        x.event(3, 0, 0, 318);
        CHECK.due("no open CLAIM", 0, x.value(0, 4));
        CHECK.due("stamps of this DAY", 102, x.value(0, 5));
        CHECK.due("unknown of this DAY", 1, x.value(0, 6));
        x.event(4, 0, 0, 318);
        x.event(2, 0, 0, 318);
        CHECK.due("JOINED: paid, and TODAY", 7, x.value(0, 4));
        CHECK.due("stamps of its first DAY", 104, x.value(0, 5));
    }

    /** "out: this DAY less that on which the person LEFT last (0 IN WORK, or if never)". */
    private static void outSinceLeaving() {
        LabourExchange x = Land.of(1).x;
        CHECK.due("never", 0, x.value(0, 3));
        x.days(10);
        CHECK.due("never, later", 0, x.value(0, 3));
        x.event(0, 0, 1, 322);
        CHECK.due("on the DAY itself", 0, x.value(0, 3));
        x.days(1);
        CHECK.due("a DAY", 1, x.value(0, 3));
        x.event(1, 0, 5, 323);
        CHECK.due("IN WORK", 0, x.value(0, 3));
        x.days(3);
        CHECK.due("IN WORK, later", 0, x.value(0, 3));
        x.event(0, 0, 1, 325);
        CHECK.due("since he LEFT last", 1, x.value(0, 3));
    }

    /** "of the 52 WEEKS ahead of that of the CLAIM's first DAY". */
    private static void weeksAheadOfTheClaim() {
        int[][] claims = {{312, 0}, {317, 0}, {318, 1}, {323, 1}, {324, 2}, {426, 19}};
        for (int[] c : claims) {
            Land land = Land.of(1);
            LabourExchange x = land.x;
            land.text("insure 0;");
            for (int week = c[1] - 1; week <= c[1] + 52; week += 53) {
                x.returns(0, week, 6);
            }
            x.returns(0, c[1], 1);
            x.returns(0, c[1] + 51, 2);
            x.days(Math.min(120, c[0] - 312));
            x.event(0, 0, 0, c[0]);
            x.event(2, 0, 0, c[0]);
            CHECK.due("stamps of the first and the last of them, " + c[0], 3, x.claim(0, 0, 9));
            CHECK.due("fifty unknown, " + c[0], 50, x.claim(0, 0, 10));
        }
    }

    /** "a bar of n DAYS, on for this DAY and n - 1 more"; "(0 to 9999: what is below or above is taken for these)". */
    private static void bars() {
        String[] texts = {"0 - 5", "0 - 1", "0", "1", "2", "3", "10"};
        int[] days = {0, 0, 0, 1, 2, 3, 10};
        for (int i = 0; i < texts.length; i++) {
            LabourExchange x = Land.withClaim("set wait 0;bar " + texts[i] + ";").x;
            x.days(12);
            for (int day = 0; day < 12; day++) {
                CHECK.due("bar " + texts[i] + ", day " + day, day < days[i] ? 1 : 3, x.day(0, 312 + day, 0));
            }
        }
        for (String n : new String[] {"624", "9999", "10000", "99999", "99999 * 99999", "65536 * 65536 + 1"}) {
            LabourExchange x = Land.withClaim("set wait 0;bar " + n + ";").x;
            for (int k = 0; k < 5; k++) {
                x.days(120);
            }
            x.days(23);
            CHECK.due("bar " + n + " on 935", 1, x.day(0, 935, 0));
        }
        LabourExchange x = Land.withClaim("set wait 0;bar 622;").x;
        for (int k = 0; k < 5; k++) {
            x.days(120);
        }
        x.days(23);
        CHECK.due("bar 622 on 933", 1, x.day(0, 933, 0));
        CHECK.due("bar 622 on 934", 3, x.day(0, 934, 0));
    }

    /** "n is the NUMBER of the first 'like' that holds": 0 too, and then 'bar' counts for nothing. */
    private static void barsOfLikes() {
        int[][] days = {{0, 0}, {1, 1}, {2, 2}, {5, 5}};
        for (int[] d : days) {
            LabourExchange x = Land.withClaim("set wait 0;bar 3;like 0 bar 4;like 1 bar " + d[0] + ";like 1 bar 4;").x;
            x.days(6);
            for (int day = 0; day < 6; day++) {
                CHECK.due("like of " + d[0] + ", day " + day, day < d[1] ? 1 : 3, x.day(0, 312 + day, 0));
            }
        }
        LabourExchange x = Land.withClaim("set wait 0;like 1 bar 99999;").x;
        x.days(120);
        CHECK.due("like of 99999", 1, x.day(0, 432, 0));
        LabourExchange none = Land.withClaim("set wait 0;bar 2;like 0 bar 4;").x;
        none.days(3);
        kinds("no 'like' holds", none, 312, 1, 1, 3);
    }

    /** "(one that ends later stays)": a second bar that ends sooner, on the same DAY, and later. */
    private static void barsThatEndLater() {
        for (int second = 0; second <= 5; second++) {
            Land land = Land.withClaim("set wait 0;bar 4 * (reason = 0) + " + second + " * (reason = 1);");
            LabourExchange x = land.x;
            x.days(9);
            x.event(1, 0, 9, 313);
            x.event(0, 0, 1, 313);
            x.event(2, 0, 0, 313);
            int last = Math.max(315, 312 + second);
            for (int day = 312; day <= 320; day++) {
                CHECK.due("a second bar of " + second + ", day " + day, day <= last ? 1 : 3, x.day(0, day, 0));
            }
        }
    }

    /** A bar goes on while no CLAIM is open, and IN WORK. */
    private static void barsWithoutAClaim() {
        Land land = Land.of(1);
        LabourExchange x = land.x;
        land.text("insure 0;set wait 0;bar 6 * (reason = 1);");
        land.fullRow(0, 0, 6);
        x.days(9);
        x.event(0, 0, 1, 312);
        x.event(2, 0, 0, 314);
        x.event(1, 0, 9, 315);
        x.event(0, 0, 0, 316);
        x.event(2, 0, 0, 316);
        kinds("from LEAVES on", x, 312, 9, 9, 1, 7, 1, 1, 3);
    }

    /** "6 SHORT WORKED, if SHORT and the DAY's place in its WEEK (0 to 5) is below what is worked". */
    private static void shortDays() {
        for (int worked = 1; worked <= 5; worked++) {
            Land land = Land.of(1);
            LabourExchange x = land.x;
            land.text("insure 0;set wait 0;");
            land.fullRow(0, 0, 6);
            x.event(6, 0, worked, 312);
            x.event(2, 0, 0, 312);
            x.days(12);
            for (int day = 312; day < 324; day++) {
                CHECK.due(worked + " worked, day " + day, day % 6 < worked ? 6 : 3, x.day(0, day, 0));
                CHECK.due(worked + " worked, pay of " + day, day % 6 < worked ? 0 : 10, x.day(0, day, 1));
            }
        }
    }

    /** SHORT WORKED comes ahead of BARRED; a CLAIM that is open stays so when its person leaves. */
    private static void shortBeforeBar() {
        Land land = Land.of(1);
        LabourExchange x = land.x;
        land.text("insure 0;set wait 0;bar 9 * (reason = 1);");
        land.fullRow(0, 0, 6);
        x.days(12);
        x.event(0, 0, 1, 312);
        x.event(1, 0, 9, 313);
        x.event(6, 0, 3, 313);
        x.event(2, 0, 0, 313);
        kinds("worked, else barred", x, 312, 9, 6, 6, 1, 1, 1, 6, 6, 6, 3, 3, 3, 6);
        x.event(6, 0, 6, 319);
        kinds("no more SHORT", x, 318, 6, 7, 7);
    }

    /** "2 WAITING, if fewer than 'wait' DAYS of it were so". */
    private static void waiting() {
        for (int wait = 0; wait <= 4; wait++) {
            LabourExchange x = Land.withClaim("set wait " + wait + ";").x;
            x.days(6);
            for (int day = 0; day < 6; day++) {
                CHECK.due("wait " + wait + ", day " + day, day < wait ? 2 : 3, x.day(0, 312 + day, 0));
            }
            CHECK.due("DAYS WAITED, wait " + wait, wait, x.claim(0, 0, 2));
        }
        LabourExchange x = Land.withClaim("set wait 99999;").x;
        x.days(120);
        CHECK.due("waiting for ever", 2, x.day(0, 432, 0));
        CHECK.due("DAYS WAITED", 121, x.claim(0, 0, 2));
    }

    /** PARAMS are those of each DAY: what waits longer later waits again. */
    private static void waitChanges() {
        Land land = Land.withClaim("set wait 1;");
        land.text("set wait 3;", 314, 935);
        land.x.days(6);
        kinds("one, and two more", land.x, 312, 2, 3, 2, 2, 3, 3);
        Land less = Land.withClaim("set wait 4;");
        less.text("set wait 2;", 314, 935);
        less.x.days(6);
        kinds("two alone", less.x, 312, 2, 2, 3, 3);
    }

    /** "EARNED DAYS: stamps by per (1 at least), cut down". */
    private static void earnedByStamps() {
        int[][] sums = {{0, 1, 0}, {1, 1, 1}, {1, 2, 0}, {2, 2, 1}, {3, 2, 1}, {4, 2, 2}, {5, 3, 1}, {6, 3, 2},
            {6, 6, 1}, {6, 7, 0}, {6, 99999, 0}, {5, 0, 5}, {6, 1, 6}};
        for (int[] s : sums) {
            Land land = Land.of(1);
            land.text("insure 0;set wait 0;set per " + s[1] + ";");
            land.row(0, 0, s[0]);
            land.x.event(0, 0, 0, 312);
            land.x.event(2, 0, 0, 312);
            CHECK.due(s[0] + " by " + s[1], s[2], land.x.claim(0, 0, 1));
            CHECK.due("stamps " + s[0], s[0], land.x.claim(0, 0, 9));
        }
    }

    /** "at most days". */
    private static void earnedAtMost() {
        int[][] most = {{0, 0}, {1, 1}, {103, 103}, {104, 104}, {105, 104}, {99999, 104}};
        for (int[] m : most) {
            LabourExchange x = Land.withClaim("set wait 0;set days " + m[0] + ";").x;
            CHECK.due("days " + m[0], m[1], x.claim(0, 0, 1));
            CHECK.due("the first DAY by days " + m[0], m[1] > 0 ? 3 : 0, x.day(0, 312, 0));
        }
    }

    /** "3 EARNED, if fewer than its EARNED DAYS were paid as EARNED", even if 'pay' comes to nothing. */
    private static void earnedAreSpent() {
        for (int days = 0; days <= 3; days++) {
            LabourExchange x = Land.withClaim("set wait 0;set days " + days + ";pay 4 * (days < 3);").x;
            x.days(4);
            for (int day = 0; day < 4; day++) {
                CHECK.due("days " + days + ", day " + day, day < days ? 3 : 0, x.day(0, 312 + day, 0));
            }
            CHECK.due("paid as EARNED", days, x.claim(0, 0, 3));
            CHECK.due("PAY in all", days < 3 ? 4 * days : 0, x.claim(0, 0, 6));
        }
    }

    /** "4 EXTENDED, if fewer than 'extra' were so". */
    private static void extended() {
        for (int extra = 0; extra <= 3; extra++) {
            LabourExchange x = Land.withClaim("set wait 0;set days 1;pay 7;set extra " + extra + ";").x;
            x.days(5);
            for (int day = 0; day < 5; day++) {
                int kind = day < 1 ? 3 : day < 1 + extra ? 4 : 0;
                CHECK.due("extra " + extra + ", day " + day, kind, x.day(0, 312 + day, 0));
                CHECK.due("pay with extra " + extra + ", day " + day, kind == 0 ? 0 : 7, x.day(0, 312 + day, 1));
                CHECK.due("text with extra " + extra, kind == 0 ? -1 : 0, x.day(0, 312 + day, 2));
            }
            CHECK.due("EXTENDED", extra, x.claim(0, 0, 4));
        }
        Land later = Land.withClaim("set wait 0;set days 1;needy 2;");
        later.text("set extra 1;", 314, 315);
        later.x.days(4);
        kinds("EXTENDED between NEEDY DAYS", later.x, 312, 3, 5, 4, 5);
    }

    /** "the latest CLAIM goes on, if it closed at most 'gap' DAYS ahead (it is JOINED); else a new one". */
    private static void gaps() {
        int[] gaps = {0, 1, 2, 18};
        for (int gap : gaps) {
            for (int after = Math.max(0, gap - 1); after <= gap + 1; after++) {
                Land land = Land.withClaim("set wait 0;set gap " + gap + ";");
                LabourExchange x = land.x;
                x.days(60);
                x.event(3, 0, 0, 320);
                x.event(4, 0, 0, 320);
                x.event(2, 0, 0, 320 + after);
                boolean joined = after <= gap;
                CHECK.due("gap " + gap + ", signed " + after + " behind", joined ? 0 : 1, x.day(0, 320 + after, 3));
                CHECK.due("JOINED", joined ? 1 : 0, x.claim(0, 0, 7));
                CHECK.due("the first is open", joined, x.claim(0, 0, 8) == 1);
            }
        }
    }

    /** 'gap' is that of the DAY of SIGNS. */
    private static void gapOfTheDayOfSigning() {
        Land land = Land.withClaim("set wait 0;set gap 0;");
        LabourExchange x = land.x;
        land.text("set gap 5;", 325, 326);
        x.days(20);
        x.event(3, 0, 0, 320);
        x.event(4, 0, 0, 320);
        int late = x.event(2, 0, 0, 326);
        CHECK.due("too late", 1, x.day(0, 326, 3));
        x.back(late);
        int early = x.event(2, 0, 0, 324);
        CHECK.due("too early", 1, x.day(0, 324, 3));
        x.back(early);
        x.event(2, 0, 0, 325);
        CHECK.due("on the DAY", 0, x.day(0, 325, 3));
    }

    /** A JOINED CLAIM keeps its first DAY, its DAYS of each KIND, its STAMPS, and closes anew. */
    private static void joinedGoesOn() {
        Land land = Land.withClaim("set wait 2;set gap 3;set days 3;");
        LabourExchange x = land.x;
        x.days(30);
        x.event(1, 0, 9, 313);
        x.event(0, 0, 0, 316);
        x.event(2, 0, 0, 316);
        x.event(3, 0, 0, 318);
        x.event(4, 0, 0, 319);
        x.event(2, 0, 0, 321);
        kinds("one waited, then one more", x, 312, 2, 7, 7, 7, 2, 3, 8, 9, 9, 3, 3, 0);
        int[] want = {312, 3, 2, 3, 0, 0, 30, 2, 1, 312, 0};
        for (int what = 0; what < want.length; what++) {
            CHECK.due("claim " + what, want[what], x.claim(0, 0, what));
        }
        x.event(3, 0, 0, 325);
        x.event(4, 0, 0, 325);
        x.event(2, 0, 0, 328);
        CHECK.due("3 DAYS behind its latest end", 3, x.claim(0, 0, 7));
    }

    /** A new CLAIM waits anew, has EARNED DAYS of its own, and the one ahead stays as it was. */
    private static void newOneStartsAnew() {
        Land land = Land.withClaim("set wait 1;set gap 0;set days 2;needy 3;");
        LabourExchange x = land.x;
        x.days(30);
        x.event(3, 0, 0, 316);
        x.event(4, 0, 0, 317);
        x.event(2, 0, 0, 318);
        kinds("two CLAIMS", x, 312, 2, 3, 3, 5, 8, 9, 2, 3, 3, 5);
        int[][] want = {{312, 2, 1, 2, 0, 1, 23, 0, 0, 312, 0}, {318, 2, 1, 2, 0, 22, 86, 0, 1, 306, 1}};
        for (int number = 0; number < 2; number++) {
            for (int what = 0; what < 11; what++) {
                CHECK.due("claim " + number + ", " + what, want[number][what], x.claim(0, number, what));
            }
        }
        int[] numbers = {0, 0, 0, 0, -1, -1, 1, 1};
        for (int i = 0; i < numbers.length; i++) {
            CHECK.due("number on " + (312 + i), numbers[i], x.day(0, 312 + i, 3));
        }
    }

    /** "Without an open CLAIM: 8 AWAY, 7 IN WORK, 9 OUT, the first of these that holds". */
    private static void kindsWithoutAClaim() {
        Land land = Land.of(1);
        LabourExchange x = land.x;
        x.days(12);
        x.event(3, 0, 0, 313);
        x.event(0, 0, 0, 314);
        x.event(4, 0, 0, 315);
        x.event(3, 0, 0, 316);
        x.event(4, 0, 0, 317);
        x.event(1, 0, 9, 318);
        x.event(6, 0, 3, 319);
        kinds("no CLAIM", x, 312, 7, 8, 8, 9, 8, 9, 7, 7);
        for (int day = 312; day < 320; day++) {
            CHECK.due("no pay on " + day, 0, x.day(0, day, 1));
            CHECK.due("no text on " + day, -1, x.day(0, day, 2));
            CHECK.due("no claim on " + day, -1, x.day(0, day, 3));
        }
    }

    /** "paid: DAYS paid in the CLAIM": ahead of the DAY that is to be paid. */
    private static void paidSoFar() {
        LabourExchange x = Land.withClaim("set wait 1;set days 2;set extra 1;pay 10 + paid;needy 20 + paid;").x;
        x.days(6);
        int[] pays = {0, 10, 11, 12, 23, 24, 25};
        for (int i = 0; i < pays.length; i++) {
            CHECK.due("pay of day " + i, pays[i], x.day(0, 312 + i, 1));
        }
        CHECK.due("paid TODAY too", 6, x.value(0, 4));
    }

    /** "reason: of the latest LEAVES (0 without; 4 where the bar of REFUSES is told)". */
    private static void reasons() {
        for (int reason = 0; reason <= 3; reason++) {
            Land land = Land.of(1);
            LabourExchange x = land.x;
            land.text("insure 0;set wait 0;bar 1 + reason;pay 100 + reason;");
            land.fullRow(0, 0, 6);
            x.event(0, 0, reason, 312);
            x.event(2, 0, 0, 312);
            x.vacancy(0, 0, 5, 5);
            x.days(6);
            CHECK.due("last barred by reason " + reason, 1, x.day(0, 312 + reason, 0));
            CHECK.due("pay by reason " + reason, 100 + reason, x.day(0, 313 + reason, 1));
            CHECK.due("value", reason, x.value(0, 8));
            x.offer(0, 0);
            x.answer(0, false);
            x.days(6);
            CHECK.due("barred by REFUSES, five DAYS", 1, x.day(0, 322, 0));
            CHECK.due("and no more", 3, x.day(0, 323, 0));
            CHECK.due("pay as before", 100 + reason, x.day(0, 323, 1));
        }
    }

    /** A DAY that is EARNED is paid by its TEXT even if that comes to 0; one that isn't is paid by none. */
    private static void payOfNone() {
        LabourExchange x = Land.withClaim("set wait 1;set days 1;set extra 1;bar 1;pay 0;needy 0;").x;
        x.days(5);
        kinds("each KIND", x, 312, 1, 2, 3, 4, 0);
        int[] texts = {-1, -1, 0, 0, -1};
        for (int i = 0; i < texts.length; i++) {
            CHECK.due("text of day " + i, texts[i], x.day(0, 312 + i, 2));
            CHECK.due("pay of day " + i, 0, x.day(0, 312 + i, 1));
        }
        CHECK.due("two paid", 2, x.value(0, 4));
    }
}
