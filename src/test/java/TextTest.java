/** Promises 8, 9 and 18: texts, their faults, and the law that they make. */
public final class TextTest {
    private static final Check CHECK = new Check();

    public static void main(String[] args) {
        telling();
        emptyTape();
        notAllowed();
        cannotStand();
        tooMuch();
        unknownWord();
        toldAlready();
        firstFault();
        faultLeavesNothing();
        clauseLimit();
        lawAsked();
        inForce();
        latest();
        lawAsKnown();
        manySpans();
        worth();
        CHECK.end();
    }

    private static void fault(String text, int kind, int place) {
        Land land = Land.of(1);
        CHECK.due("text " + text, -1 - kind, land.text(text));
        CHECK.due("place in " + text, place, land.x.fault());
        CHECK.due("texts after " + text, 0, land.x.count(4));
        CHECK.due("tape after " + text, 0, land.x.count(10));
        CHECK.due("attempt " + text, kind, land.attempt(text));
        CHECK.due("place of the attempt " + text, place, land.x.fault());
    }

    private static void good(String text) {
        Land land = Land.of(1);
        CHECK.due("text " + text, 0, land.text(text));
        CHECK.due("no fault in " + text, -1, land.x.fault());
    }

    /** Promise 8. */
    private static void telling() {
        Land land = Land.of(1);
        LabourExchange x = land.x;
        CHECK.badArgument("nothing on the tape", () -> x.text(1, 312, 400));
        CHECK.badArgument("n below 0", () -> x.text(-1, 312, 400));
        CHECK.due("from nothing", 0, x.text(0, 312, 400));
        CHECK.due("blanks and line ends alone", 1, land.text(" \n \n"));
        CHECK.due("some words", 2, land.text("set wait 5;set\nwait\n\n7;insure 3 , 4;"));
        CHECK.due("it is empty then", 0, x.count(10));
        CHECK.due("the last in it", 7, x.law(0, 312));
        for (int i = 3; i < 16; i++) {
            CHECK.due("text " + i, i, x.text(0, 0, 935));
        }
        CHECK.due("17th", -9, x.text(0, 0, 935));
        CHECK.due("17th, a fault too", -9, land.text("?"));
        CHECK.due("no fault", -1, x.fault());
        CHECK.due("texts", 16, x.count(4));
        CHECK.badArgument("exception ahead of -9", () -> x.text(1, 0, 935));
    }

    private static void emptyTape() {
        Land land = Land.of(1);
        LabourExchange x = land.x;
        Land.feed(x, Land.bytes("set wait 5; set wait 9;"));
        CHECK.badArgument("too many", () -> x.text(41, 0, 935));
        CHECK.due("nothing changes", 40, x.count(10));
        CHECK.due("the first bytes alone", 0, x.text(11, 0, 935));
        CHECK.due("all is gone", 0, x.count(10));
        CHECK.due("wait", 5, x.law(0, 312));
        CHECK.due("a fault", -2, land.text("set wait 5"));
        CHECK.due("its place", 10, x.fault());
        CHECK.badArgument("then an exception", () -> x.text(1, 0, 935));
        CHECK.due("the place stays", 10, x.fault());
        CHECK.due("then a text", 1, land.text("set wait 6;"));
        CHECK.due("no place", -1, x.fault());
    }

    private static void notAllowed() {
        int[][] wrong = {{-1, 400}, {936, 400}, {312, -1}, {312, 936}};
        for (int[] days : wrong) {
            Land land = Land.of(1);
            CHECK.due("from " + days[0] + " to " + days[1], -9, land.text("set wait 5;", days[0], days[1]));
            CHECK.due("texts", 0, land.x.count(4));
        }
        Land land = Land.of(1);
        CHECK.due("it may never be", 0, land.text("set wait 5;", 400, 400));
        CHECK.due("not on its end", 3, land.x.law(0, 400));
        CHECK.due("backwards", 1, land.text("set wait 5;", 935, 0));
        CHECK.due("nor backwards", 3, land.x.law(0, 935));
    }

    /** Promise 9, fault 1. */
    private static void cannotStand() {
        fault("?", 1, 0);
        fault("  ;", 1, 2);
        fault("hello 1;", 1, 0);
        fault("wait 1;", 1, 0);
        fault("unless 1;", 1, 0);
        fault("123456;", 1, 0);
        fault("insure ;", 1, 7);
        fault("insure 1 2;", 1, 9);
        fault("insure 1,;", 1, 9);
        fault("insure one;", 1, 7);
        fault("insure 1 123456;", 1, 9);
        fault("set 3 3;", 1, 4);
        fault("set wait x;", 1, 9);
        fault("set wait (3);", 1, 9);
        fault("set wait 3 3;", 1, 11);
        fault("pay ;", 1, 4);
        fault("pay 1 2;", 1, 6);
        fault("pay 1 age;", 1, 6);
        fault("pay 1 < 2 < 3;", 1, 10);
        fault("pay 1 = 2 < 3;", 1, 10);
        fault("pay (1;", 1, 6);
        fault("pay 1);", 1, 5);
        fault("pay ();", 1, 5);
        fault("pay -1;", 1, 4);
        fault("pay 1 + ;", 1, 8);
        fault("pay 1 unless 2 unless 3;", 1, 15);
        fault("pay (1 unless 2);", 1, 7);
        fault("like 1 unless 2 bar 3;", 1, 7);
        fault("like 1 bar x;", 1, 11);
        fault("like 1 suit 3;", 1, 7);
        fault("bar 1 bar 3;", 1, 6);
        fault("pay 1,2;", 1, 5);
        fault("pay 1\t+2;", 1, 5);
        fault("pay 1 + A;", 1, 8);
        fault("Pay 1;", 1, 0);
        fault("pay 1 " + (char) 233 + ";", 1, 6);
        fault("pay 1 123456;", 1, 6);
        fault("pay", 1, 3);
        fault("pay 1", 1, 5);
        fault("pay 1  ", 1, 7);
        fault("insure 1", 1, 8);
        fault("pay 1; set", 1, 10);
        fault("pay ((((((;", 1, 10);
        fault("pay (((((()", 1, 10);
        fault("pay ((((((", 1, 10);
        for (char c = 0; c < 4; c++) {
            fault("pay " + c + ";", 1, 4);
            fault("insure " + c + ";", 1, 7);
            fault("bar 1;" + c, 1, 6);
        }
        fault("pay 12age;", 1, 6);
        good("set wait3;");
        good("pay not1<age*(2);needy(1)or(0)and not not 1 unless same;");
    }

    /** Promise 9, fault 2. */
    private static void tooMuch() {
        good("set wait 99999;");
        good("set wait 00000;");
        fault("set wait 100000;", 2, 9);
        fault("set wait 000000;", 2, 9);
        fault("pay 1 + 123456;", 2, 8);
        fault("like 1 bar 123456;", 2, 11);
        good("insure 7;");
        good("insure 00007;");
        fault("insure 8;", 2, 7);
        fault("insure 1, 99999;", 2, 10);
        fault("insure 000001;", 2, 7);
        good("pay (((((1)))));");
        fault("pay ((((((1))))));", 2, 10);
        fault("pay ((((((age))))));", 2, 10);
        fault("pay ((((((not 1))))));", 2, 10);
        fault("pay ((((((hello))))));", 2, 10);
        fault("pay (((((((1)))))));", 2, 10);
        fault("pay 1 unless ((((((1))))));", 2, 19);
        good("pay (((((1))))) unless (((((1)))));");
        good("like (((((1))))) bar 1;");
        fault("like ((((((1)))))) bar 1;", 2, 11);
        good("pay (((((1)))))+(((((1)))));");
        good("pay not not not not not not 1;");
        fault("pay not not not not not not not 1;", 2, 28);
        good("pay not not not not (not not not not 1);");
        good("pay not not not not 1 and not not not not 1;");
        fault("like not not not not not not not 1 bar 1;", 2, 29);
    }

    /** Promise 9, fault 3. */
    private static void unknownWord() {
        fault("set age 3;", 3, 4);
        fault("set pay 3;", 3, 4);
        fault("set waits 3;", 3, 4);
        fault("set wai 3;", 3, 4);
        fault("pay hello;", 3, 4);
        fault("pay or 1;", 3, 4);
        fault("pay unless 1;", 3, 4);
        fault("pay pay;", 3, 4);
        fault("pay 1 + not 2;", 3, 8);
        fault("pay 1 < not 2;", 3, 8);
        fault("pay 1 and bar;", 3, 10);
        fault("pay not hello;", 3, 8);
        fault("pay ages;", 3, 4);
        fault("pay zag;", 3, 4);
        fault("pay agez;", 3, 4);
        fault("pay stampss;", 3, 4);
        fault("suit (insure);", 3, 6);
        good("pay wait+gap+rate+days+per+extra+stamp+court;");
        good("pay age+trade+usual+out+paid+stamps+unknown+means+reason+miles+wage+same;");
    }

    /** Promise 9, fault 4. */
    private static void toldAlready() {
        fault("insure 1,1;", 4, 9);
        fault("insure 0,1,2,3,4,5,6,7,00003;", 4, 23);
        good("insure 0,1,2,3,4,5,6,7;");
        good("insure 1;insure 1;");
    }

    private static void firstFault() {
        fault("set wait 1; set wat 2; insure 9;", 3, 16);
        fault("insure 9; set wat 2;", 2, 7);
        fault("pay 1 ? 2; insure 9;", 1, 6);
    }

    /** What a faulty TEXT had told ahead of its FAULT is not in the next one. */
    private static void faultLeavesNothing() {
        Land land = Land.of(1);
        LabourExchange x = land.x;
        land.text("insure 0;set wait 0;");
        land.text("insure 1;set gap 5;pay 9;needy 9;bar 9;suit 0;suit 0;like 1 bar 7;?");
        CHECK.due("the place", 66, x.fault());
        land.text("set per 1;");
        land.fullRow(0, 0, 6);
        x.event(0, 0, 0, 312);
        x.event(2, 0, 0, 312);
        x.vacancy(0, 0, 5, 5);
        CHECK.due("insured as before", 1, x.law(10, 312));
        CHECK.due("gap as before", 18, x.law(1, 312));
        CHECK.due("not barred, and rate", 10, x.day(0, 312, 1));
        CHECK.due("SUITABLE", 1, x.offerOf(x.offer(0, 0), 2));
        x.days(61);
        CHECK.due("not NEEDY", 0, x.day(0, 373, 0));
    }

    private static void clauseLimit() {
        String clauses = "bar 1;".repeat(24);
        good(clauses);
        good(clauses + " \n");
        fault(clauses + "bar 1;", 2, 144);
        fault(clauses + " insure", 2, 145);
        fault(clauses + ";", 1, 144);
        fault(clauses + "wait", 1, 144);
    }

    /** Promise 18. */
    private static void lawAsked() {
        Land land = Land.of(1);
        LabourExchange x = land.x;
        int[] defaults = {3, 18, 10, 60, 3, 0, 2, 12};
        for (int i = 0; i < 8; i++) {
            CHECK.due("default " + i, defaults[i], x.law(i, 0));
            CHECK.due("not insured " + i, 0, x.law(10 + i, 935));
        }
        CHECK.noElement("law -1", () -> x.law(-1, 312));
        CHECK.noElement("law 8", () -> x.law(8, 312));
        CHECK.noElement("law 9", () -> x.law(9, 312));
        CHECK.noElement("law 18", () -> x.law(18, 312));
        CHECK.noElement("day -1", () -> x.law(0, -1));
        CHECK.noElement("day 936", () -> x.law(0, 936));
        land.text("set wait 1;set gap 2;set rate 3;set days 4;set per 5;set extra 6;set stamp 7;set court 8;"
            + "insure 0,1,2;insure 3,7;", 300, 400);
        for (int i = 0; i < 8; i++) {
            CHECK.due("set " + i, i + 1, x.law(i, 300));
            CHECK.due("ahead " + i, defaults[i], x.law(i, 299));
            CHECK.due("on the end " + i, defaults[i], x.law(i, 400));
            CHECK.due("insured by the last alone " + i, i == 3 || i == 7 ? 1 : 0, x.law(10 + i, 399));
        }
    }

    private static void inForce() {
        Land land = Land.of(1);
        land.text("set wait 5;", 310, 320);
        land.text("set gap 5;", 315, 316);
        CHECK.due("309", 3, land.x.law(0, 309));
        CHECK.due("310", 5, land.x.law(0, 310));
        CHECK.due("319", 5, land.x.law(0, 319));
        CHECK.due("320", 3, land.x.law(0, 320));
        CHECK.due("gap 314", 18, land.x.law(1, 314));
        CHECK.due("gap 315", 5, land.x.law(1, 315));
        CHECK.due("gap 316", 18, land.x.law(1, 316));
    }

    private static void latest() {
        Land land = Land.of(1);
        land.text("set wait 1;set gap 1;insure 1;", 300, 900);
        land.text("set wait 2;", 300, 900);
        land.text("set wait 3;set rate 4;insure 2;", 299, 900);
        land.text("set wait 4;", 310, 320);
        CHECK.due("of like first days the greater number", 2, land.x.law(0, 305));
        CHECK.due("each PARAM of the latest that has it", 1, land.x.law(1, 305));
        CHECK.due("of the earliest, for want of others", 4, land.x.law(2, 305));
        CHECK.due("a later first day", 4, land.x.law(0, 315));
        CHECK.due("and behind it", 2, land.x.law(0, 320));
        CHECK.due("insured by the latest", 1, land.x.law(11, 305));
        CHECK.due("not by an earlier one too", 0, land.x.law(12, 305));
        CHECK.due("insured by the earliest alone", 1, land.x.law(12, 299));
    }

    private static void lawAsKnown() {
        Land land = Land.of(1);
        LabourExchange x = land.x;
        x.days(10);
        land.text("set wait 9;", 0, 935);
        CHECK.due("known now", 9, x.law(0, 100));
        x.look(321);
        CHECK.due("not known then", 3, x.law(0, 100));
        x.look(322);
        CHECK.due("known on the DAY it is told", 9, x.law(0, 100));
        x.look(-1);
        CHECK.due("known TODAY", 9, x.law(0, 934));
        land.text("insure 1;set wait 8;suit 0;needy 5;", 0, 935);
        x.days(1);
        x.look(322);
        CHECK.due("insured as known on 322", 1, x.law(11, 0));
        x.look(321);
        CHECK.due("not as known on 321", 0, x.law(11, 0));
    }

    /** As many spans of DAYS as sixteen TEXTS and a TRY can make. */
    private static void manySpans() {
        Land land = Land.of(1);
        for (int i = 0; i < 16; i++) {
            land.text("set wait " + (100 + i) + ";", 1 + 10 * i, 6 + 10 * i);
        }
        Land.feed(land.x, Land.bytes("set wait 200;"));
        CHECK.due("a TRY behind all", 0, land.x.attempt(13, 911, 916));
        for (int i = 0; i < 16; i++) {
            CHECK.due("in span " + i, 100 + i, land.x.law(0, 5 + 10 * i));
            CHECK.due("behind span " + i, 3, land.x.law(0, 6 + 10 * i));
        }
        land.x.days(1);
        land.x.look(312);
        CHECK.due("in the last span, of another DAY", 115, land.x.law(0, 151));
    }

    /** EXPRESSIONS, as PAY of the first DAY shows them: 0 to 9999. */
    private static void worth() {
        worth("1+2*3", 7);
        worth("(1+2)*3", 9);
        worth("10-3-2", 5);
        worth("100/7/2", 7);
        worth("7/2*2", 6);
        worth("2*7/4", 3);
        worth("5/0", 0);
        worth("10+(0-7)/2", 7);
        worth("10+(1-8)/(0-2)", 13);
        worth("3<4", 1);
        worth("4<4", 0);
        worth("4=4", 1);
        worth("1+2=3", 1);
        worth("1+(2=3)", 1);
        worth("5 or 0", 1);
        worth("0 or 0", 0);
        worth("5 and 7", 1);
        worth("5 and 0", 0);
        worth("1 or 0 and 0", 1);
        worth("(1 or 0) and 0", 0);
        worth("not 5", 0);
        worth("not 0", 1);
        worth("not not 5", 1);
        worth("not 1<0", 1);
        worth("5 unless 0", 5);
        worth("5 unless 3", 0);
        worth("5 unless 0-1", 0);
        worth("5 or 3 unless 0 and 1", 1);
        worth("9998+1", 9999);
        worth("9999+1", 9999);
        worth("3-5", 0);
        worth("99999*99999*99999*99999", 9999);
        worth("99999*99999*99999*9999", 0);
        worth("1000*wait+100*(extra=0)+10*(stamp=2)+(court=12)", 111);
        worth("gap*rate+days+per", 243);
        worth("age", 30);
        worth("trade", 1);
        worth("usual", 20);
        worth("miles+wage+same+reason+means+paid+out", 0);
    }

    private static void worth(String expression, int want) {
        Land land = Land.of(2);
        land.text("insure 1;set wait 0;pay " + expression + ";");
        land.fullRow(1, 0, 6);
        land.x.event(0, 1, 0, 312);
        land.x.event(2, 1, 0, 312);
        CHECK.due("pay " + expression, want, land.x.day(1, 312, 1));
        CHECK.due("kind by " + expression, 3, land.x.day(1, 312, 0));
    }
}
