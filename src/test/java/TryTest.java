/** Promises 34 to 36: texts tried before they are told, and counts. */
public final class TryTest {
    private static final Check CHECK = new Check();

    public static void main(String[] args) {
        wrongOnes();
        more();
        leavesNoTrace();
        behindAllOthers();
        needyDays();
        sixteenTexts();
        count();
        CHECK.end();
    }

    private static Land land(int people, String text) {
        Land land = Land.of(people);
        land.text("insure 0,1,2;" + text);
        for (int p = 0; p < people; p++) {
            land.fullRow(p, 0, 6);
            land.x.event(0, p, 0, 312);
            land.x.event(2, p, 0, 312);
        }
        return land;
    }

    /** Promises 34 and 35. */
    private static void wrongOnes() {
        Land land = land(1, "");
        LabourExchange x = land.x;
        CHECK.badArgument("nothing on the tape", () -> x.attempt(1, 312, 400));
        CHECK.badArgument("n below 0", () -> x.attempt(-1, 312, 400));
        CHECK.noElement("none was", () -> x.tried(0, 0));
        CHECK.due("a fault", 3, land.attempt("set age 3;"));
        CHECK.due("its place", 4, x.fault());
        CHECK.due("the tape is empty then", 0, x.count(10));
        CHECK.noElement("a fault is no TRY", () -> x.tried(0, 0));
        int[][] wrong = {{-1, 400}, {936, 400}, {312, -1}, {312, 936}};
        for (int[] days : wrong) {
            CHECK.due("from " + days[0] + " to " + days[1], 9, x.attempt(0, days[0], days[1]));
        }
        CHECK.due("no fault", -1, x.fault());
        CHECK.noElement("no TRY yet", () -> x.tried(0, 0));
        CHECK.due("of nothing", 0, x.attempt(0, 312, 400));
        CHECK.due("no more", 0, x.tried(8, 0));
        CHECK.noElement("trade -1", () -> x.tried(-1, 0));
        CHECK.noElement("trade 9", () -> x.tried(9, 0));
        CHECK.noElement("what -1", () -> x.tried(0, -1));
        CHECK.noElement("what 3", () -> x.tried(0, 3));
    }

    private static void tried(String what, LabourExchange x, int trade, int... want) {
        for (int i = 0; i < 3; i++) {
            CHECK.due(what + ", trade " + trade + ", " + i, want[i], x.tried(trade, i));
        }
    }

    private static void more() {
        Land land = land(2, "set wait 2;set days 3;");
        LabourExchange x = land.x;
        x.person(1, 30, 0, 20, 5);
        x.event(0, 2, 0, 312);
        x.event(2, 2, 0, 312);
        x.days(9);
        CHECK.due("one DAY less to wait", 0, land.attempt("set wait 1;"));
        tried("the third has no STAMPS", x, 0, 0, 0, 1);
        tried("and ends one DAY sooner", x, 1, 0, 0, 2);
        tried("of all", x, 8, 0, 0, 3);
        tried("another trade", x, 5, 0, 0, 0);
        CHECK.due("more pay, from 316 on", 0, land.attempt("pay 25 - 5 * trade;set extra 2;"));
        tried("each as EARNED and EXTENDED", x, 0, 3 * 15 + 2 * 25, 2, -2);
        tried("two of them", x, 1, 3 * 10 + 4 * 20, 4, -4);
        tried("of all", x, 8, 95 + 110, 6, -6);
        CHECK.due("less", 0, land.attempt("insure 1;"));
        tried("no CLAIM at all", x, 0, -30, -3, -5);
        tried("as it was", x, 1, 0, 0, 0);
        CHECK.due("a fault", 1, land.attempt("?"));
        tried("the latest TRY stays", x, 8, -30, -3, -5);
        Land.feed(x, Land.bytes("insure 1;"));
        CHECK.due("it may never be", 0, x.attempt(9, 400, 312));
        tried("nothing more", x, 8, 0, 0, 0);
    }

    private static void leavesNoTrace() {
        Land land = land(1, "set wait 2;");
        LabourExchange x = land.x;
        x.days(20);
        x.look(322);
        int pay = x.paid(0, 2);
        land.attempt("pay 100;set wait 9;");
        CHECK.due("PAY as it was", pay, x.paid(0, 2));
        CHECK.due("law as it was", 2, x.law(0, 320));
        CHECK.due("texts", 1, x.count(4));
        x.look(-1);
        CHECK.due("a day as it was", 10, x.day(0, 320, 1));
        CHECK.due("an event does what it did", 1, x.told(1, 6));
        x.look(312);
        x.days(5);
        land.attempt("pay 11;");
        tried("to TODAY", x, 8, 24, 0, 0);
    }

    private static void behindAllOthers() {
        Land land = land(1, "set wait 0;");
        LabourExchange x = land.x;
        land.text("pay 20;", 312, 900);
        land.text("pay 30;", 313, 900);
        x.days(1);
        Land.feed(x, Land.bytes("pay 40;"));
        x.attempt(7, 312, 900);
        tried("LATER than the like one alone", x, 8, 20, 0, 0);
        Land.feed(x, Land.bytes("pay 40;"));
        x.attempt(7, 313, 900);
        tried("behind the other", x, 8, 10, 0, 0);
    }

    private static void needyDays() {
        Land land = land(1, "set wait 0;set days 2;");
        land.x.days(5);
        land.attempt("needy 4 unless out = 5;");
        tried("NEEDY DAYS are paid", land.x, 8, 12, 3, -3);
    }

    private static void sixteenTexts() {
        Land land = land(1, "set wait 0;");
        LabourExchange x = land.x;
        for (int i = 1; i < 16; i++) {
            x.text(0, 0, 935);
        }
        CHECK.due("a TRY for all that", 0, land.attempt("pay 12;"));
        tried("a seventeenth", x, 8, 2, 0, 0);
        CHECK.due("texts", 16, x.count(4));
    }

    /** Promise 36. */
    private static void count() {
        Land land = land(2, "");
        LabourExchange x = land.x;
        x.days(3);
        x.office(9, 9);
        x.person(0, 30, 0, 20, 5);
        land.text("bar 1;");
        x.vacancy(0, 0, 5, 5);
        x.vacancy(0, 0, 5, 5);
        x.vacancy(0, 0, 5, 5);
        x.offer(0, 0);
        x.offer(0, 1);
        x.answer(0, true);
        for (int list = 0; list < 3; list++) {
            x.judge(list, 1);
        }
        x.appeal(0);
        x.feed(1, 2, 3, 4, 5);
        int[] want = {315, 2, 3, 5, 2, 3, 2, 2, 1, 3, 20};
        for (int what = 0; what < want.length; what++) {
            CHECK.due("count " + what, want[what], x.count(what));
        }
        CHECK.noElement("count -1", () -> x.count(-1));
        CHECK.noElement("count 11", () -> x.count(11));
    }
}
