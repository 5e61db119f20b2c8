/** Promises 30 to 33: judges, cases, and what is cleared. */
public final class CourtTest {
    private static final Check CHECK = new Check();

    public static void main(String[] args) {
        judges();
        appeals();
        rounds();
        closing();
        cleared();
        late();
        limits();
        CHECK.end();
    }

    /** Promise 30. */
    private static void judges() {
        LabourExchange x = new LabourExchange();
        CHECK.due("list -1", -1, x.judge(-1, 5));
        CHECK.due("list 3", -1, x.judge(3, 5));
        CHECK.due("family -1", -1, x.judge(0, -1));
        CHECK.due("family 100", -1, x.judge(0, 100));
        for (int i = 0; i < 18; i++) {
            CHECK.due("judge " + i, i, x.judge(i % 3, i == 0 ? 0 : 99));
        }
        CHECK.due("19th", -1, x.judge(0, 5));
        CHECK.due("judges", 18, x.count(9));
    }

    /** Person 0 is of family 5, person 1 of family 6; both left on 312 and were dismissed. */
    private static Land land(String text) {
        Land land = Land.of(2);
        land.text("insure 0,1;set wait 0;" + text);
        for (int p = 0; p < 2; p++) {
            land.fullRow(p, 0, 6);
            land.x.event(0, p, 2, 312);
            land.x.event(2, p, 0, 312);
        }
        return land;
    }

    /** Promises 31 and 33. */
    private static void appeals() {
        LabourExchange x = land("").x;
        CHECK.noElement("event 4", () -> x.appeal(4));
        CHECK.noElement("event -1", () -> x.appeal(-1));
        CHECK.noElement("no case", () -> x.caseOf(0, 0));
        CHECK.due("no JUDGES", -1, x.appeal(0));
        x.judge(0, 1);
        x.judge(1, 1);
        CHECK.due("a list without any", -1, x.appeal(0));
        x.judge(2, 5);
        CHECK.due("kin alone", -1, x.appeal(0));
        CHECK.due("no cases", 0, x.count(8));
        CHECK.due("another's", 0, x.appeal(2));
        CHECK.due("it is in a CASE", -1, x.appeal(2));
        CHECK.due("SIGNS", -1, x.appeal(1));
        x.days(2);
        x.judge(2, 9);
        CHECK.due("not kin", 1, x.appeal(0));
        int[][] want = {{2, 312, 0, 1, 2, -1, 0, 0}, {0, 314, 0, 1, 3, -1, 0, 0}};
        for (int c = 0; c < 2; c++) {
            for (int what = 0; what < 8; what++) {
                CHECK.due("case " + c + ", " + what, want[c][what], x.caseOf(c, what));
            }
        }
        CHECK.noElement("what 8", () -> x.caseOf(0, 8));
        CHECK.noElement("what -1", () -> x.caseOf(0, -1));
        CHECK.noElement("case 2", () -> x.caseOf(2, 0));
        CHECK.due("cases", 2, x.count(8));
        int again = x.event(0, 1, 1, 314);
        x.back(again);
        CHECK.due("TAKEN BACK: isn't known", -1, x.appeal(again));
        int nothing = x.event(0, 1, 1, 314);
        CHECK.due("known, though it does nothing", 2, x.appeal(nothing));
    }

    private static int bench(LabourExchange x, int list) {
        int e = x.event(0, 0, 1, 312);
        return x.caseOf(x.appeal(e), 2 + list);
    }

    private static void rounds() {
        LabourExchange x = land("").x;
        x.judge(0, 5);
        x.judge(0, 1);
        x.judge(1, 1);
        x.judge(0, 2);
        x.judge(2, 5);
        x.judge(0, 5);
        int e = x.event(0, 0, 1, 312);
        CHECK.due("no man who isn't kin", -1, x.appeal(e));
        x.judge(2, 1);
        CHECK.due("the first not kin: a court that failed took none", 1, bench(x, 0));
        CHECK.due("behind him", 3, bench(x, 0));
        CHECK.due("round", 1, bench(x, 0));
        CHECK.due("one alone again and again", 2, bench(x, 1));
        CHECK.due("the man", 6, bench(x, 2));
        x.judge(0, 8);
        CHECK.due("1 was last", 3, bench(x, 0));
        CHECK.due("3 was last: the new one", 7, bench(x, 0));
        CHECK.due("and round", 1, bench(x, 0));
        int other = x.event(0, 1, 1, 312);
        int number = x.appeal(other);
        CHECK.due("for another family the next is 3", 3, x.caseOf(number, 2));
        int third = x.event(0, 1, 1, 312);
        CHECK.due("then his kin's turn", 5, x.caseOf(x.appeal(third), 2));
    }

    /** Promise 32. */
    private static void closing() {
        LabourExchange x = land("bar 9;").x;
        for (int list = 0; list < 3; list++) {
            x.judge(list, 1);
        }
        x.appeal(0);
        x.appeal(2);
        CHECK.noElement("case 2", () -> x.close(2, true));
        CHECK.noElement("case -1", () -> x.close(-1, true));
        x.days(2);
        CHECK.due("not allowed", true, x.close(0, false));
        CHECK.due("no EVENT", 4, x.count(3));
        CHECK.due("closed on", 314, x.caseOf(0, 5));
        CHECK.due("not allowed", 0, x.caseOf(0, 6));
        CHECK.due("it was", false, x.close(0, true));
        CHECK.due("allowed", true, x.close(1, true));
        CHECK.due("whether allowed", 1, x.caseOf(1, 6));
        int[] event = {8, 1, 2, 314, 314, -1, 1};
        for (int what = 0; what < event.length; what++) {
            CHECK.due("CLEARED " + what, event[what], x.told(4, what));
        }
        CHECK.due("still in a CASE", -1, x.appeal(0));
        CHECK.due("CLEARED comes to no court", -1, x.appeal(4));
        x.look(313);
        CHECK.due("CLEARED isn't known yet", 0, x.told(4, 6));
    }

    private static void cleared() {
        LabourExchange x = land("bar 9;").x;
        for (int list = 0; list < 3; list++) {
            x.judge(list, 1);
        }
        x.days(5);
        x.appeal(0);
        CHECK.due("barred", 1, x.day(0, 312, 0));
        x.close(0, true);
        CHECK.due("not barred, from its own DAY on", 3, x.day(0, 312, 0));
        CHECK.due("another still is", 1, x.day(1, 312, 0));
        CHECK.due("OUT all the same", 5, x.value(0, 3));
        CHECK.due("reason all the same", 2, x.value(0, 8));
        x.look(316);
        CHECK.due("as known ahead", 1, x.day(0, 312, 0));
        x.look(-1);
        x.days(1);
        CHECK.due("paid for all", 60, x.paid(0, 0));
        x.back(4);
        CHECK.due("CLEARED is TAKEN BACK", 1, x.day(0, 312, 0));
        CHECK.due("not known", 0, x.told(4, 6));
        x.look(317);
        CHECK.due("it was known", 1, x.told(4, 6));
        CHECK.due("and cleared then", 3, x.day(0, 312, 0));
    }

    private static void late() {
        Land land = land("set court 3;");
        LabourExchange x = land.x;
        for (int list = 0; list < 3; list++) {
            x.judge(list, 1);
        }
        x.appeal(0);
        x.appeal(2);
        x.days(3);
        CHECK.due("within 3 DAYS", 0, x.caseOf(0, 7));
        x.close(0, false);
        x.days(1);
        CHECK.due("closed in time", 0, x.caseOf(0, 7));
        CHECK.due("not closed in time", 1, x.caseOf(1, 7));
        x.look(312);
        CHECK.due("as it is TODAY", 1, x.caseOf(1, 7));
        x.close(1, false);
        CHECK.due("closed too late", 1, x.caseOf(1, 7));
        land.text("set court 4;", 313, 900);
        CHECK.due("the law of the DAY it came", 1, x.caseOf(1, 7));
        land.text("set court 2;", 312, 313);
        CHECK.due("as known TODAY", 1, x.caseOf(0, 7));
        land.text("set court 4;", 312, 313);
        CHECK.due("no more late", 0, x.caseOf(1, 7));
    }

    private static void limits() {
        LabourExchange x = land("").x;
        for (int list = 0; list < 3; list++) {
            x.judge(list, 1);
        }
        for (int i = 0; i < 30; i++) {
            CHECK.due("case " + i, i, x.appeal(x.event(0, 0, 1, 312)));
        }
        CHECK.due("31st", -1, x.appeal(x.event(0, 0, 1, 312)));
        while (x.count(3) < 160) {
            x.event(5, 0, 1, 312);
        }
        CHECK.due("no EVENT left for CLEARED", false, x.close(0, true));
        CHECK.due("not closed", -1, x.caseOf(0, 5));
        CHECK.due("but it needs none", true, x.close(0, false));
    }
}
