/** Promises 21 to 25: vacancies, offers and answers. */
public final class MarketTest {
    private static final Check CHECK = new Check();

    public static void main(String[] args) {
        vacancies();
        known();
        offers();
        suits();
        suitsOfToday();
        answers();
        refusals();
        limits();
        CHECK.end();
    }

    /** Three offices, 60 and 198 miles apart from the first; people 0 and 1 of trades 0 and 1 with open claims. */
    private static Land land(String text) {
        Land land = Land.of(2);
        land.x.office(30, 30);
        land.x.office(99, 99);
        land.text("insure 0,1;set wait 0;" + text);
        for (int p = 0; p < 2; p++) {
            land.fullRow(p, 0, 6);
            land.x.event(0, p, 0, 312);
            land.x.event(2, p, 0, 312);
        }
        return land;
    }

    /** Promise 21. */
    private static void vacancies() {
        LabourExchange x = land("").x;
        int[][] wrong = {{-1, 0, 5, 5}, {3, 0, 5, 5}, {0, -1, 5, 5}, {0, 8, 5, 5}, {0, 0, 0, 5}, {0, 0, 1000, 5},
            {0, 0, 5, -1}, {0, 0, 5, 1000}};
        for (int i = 0; i < wrong.length; i++) {
            CHECK.due("wrong vacancy " + i, -1, x.vacancy(wrong[i][0], wrong[i][1], wrong[i][2], wrong[i][3]));
        }
        CHECK.due("least", 0, x.vacancy(0, 0, 1, 0));
        CHECK.due("most", 1, x.vacancy(2, 7, 999, 999));
        for (int i = 2; i < 24; i++) {
            CHECK.due("vacancy " + i, i, x.vacancy(0, 0, 5, 5));
        }
        CHECK.due("25th", -1, x.vacancy(0, 0, 5, 5));
        CHECK.due("vacancies", 24, x.count(5));
        CHECK.due("open", 24, x.count(6));
    }

    /** Promise 22. */
    private static void known() {
        LabourExchange x = land("").x;
        x.office(25, 25);
        x.office(0, 1);
        x.office(50, 1);
        x.office(99, 1);
        x.days(3);
        x.vacancy(0, 0, 5, 5);
        x.vacancy(2, 0, 5, 5);
        CHECK.due("at its own office", 315, x.known(0, 0));
        CHECK.due("60 miles", 317, x.known(0, 1));
        CHECK.due("198 miles", 319, x.known(0, 2));
        CHECK.due("50 miles", 316, x.known(0, 3));
        CHECK.due("138 miles", 318, x.known(1, 1));
        CHECK.due("1 mile", 316, x.known(0, 4));
        CHECK.due("51 miles", 317, x.known(0, 5));
        CHECK.due("100 miles", 317, x.known(0, 6));
        CHECK.noElement("vacancy 2", () -> x.known(2, 0));
        CHECK.noElement("vacancy -1", () -> x.known(-1, 0));
        CHECK.noElement("office 7", () -> x.known(0, 7));
        CHECK.noElement("office -1", () -> x.known(0, -1));
    }

    /** Promises 23 and 24. */
    private static void offers() {
        LabourExchange x = land("").x;
        x.person(0, 30, 0, 20, 5);
        x.vacancy(1, 0, 5, 5);
        x.vacancy(0, 1, 6, 5);
        CHECK.noElement("nobody", () -> x.offer(3, 0));
        CHECK.noElement("no vacancy", () -> x.offer(0, 2));
        CHECK.noElement("vacancy -1", () -> x.offer(0, -1));
        CHECK.noElement("no offer", () -> x.offerOf(0, 0));
        CHECK.due("not KNOWN there", -1, x.offer(0, 0));
        CHECK.due("no CLAIM", -1, x.offer(2, 1));
        CHECK.due("first offer", 0, x.offer(1, 1));
        x.days(1);
        CHECK.due("nor on the next day", -1, x.offer(0, 0));
        x.days(1);
        CHECK.due("KNOWN there", 1, x.offer(0, 0));
        x.event(3, 1, 0, 314);
        CHECK.due("the CLAIM is closed", -1, x.offer(1, 1));
        int[][] want = {{1, 1, 1, -1, 0}, {0, 0, 1, -1, 0}};
        for (int o = 0; o < 2; o++) {
            for (int what = 0; what < 5; what++) {
                CHECK.due("offer " + o + ", " + what, want[o][what], x.offerOf(o, what));
            }
        }
        CHECK.noElement("what 5", () -> x.offerOf(0, 5));
        CHECK.noElement("what -1", () -> x.offerOf(0, -1));
        CHECK.noElement("offer 2", () -> x.offerOf(2, 0));
        CHECK.due("offers", 2, x.count(7));
    }

    private static void suits() {
        Land land = land("suit wage < 10;suit same or wage = 9;suit miles < 60 unless age < 18;suit paid < 3;");
        LabourExchange x = land.x;
        x.vacancy(0, 0, 10, 5);
        x.vacancy(0, 1, 5, 5);
        x.vacancy(1, 0, 5, 5);
        x.vacancy(0, 0, 9, 5);
        x.days(1);
        x.offer(0, 3);
        CHECK.due("two DAYS paid: SUITABLE", 1, x.offerOf(0, 2));
        x.days(1);
        int[] failed = {0, 1, 2, 3};
        for (int v = 0; v < 4; v++) {
            int o = x.offer(0, v);
            CHECK.due("vacancy " + v + " isn't SUITABLE", 0, x.offerOf(o, 2));
            CHECK.due("what fails for " + v, failed[v], x.offerOf(o, 3));
        }
        int o = x.offer(1, 1);
        CHECK.due("for another it is the fourth", 3, x.offerOf(o, 3));
        CHECK.due("SUITABLE is kept", 1, x.offerOf(0, 2));
    }

    private static void suitsOfToday() {
        Land land = land("suit 1;suit 1;suit 0;");
        LabourExchange x = land.x;
        x.vacancy(0, 0, 10, 5);
        x.offer(0, 0);
        CHECK.due("the third", 2, x.offerOf(0, 3));
        land.text("suit 1;set wait 1;", 313, 900);
        land.text("set wait 2;", 314, 900);
        x.offer(0, 0);
        CHECK.due("not yet in force", 2, x.offerOf(1, 3));
        x.days(3);
        x.look(312);
        x.offer(0, 0);
        CHECK.due("the LATEST that has some alone, as known TODAY", -1, x.offerOf(2, 3));
        CHECK.due("what was kept stays", 2, x.offerOf(0, 3));
    }

    /** Promise 25. */
    private static void answers() {
        LabourExchange x = land("").x;
        CHECK.noElement("no offer", () -> x.answer(0, true));
        x.vacancy(0, 0, 44, 5);
        x.offer(0, 0);
        x.offer(1, 0);
        CHECK.noElement("offer -1", () -> x.answer(-1, true));
        CHECK.due("taken: the EVENT", 4, x.answer(0, true));
        CHECK.due("became of it", 1, x.offerOf(0, 4));
        int[] event = {1, 0, 44, 312, 312, -1, 1};
        for (int what = 0; what < event.length; what++) {
            CHECK.due("HIRED " + what, event[what], x.told(4, what));
        }
        CHECK.due("IN WORK", 7, x.day(0, 312, 0));
        CHECK.due("usual", 44, x.value(0, 2));
        CHECK.due("open no more", 0, x.count(6));
        CHECK.due("one VACANCY all the same", 1, x.count(5));
        CHECK.due("something became of it", -1, x.answer(0, false));
        CHECK.due("filled: can't be taken", -1, x.answer(1, true));
        CHECK.due("nothing became of that", 0, x.offerOf(1, 4));
        CHECK.due("nor be offered", -1, x.offer(1, 0));
        CHECK.due("but refused", 5, x.answer(1, false));
        CHECK.due("refused", 2, x.offerOf(1, 4));
        x.back(4);
        CHECK.due("filled even if HIRED is TAKEN BACK", 0, x.count(6));
    }

    private static void refusals() {
        Land land = land("suit same;bar 2 + miles;");
        LabourExchange x = land.x;
        x.days(10);
        x.vacancy(0, 0, 44, 5);
        x.offer(0, 0);
        x.offer(1, 0);
        CHECK.due("one refuses", 4, x.answer(0, false));
        int[] event = {7, 0, 0, 322, 322, -1, 1};
        for (int what = 0; what < event.length; what++) {
            CHECK.due("REFUSES " + what, event[what], x.told(4, what));
        }
        x.answer(1, false);
        CHECK.due("not SUITABLE: does nothing", 0, x.told(5, 6));
        CHECK.due("barred", 1, x.day(0, 322, 0));
        CHECK.due("not barred", 3, x.day(1, 322, 0));
        x.offer(0, 0);
        x.event(3, 0, 0, 322);
        CHECK.due("refused behind the CLAIM's end", 7, x.answer(2, false));
        CHECK.due("does nothing", 0, x.told(7, 6));
        x.days(1);
        x.event(4, 0, 0, 323);
        x.event(2, 0, 0, 323);
        x.days(1);
        CHECK.due("barred on the second day", 1, x.day(0, 323, 0));
        CHECK.due("no more", 3, x.day(0, 324, 0));
    }

    private static void limits() {
        LabourExchange x = land("").x;
        x.vacancy(0, 0, 44, 5);
        for (int i = 0; i < 60; i++) {
            CHECK.due("offer " + i, i, x.offer(i % 2, 0));
        }
        CHECK.due("61st", -1, x.offer(0, 0));
        while (x.count(3) < 160) {
            x.event(5, 0, 1, 312);
        }
        CHECK.due("no more EVENTS to refuse", -1, x.answer(0, false));
        CHECK.due("nor to take", -1, x.answer(0, true));
        CHECK.due("nothing became of it", 0, x.offerOf(0, 4));
        CHECK.due("still open", 1, x.count(6));
    }
}
