/** Promises 19 and 20: weekly payments and the fund. */
public final class PayTest {
    private static final Check CHECK = new Check();

    public static void main(String[] args) {
        weeks();
        owed();
        knownOnTheLastDay();
        income();
        lasts();
        belowNothing();
        CHECK.end();
    }

    /** Promise 19. */
    private static void weeks() {
        LabourExchange x = Land.withClaim("set wait 2;").x;
        CHECK.noElement("paid to nobody", () -> x.paid(1, 0));
        CHECK.noElement("paid -1", () -> x.paid(0, -1));
        CHECK.noElement("paid 3", () -> x.paid(0, 3));
        x.days(5);
        CHECK.due("not on the WEEK's last DAY", 0, x.paid(0, 0));
        CHECK.due("PAY up to it", 40, x.paid(0, 2));
        x.days(1);
        CHECK.due("on the next", 40, x.paid(0, 0));
        CHECK.due("PAY up to THE DAY", 50, x.paid(0, 2));
        CHECK.due("nothing OWED", 0, x.paid(0, 1));
        x.look(314);
        CHECK.due("PAY up to 314", 10, x.paid(0, 2));
        CHECK.due("paid so far, whatever THE DAY is", 40, x.paid(0, 0));
        x.days(120);
        CHECK.due("twenty weeks more, all sixty EARNED DAYS", 600, x.paid(0, 0));
    }

    private static void owed() {
        LabourExchange x = Land.withClaim("set wait 0;").x;
        x.days(6);
        CHECK.due("paid", 60, x.paid(0, 0));
        x.event(1, 0, 20, 314);
        CHECK.due("PAY as known now", 20, x.paid(0, 2));
        CHECK.due("nothing OWED yet", 0, x.paid(0, 1));
        x.days(6);
        CHECK.due("OWED", 40, x.paid(0, 1));
        CHECK.due("nothing is paid", 60, x.paid(0, 0));
        CHECK.due("the FUND paid nothing", 0, x.fund(2));
        x.event(0, 0, 0, 321);
        x.event(2, 0, 0, 321);
        x.days(6);
        CHECK.due("20 and three DAYS and six, less 60", 50, x.fund(2));
        CHECK.due("paid so far", 110, x.paid(0, 0));
        CHECK.due("OWED no more", 0, x.paid(0, 1));
    }

    private static void knownOnTheLastDay() {
        Land land = Land.withClaim("set wait 0;");
        LabourExchange x = land.x;
        x.days(6);
        land.text("pay 25;", 312, 900);
        CHECK.due("put right not yet", 60, x.paid(0, 0));
        x.days(6);
        CHECK.due("put right at the end of the WEEK", 300, x.paid(0, 0));
        CHECK.due("by one payment", 240, x.fund(2));
        x.look(317);
        CHECK.due("as known on 317", 60, x.paid(0, 2));
    }

    /** Promise 20. */
    private static void income() {
        Land land = Land.of(4);
        LabourExchange x = land.x;
        CHECK.noElement("fund -1", () -> x.fund(-1));
        CHECK.noElement("fund 4", () -> x.fund(4));
        CHECK.due("LASTS without a WEEK", -1, x.fund(3));
        land.text("insure 0,1,3;", 300, 900);
        land.text("insure 2;", 316, 900);
        land.text("set stamp 5;", 317, 318);
        x.days(5);
        x.event(0, 1, 0, 313);
        x.event(3, 3, 0, 315);
        x.days(1);
        CHECK.due("4 of 0, 1 of 1, 2 of 2, 3 of 3", 5 * (4 + 1 + 2 + 3), x.fund(1));
        CHECK.due("has", 10050, x.fund(0));
        CHECK.due("it doesn't go down", -1, x.fund(3));
        x.days(6);
        CHECK.due("2 is the latest's trade alone", 12, x.fund(1));
        x.event(6, 2, 4, 324);
        x.event(2, 2, 0, 324);
        x.event(5, 2, 1, 324);
        x.days(6);
        CHECK.due("SHORT WORKED alone", 8, x.fund(1));
    }

    private static void lasts() {
        LabourExchange x = Land.withClaim("set wait 0;set stamp 0;set per 1;set days 999;pay 7 * (out < 18) + 5;").x;
        x.days(6);
        CHECK.due("a WEEK", 10000 - 72, x.fund(0));
        CHECK.due("9928 by 72, and one", 9928 / 72 + 1, x.fund(3));
        x.days(18);
        CHECK.due("four WEEKS", 10000 - 3 * 72 - 30, x.fund(0));
        CHECK.due("the mean of 72, 72, 72, 30 is 61.5", 9754 / 62 + 1, x.fund(3));
        x.days(6);
        CHECK.due("the latest four: 72, 72, 30, 30 is 51", 9724 / 51 + 1, x.fund(3));
        Land penny = Land.withClaim("set wait 0;set stamp 0;set days 1;pay 10000;needy 1 unless 0 < means;");
        penny.x.event(5, 0, 7, 312);
        penny.x.days(6);
        CHECK.due("one penny left", 1, penny.x.fund(0));
        CHECK.due("9999 less each WEEK", 1, penny.x.fund(3));
        penny.x.days(1);
        penny.x.event(5, 0, 0, 319);
        penny.x.days(1);
        penny.x.event(5, 0, 7, 320);
        penny.x.days(4);
        CHECK.due("a penny is paid", 10000, penny.x.paid(0, 0));
        CHECK.due("none is left", 0, penny.x.fund(0));
        CHECK.due("0 isn't below 0, but a WEEK more is", 1, penny.x.fund(3));
        Land slow = Land.withClaim("set wait 0;set stamp 0;pay 1 * (out = 5);");
        slow.x.days(6);
        CHECK.due("a penny a WEEK", 10000, slow.x.fund(3));
        slow.x.days(18);
        CHECK.due("a quarter of a penny is cut to one", 10000, slow.x.fund(3));
        slow.x.days(6);
        CHECK.due("nothing at all", -1, slow.x.fund(3));
        Land even = Land.withClaim("set wait 0;set stamp 0;pay 1000;");
        even.x.days(6);
        CHECK.due("4000 left by 6000", 1, even.x.fund(3));
        Land just = Land.withClaim("set wait 0;set stamp 0;pay 833 + 2 * (out = 0);");
        just.x.days(6);
        CHECK.due("5000 left", 5000, just.x.fund(0));
        CHECK.due("5000 by 5000: 0 isn't below 0", 2, just.x.fund(3));
    }

    private static void belowNothing() {
        LabourExchange x = Land.withClaim("set wait 0;pay 9999;").x;
        x.days(6);
        CHECK.due("below 0", 10000 - 59994, x.fund(0));
        CHECK.due("LASTS 0", 0, x.fund(3));
        CHECK.due("paid all the same", 59994, x.paid(0, 0));
        x.event(1, 0, 5, 318);
        x.days(12);
        CHECK.due("gets more", 12, x.fund(1));
        CHECK.due("LASTS 0 still", 0, x.fund(3));
    }
}
