/** Edges of promises 30 to 36 and of the Terms ==== 7: JUDGES, CASES, LATE, TRY, counts. */
public final class EdgeCourtTest {
    private static final Check CHECK = new Check();

    public static void main(String[] args) {
        theLastJudge();
        numbersOfAJudge();
        fromTheFirst();
        inARound();
        listsByThemselves();
        withoutOneThereIsNoCourt();
        kinAlone();
        kinsTurnComesAgain();
        theLastCase();
        eventsOfACase();
        knownToday();
        whatBecameOfACase();
        closedOnce();
        fullEvents();
        lateByOneDay();
        lateByTheLawOfItsDay();
        lateWhenClosed();
        clearedMakesNoBar();
        clearedRefusal();
        triesOfNothing();
        triesFromAndTo();
        triesBehindAllOthers();
        triesByTrades();
        triesEndedDays();
        triesTwentyPeople();
        triesLeaveNoTrace();
        counts();
        CHECK.end();
    }

    /** Person p of family 5 + p, who left on 312 with a CLAIM: EVENTS 2 p and 2 p + 1. */
    private static Land land(int people, String text) {
        Land land = Land.of(people);
        land.text("insure 0,1,2,3,4,5,6,7;set wait 0;" + text);
        for (int p = 0; p < people; p++) {
            land.fullRow(p, 0, 6);
            land.x.event(0, p, 2, 312);
            land.x.event(2, p, 0, 312);
        }
        return land;
    }

    private static void judges(LabourExchange x, int... families) {
        for (int family : families) {
            for (int list = 0; list < 3; list++) {
                x.judge(list, family);
            }
        }
    }

    /** "JUDGES, from 0 on, at most 18"; "NONE: there are 18". */
    private static void theLastJudge() {
        LabourExchange x = land(1, "").x;
        for (int i = 0; i < 17; i++) {
            CHECK.due("judge " + i, i, x.judge(i % 2, 99));
        }
        CHECK.due("the 18th", 17, x.judge(2, 0));
        CHECK.due("a 19th", -1, x.judge(2, 0));
        CHECK.due("there are 18", 18, x.count(9));
        CHECK.due("a court", 0, x.appeal(0));
        CHECK.due("with the 18th", 17, x.caseOf(0, 4));
    }

    /** "a list (0 chairs, 1 masters, 2 men), FAMILY" (0 to 99). */
    private static void numbersOfAJudge() {
        LabourExchange x = new LabourExchange();
        int[][] bad = {{-1, 5}, {3, 5}, {0, -1}, {0, 100}};
        int[][] good = {{0, 5}, {1, 5}, {2, 5}, {0, 0}, {0, 99}};
        for (int[] j : bad) {
            CHECK.due("list " + j[0] + ", family " + j[1], -1, x.judge(j[0], j[1]));
        }
        for (int i = 0; i < good.length; i++) {
            CHECK.due("list " + good[i][0] + ", family " + good[i][1], i, x.judge(good[i][0], good[i][1]));
        }
        CHECK.due("five", 5, x.count(9));
    }

    private static void bench(String what, LabourExchange x, int person, int... want) {
        int number = x.appeal(x.event(0, person, 1, 312));
        for (int list = 0; list < 3; list++) {
            CHECK.due(what + ", list " + list, want[list], x.caseOf(number, 2 + list));
        }
    }

    /** "the next JUDGE behind the one taken last (in a round, from the first)". */
    private static void fromTheFirst() {
        LabourExchange x = land(1, "").x;
        judges(x, 90, 91, 92);
        bench("the first of each", x, 0, 0, 1, 2);
        bench("the second of each", x, 0, 3, 4, 5);
        bench("the third of each", x, 0, 6, 7, 8);
        bench("the first again", x, 0, 0, 1, 2);
    }

    private static void inARound() {
        LabourExchange x = land(1, "").x;
        judges(x, 90);
        bench("one alone", x, 0, 0, 1, 2);
        bench("again", x, 0, 0, 1, 2);
        judges(x, 91);
        bench("a new one is next", x, 0, 3, 4, 5);
        judges(x, 92);
        bench("and another", x, 0, 6, 7, 8);
        bench("then the first", x, 0, 0, 1, 2);
        bench("the second", x, 0, 3, 4, 5);
    }

    /** "for each list": a list of one and a list of three go round each by itself. */
    private static void listsByThemselves() {
        LabourExchange x = land(1, "").x;
        int[][] lists = {{1, 90}, {0, 90}, {2, 90}, {0, 91}, {1, 91}, {0, 92}};
        for (int[] j : lists) {
            x.judge(j[0], j[1]);
        }
        bench("first", x, 0, 1, 0, 2);
        bench("second", x, 0, 3, 4, 2);
        bench("third", x, 0, 5, 0, 2);
        bench("fourth", x, 0, 1, 4, 2);
    }

    /** "without one there is no court": and then none was taken. */
    private static void withoutOneThereIsNoCourt() {
        for (int missing = 0; missing < 3; missing++) {
            LabourExchange x = land(1, "").x;
            CHECK.due("no JUDGES at all", -1, x.appeal(0));
            for (int list = 0; list < 3; list++) {
                if (list != missing) {
                    x.judge(list, 90);
                    x.judge(list, 91);
                }
            }
            CHECK.due("no list " + missing, -1, x.appeal(0));
            CHECK.due("no CASE", 0, x.count(8));
            x.judge(missing, 5);
            CHECK.due("kin alone in list " + missing, -1, x.appeal(0));
            x.judge(missing, 6);
            CHECK.due("a court", 0, x.appeal(0));
            int[] want = {missing == 0 ? 5 : 0, missing == 1 ? 5 : missing == 0 ? 0 : 2, missing == 2 ? 5 : 2};
            for (int list = 0; list < 3; list++) {
                CHECK.due("none was taken ahead of this, list " + list, want[list], x.caseOf(0, 2 + list));
            }
        }
    }

    /** "who is not of the person's FAMILY": of 0 and of 99 too. */
    private static void kinAlone() {
        for (int family : new int[] {0, 1, 98, 99}) {
            LabourExchange x = Land.of(0).x;
            x.person(0, 30, 0, 20, family);
            x.event(0, 0, 0, 312);
            judges(x, family);
            CHECK.due("kin of family " + family, -1, x.appeal(0));
            judges(x, family == 0 ? 1 : family - 1);
            CHECK.due("others", 0, x.appeal(0));
            CHECK.due("the other chair", 3, x.caseOf(0, 2));
        }
    }

    private static void kinsTurnComesAgain() {
        LabourExchange x = land(2, "").x;
        judges(x, 90, 5, 91);
        bench("the first", x, 0, 0, 1, 2);
        bench("kin is left out", x, 0, 6, 7, 8);
        bench("for another, round from the first", x, 1, 0, 1, 2);
        bench("then who is no kin of his", x, 1, 3, 4, 5);
        bench("behind that", x, 0, 6, 7, 8);
    }

    /** "NONE: there are 30". */
    private static void theLastCase() {
        LabourExchange x = land(1, "").x;
        judges(x, 90);
        for (int i = 0; i < 29; i++) {
            CHECK.due("case " + i, i, x.appeal(x.event(0, 0, 1, 312)));
        }
        CHECK.due("the 30th", 29, x.appeal(0));
        CHECK.due("is of", 0, x.caseOf(29, 0));
        CHECK.due("a 31st", -1, x.appeal(x.event(0, 0, 1, 312)));
        CHECK.due("there are 30", 30, x.count(8));
        CHECK.noElement("a 31st isn't told of", () -> x.caseOf(30, 0));
        CHECK.due("the last is closed", true, x.close(29, true));
        CHECK.noElement("a 31st isn't", () -> x.close(30, true));
        CHECK.due("there are 30 all the same", -1, x.appeal(x.event(0, 0, 1, 312)));
    }

    /** "an EVENT of kind 0 or 7 that is known, and isn't in a CASE". */
    private static void eventsOfACase() {
        LabourExchange x = land(1, "").x;
        judges(x, 90);
        x.vacancy(0, 0, 5, 5);
        x.offer(0, 0);
        x.answer(0, false);
        int[] kinds = {1, 2, 3, 4, 5, 6};
        for (int kind : kinds) {
            int e = x.event(kind, 0, kind == 1 || kind == 6 ? 1 : 0, 312);
            CHECK.due("kind " + kind, -1, x.appeal(e));
        }
        CHECK.due("kind 7", 0, x.appeal(2));
        CHECK.due("kind 7 again", -1, x.appeal(2));
        CHECK.due("kind 0", 1, x.appeal(0));
        CHECK.due("kind 0 again", -1, x.appeal(0));
        x.close(1, false);
        CHECK.due("closed, it is in a CASE still", -1, x.appeal(0));
        x.close(0, true);
        CHECK.due("kind 8", -1, x.appeal(x.count(3) - 1));
        CHECK.noElement("no EVENT", () -> x.appeal(x.count(3)));
        CHECK.noElement("EVENT -1", () -> x.appeal(-1));
    }

    /** "isn't known TODAY": whatever THE DAY is. */
    private static void knownToday() {
        LabourExchange x = land(1, "").x;
        judges(x, 90);
        x.days(2);
        int later = x.event(0, 0, 1, 312);
        x.look(312);
        CHECK.due("told TODAY, though not known on THE DAY", 0, x.appeal(later));
        int back = x.event(0, 0, 1, 312);
        x.days(1);
        x.back(back);
        x.look(314);
        CHECK.due("TAKEN BACK, though known on THE DAY", -1, x.appeal(back));
        x.back(later);
        CHECK.due("the CASE stays", 1, x.count(8));
        CHECK.due("and may be allowed", true, x.close(0, true));
    }

    /** Promise 33: "0 the EVENT, 1 the DAY it came, 2 to 4 its JUDGES, 5 the DAY it was CLOSED (NONE), 6 .., 7 ..". */
    private static void whatBecameOfACase() {
        LabourExchange x = land(2, "").x;
        judges(x, 90);
        x.days(3);
        x.appeal(2);
        x.appeal(0);
        x.days(4);
        x.close(1, true);
        x.close(0, false);
        int[][] want = {{2, 315, 0, 1, 2, 319, 0, 0}, {0, 315, 0, 1, 2, 319, 1, 0}};
        for (int c = 0; c < 2; c++) {
            for (int what = 0; what < 8; what++) {
                CHECK.due("case " + c + ", " + what, want[c][what], x.caseOf(c, what));
            }
        }
        CHECK.noElement("what 8", () -> x.caseOf(0, 8));
        CHECK.noElement("what -1", () -> x.caseOf(0, -1));
        CHECK.noElement("case 2", () -> x.caseOf(2, 0));
        CHECK.noElement("case -1", () -> x.caseOf(-1, 0));
    }

    /** Promise 32: "A CASE is CLOSED: true. False: it was". */
    private static void closedOnce() {
        LabourExchange x = land(2, "").x;
        judges(x, 90);
        x.appeal(0);
        x.appeal(2);
        CHECK.due("not allowed", true, x.close(0, false));
        CHECK.due("nothing is told", 4, x.count(3));
        CHECK.due("allowed", true, x.close(1, true));
        CHECK.due("CLEARED is told", 5, x.count(3));
        x.days(1);
        for (int c = 0; c < 2; c++) {
            CHECK.due("it was, case " + c, false, x.close(c, true));
            CHECK.due("it was, to be refused, case " + c, false, x.close(c, false));
            CHECK.due("on the DAY as before", 312, x.caseOf(c, 5));
            CHECK.due("allowed as before", c, x.caseOf(c, 6));
        }
        CHECK.due("nothing more is told", 5, x.count(3));
        CHECK.noElement("case 2", () -> x.close(2, false));
    }

    /** "or it is allowed and there are 160 EVENTS": at 159 and at 160. */
    private static void fullEvents() {
        LabourExchange x = land(2, "").x;
        judges(x, 90);
        x.appeal(0);
        x.appeal(2);
        while (x.count(3) < 159) {
            x.event(5, 0, 1, 312);
        }
        CHECK.due("the last EVENT", true, x.close(0, true));
        CHECK.due("is CLEARED", 8, x.told(159, 0));
        CHECK.due("one more", false, x.close(1, true));
        CHECK.due("not CLOSED", -1, x.caseOf(1, 5));
        CHECK.due("not allowed", 0, x.caseOf(1, 6));
        CHECK.due("one that needs none", true, x.close(1, false));
        CHECK.due("CLOSED", 312, x.caseOf(1, 5));
    }

    /** "It is LATE, if it is not closed within 'court' DAYS": on the last of them, and on the next one. */
    private static void lateByOneDay() {
        for (int court : new int[] {0, 1, 2, 12}) {
            LabourExchange x = land(1, "set court " + court + ";").x;
            judges(x, 90);
            x.days(1);
            x.appeal(0);
            for (int day = 0; day <= court; day++) {
                CHECK.due("court " + court + ", " + day + " DAYS", 0, x.caseOf(0, 7));
                x.days(1);
            }
            CHECK.due("court " + court + ", one DAY more", 1, x.caseOf(0, 7));
            CHECK.due("still not closed", -1, x.caseOf(0, 5));
        }
        LabourExchange x = land(1, "set court 99999;").x;
        judges(x, 90);
        x.appeal(0);
        x.days(120);
        CHECK.due("never", 0, x.caseOf(0, 7));
    }

    /** "(as the law is on the DAY it came)". */
    private static void lateByTheLawOfItsDay() {
        int[][] spans = {{314, 315, 1}, {313, 314, 0}, {315, 316, 0}, {312, 314, 0}, {312, 320, 1}};
        for (int[] s : spans) {
            Land land = land(1, "");
            LabourExchange x = land.x;
            land.text("set court 2;", s[0], s[1]);
            judges(x, 90);
            x.days(2);
            x.appeal(0);
            x.days(3);
            CHECK.due("court 2 from " + s[0] + " to " + s[1], s[2], x.caseOf(0, 7));
        }
    }

    private static void lateWhenClosed() {
        for (int after = 1; after <= 4; after++) {
            LabourExchange x = land(1, "set court 2;").x;
            judges(x, 90);
            x.appeal(0);
            x.days(after);
            x.close(0, after % 2 == 0);
            CHECK.due("closed " + after + " DAYS behind", after > 2 ? 1 : 0, x.caseOf(0, 7));
            x.days(20);
            CHECK.due("later the same, " + after, after > 2 ? 1 : 0, x.caseOf(0, 7));
        }
    }

    /** "An EVENT for which CLEARED is known makes no bar (from its own DAY on, whenever CLEARED is ..)". */
    private static void clearedMakesNoBar() {
        LabourExchange x = land(2, "bar 50;").x;
        judges(x, 90);
        x.days(10);
        x.appeal(0);
        CHECK.due("barred", 1, x.day(0, 312, 0));
        x.close(0, true);
        for (int day = 312; day <= 322; day++) {
            CHECK.due("no bar on " + day, 3, x.day(0, day, 0));
            CHECK.due("another's bar on " + day, 1, x.day(1, day, 0));
        }
        x.days(2);
        x.appeal(2);
        x.close(1, false);
        CHECK.due("not allowed: barred", 1, x.day(1, 312, 0));
        int again = x.event(1, 0, 9, 324);
        x.event(0, 0, 2, 324);
        x.event(2, 0, 0, 324);
        CHECK.due("HIRED", 1, x.told(again, 6));
        CHECK.due("another LEAVES is not CLEARED", 1, x.day(0, 324, 0));
        x.back(4);
        CHECK.due("CLEARED is TAKEN BACK", 1, x.day(0, 312, 0));
    }

    private static void clearedRefusal() {
        LabourExchange x = land(1, "bar 4 * (reason = 4) + 2 * (reason = 2);").x;
        judges(x, 90);
        x.days(1);
        x.vacancy(0, 0, 5, 5);
        x.offer(0, 0);
        x.answer(0, false);
        x.days(6);
        int[] barred = {1, 1, 1, 1, 1, 3};
        int[] cleared = {1, 1, 3, 3, 3, 3};
        for (int i = 0; i < 6; i++) {
            CHECK.due("barred by both, day " + i, barred[i], x.day(0, 312 + i, 0));
        }
        x.appeal(2);
        x.close(0, true);
        for (int i = 0; i < 6; i++) {
            CHECK.due("by LEAVES alone, day " + i, cleared[i], x.day(0, 312 + i, 0));
        }
    }

    private static int attempt(LabourExchange x, String text, int from, int to) {
        Land.feed(x, Land.bytes(text));
        return x.attempt(text.length(), from, to);
    }

    private static void tried(String what, LabourExchange x, int trade, int... want) {
        for (int i = 0; i < 3; i++) {
            CHECK.due(what + ", trade " + trade + ", " + i, want[i], x.tried(trade, i));
        }
    }

    /** Promise 35: "none was, no such TRADE, what". */
    private static void triesOfNothing() {
        LabourExchange x = land(1, "").x;
        CHECK.noElement("none was", () -> x.tried(8, 0));
        CHECK.due("a FAULT", 1, attempt(x, "?", 312, 400));
        CHECK.due("DAYS are not as told", 9, x.attempt(0, 312, 936));
        CHECK.badArgument("not on the tape", () -> x.attempt(1, 312, 400));
        CHECK.noElement("none was still", () -> x.tried(8, 0));
        CHECK.due("nothing is one", 0, x.attempt(0, 312, 400));
        for (int trade = 0; trade <= 8; trade++) {
            tried("nothing", x, trade, 0, 0, 0);
        }
        CHECK.noElement("trade 9", () -> x.tried(9, 0));
        CHECK.noElement("trade -1", () -> x.tried(-1, 0));
        CHECK.noElement("what 3", () -> x.tried(0, 3));
        CHECK.noElement("what -1", () -> x.tried(0, -1));
        attempt(x, "pay 12;", 312, 400);
        tried("a DAY", x, 8, 2, 0, 0);
        CHECK.due("a FAULT behind it", 2, attempt(x, "insure 8;", 312, 400));
        tried("the latest that was", x, 8, 2, 0, 0);
        x.days(3);
        tried("as it was then", x, 8, 2, 0, 0);
    }

    /** Promise 34: "from a DAY to another one": 0 to 935 each, "9: DAYS are not as told". */
    private static void triesFromAndTo() {
        int[][] spans = {{0, 935, 6}, {0, 0, 0}, {935, 935, 0}, {935, 0, 0}, {312, 313, 1}, {314, 317, 3}, {317, 318, 1},
            {318, 935, 0}, {0, 312, 0}, {313, 312, 0}, {311, 313, 1}};
        for (int[] s : spans) {
            LabourExchange x = land(1, "").x;
            x.days(5);
            CHECK.due("from " + s[0] + " to " + s[1], 0, attempt(x, "pay 11;", s[0], s[1]));
            tried("from " + s[0] + " to " + s[1], x, 8, s[2], 0, 0);
        }
        int[][] bad = {{-1, 400}, {936, 400}, {312, -1}, {312, 936}};
        for (int[] b : bad) {
            LabourExchange x = land(1, "").x;
            CHECK.due("from " + b[0] + " to " + b[1], 9, attempt(x, "pay 11;", b[0], b[1]));
            CHECK.noElement("is no TRY", () -> x.tried(8, 0));
        }
    }

    /** "put behind all others": of like first DAYS the LATEST, but one with a later first DAY is LATER. */
    private static void triesBehindAllOthers() {
        int[][] firsts = {{311, 0}, {312, 5}, {313, 5}};
        for (int[] f : firsts) {
            Land land = land(1, "");
            LabourExchange x = land.x;
            land.text("pay 20;", 312, 935);
            x.days(1);
            CHECK.due("first DAY " + f[0], 0, attempt(x, "pay 25;", f[0], 935));
            tried("first DAY " + f[0], x, 8, f[0] == 311 ? 0 : f[0] == 312 ? 10 : 5, 0, 0);
        }
    }

    /** "by TRADES", "8: of all". */
    private static void triesByTrades() {
        LabourExchange x = land(9, "").x;
        attempt(x, "pay 10 + trade;", 312, 935);
        int sum = 0;
        for (int trade = 0; trade < 8; trade++) {
            int people = trade == 0 ? 2 : 1;
            tried("trade " + trade, x, trade, people * trade, 0, 0);
            sum += people * trade;
        }
        tried("of all", x, 8, sum, 0, 0);
        attempt(x, "pay 0;", 312, 935);
        tried("less", x, 0, -20, 0, 0);
        tried("less of all", x, 8, -90, 0, 0);
    }

    /** "how much more PAY, DAYS paid, DAYS ENDED there would be". */
    private static void triesEndedDays() {
        LabourExchange x = land(1, "set days 2;").x;
        x.days(5);
        attempt(x, "set days 5;", 312, 935);
        tried("three DAYS more are EARNED", x, 8, 30, 3, -3);
        attempt(x, "set days 1;", 312, 935);
        tried("one less", x, 8, -10, -1, 1);
        attempt(x, "set extra 1;", 312, 935);
        tried("one EXTENDED", x, 8, 10, 1, -1);
        attempt(x, "needy 3;", 315, 317);
        tried("two NEEDY", x, 8, 6, 2, -2);
        attempt(x, "bar 3;", 312, 935);
        tried("three BARRED, one ENDED", x, 8, 0, 0, -3);
        attempt(x, "insure 1;", 312, 935);
        tried("no CLAIM", x, 8, -20, -2, -4);
    }

    /** As many people as there may be. */
    private static void triesTwentyPeople() {
        Land land = Land.of(20);
        LabourExchange x = land.x;
        land.text("insure 0,1,2,3,4,5,6,7;set wait 0;set days 0;");
        for (int p = 0; p < 20; p++) {
            x.event(0, p, 0, 312);
            x.event(2, p, 0, 312);
        }
        attempt(x, "needy 1 + trade;", 312, 935);
        for (int trade = 0; trade < 8; trade++) {
            int people = trade < 4 ? 3 : 2;
            tried("twenty people", x, trade, people * (1 + trade), people, -people);
        }
    }

    private static void triesLeaveNoTrace() {
        Land land = land(2, "set days 3;needy 1;");
        LabourExchange x = land.x;
        x.days(6);
        x.look(314);
        attempt(x, "insure 7;pay 99;suit 0;bar 9;set days 1;set gap 0;", 0, 935);
        CHECK.due("law", 18, x.law(1, 312));
        CHECK.due("does", 1, x.told(1, 6));
        CHECK.due("a DAY", 10, x.day(0, 314, 1));
        CHECK.due("a CLAIM", 3, x.claim(0, 0, 1));
        CHECK.due("texts", 1, x.count(4));
        x.look(-1);
        CHECK.due("a DAY, as known TODAY", 1, x.day(0, 318, 1));
        x.vacancy(0, 0, 5, 5);
        CHECK.due("SUITABLE", 1, x.offerOf(x.offer(0, 0), 2));
        CHECK.due("the next TEXT's number", 1, x.text(0, 312, 400));
        x.days(6);
        CHECK.due("paid", 30 + 9, x.paid(0, 0));
    }

    /** Promise 36: each count by itself, at nothing and behind one of each. */
    private static void counts() {
        LabourExchange x = new LabourExchange();
        CHECK.due("TODAY at first", 312, x.count(0));
        for (int what = 1; what <= 10; what++) {
            CHECK.due("count at first " + what, 0, x.count(what));
        }
        x.office(0, 0);
        x.person(0, 30, 0, 20, 5);
        x.text(0, 0, 935);
        x.event(0, 0, 0, 312);
        x.vacancy(0, 0, 5, 5);
        x.judge(0, 1);
        x.feed(1, 1, 1, 1, 1);
        x.days(1);
        int[] want = {313, 1, 1, 1, 1, 1, 1, 0, 0, 1, 20};
        for (int what = 0; what <= 10; what++) {
            CHECK.due("count " + what, want[what], x.count(what));
        }
        x.office(100, 0);
        x.person(0, 13, 0, 20, 5);
        x.text(0, 0, 936);
        x.event(0, 0, 4, 312);
        x.vacancy(0, 0, 0, 5);
        x.judge(3, 1);
        x.offer(0, 0);
        x.appeal(0);
        want[10] = 0;
        for (int what = 0; what <= 10; what++) {
            CHECK.due("what was refused doesn't count " + what, want[what], x.count(what));
        }
        CHECK.noElement("count 11", () -> x.count(11));
        CHECK.noElement("count -1", () -> x.count(-1));
    }
}
