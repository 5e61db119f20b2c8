/** Edges of promises 10 to 12 and of the Terms ==== 2 and 4: EVENTS, when they are known, and which can't be. */
public final class EdgeEventTest {
    private static final Check CHECK = new Check();
    private static final int LEAVES = 0;
    private static final int HIRED = 1;
    private static final int SIGNS = 2;
    private static final int AWAY = 3;
    private static final int BACK = 4;
    private static final int MEANS = 5;
    private static final int SHORT = 6;

    public static void main(String[] args) {
        theLastEvent();
        kinds();
        numbers();
        daysOfAnEvent();
        whatWasTold();
        takenBackOnce();
        knownTill();
        takenBackOnItsOwnDay();
        leavesInWorkAlone();
        hiredOutAlone();
        awayAndBack();
        shortInWorkAlone();
        signs();
        signsAgain();
        refusesWithAClaimAlone();
        ofADayByNumber();
        daysAheadOfNumbers();
        worksAnew();
        clearedIsKnown();
        ofOthersNothing();
        CHECK.end();
    }

    /** "EVENTS, numbered from 0 on, at most 160"; "NONE: there are 160". */
    private static void theLastEvent() {
        LabourExchange x = Land.of(2).x;
        for (int i = 0; i < 159; i++) {
            CHECK.due("event " + i, i, x.event(MEANS, 1, i, 312));
        }
        CHECK.due("the 160th", 159, x.event(MEANS, 1, 777, 312));
        CHECK.due("counts", 777, x.value(1, 7));
        CHECK.due("a 161st", -1, x.event(MEANS, 1, 888, 312));
        CHECK.due("does not", 777, x.value(1, 7));
        CHECK.due("there are 160", 160, x.count(3));
        CHECK.due("the last is told of", 777, x.told(159, 2));
        CHECK.noElement("a 161st isn't", () -> x.told(160, 2));
        CHECK.due("the last is TAKEN BACK", true, x.back(159));
        CHECK.due("the one ahead counts", 158, x.value(1, 7));
        CHECK.due("there are 160 all the same", -1, x.event(MEANS, 1, 888, 312));
    }

    /** "An EVENT of kind 0 to 6"; "NoSuchElementException: also no such kind". */
    private static void kinds() {
        LabourExchange x = Land.of(1).x;
        int[] number = {0, 1, 0, 0, 0, 0, 1};
        for (int kind = 0; kind <= 6; kind++) {
            CHECK.due("kind " + kind, kind, x.event(kind, 0, number[kind], 312));
            CHECK.due("is told", kind, x.told(kind, 0));
        }
        CHECK.noElement("kind -1", () -> x.event(-1, 0, 0, 312));
        CHECK.noElement("kind 7", () -> x.event(7, 0, 0, 312));
        CHECK.noElement("kind 8", () -> x.event(8, 0, 0, 312));
        CHECK.noElement("no kind, with a number that isn't", () -> x.event(7, 0, -1, 999));
        CHECK.due("seven", 7, x.count(3));
    }

    /** "KINDS: 0 LEAVES (number: reason 0 .. 3 strike), 1 HIRED (WAGE), .. 5 MEANS (.. 0 to 9999), 6 SHORT (.. 1 to 5; 6)". */
    private static void numbers() {
        int[] least = {0, 1, 0, 0, 0, 0, 1};
        int[] most = {3, 999, 0, 0, 0, 9999, 6};
        for (int kind = 0; kind <= 6; kind++) {
            LabourExchange x = Land.of(1).x;
            CHECK.due("below, kind " + kind, -1, x.event(kind, 0, least[kind] - 1, 312));
            CHECK.due("above, kind " + kind, -1, x.event(kind, 0, most[kind] + 1, 312));
            CHECK.due("neither is told", 0, x.count(3));
            CHECK.due("least, kind " + kind, 0, x.event(kind, 0, least[kind], 312));
            CHECK.due("most, kind " + kind, 1, x.event(kind, 0, most[kind], 312));
            CHECK.due("the least is told", least[kind], x.told(0, 2));
            CHECK.due("the most is told", most[kind], x.told(1, 2));
        }
        LabourExchange x = Land.of(1).x;
        x.event(LEAVES, 0, 3, 312);
        x.event(HIRED, 0, 999, 312);
        x.event(MEANS, 0, 9999, 312);
        CHECK.due("reason", 3, x.value(0, 8));
        CHECK.due("usual", 999, x.value(0, 2));
        CHECK.due("means", 9999, x.value(0, 7));
    }

    /** "a DAY from which they are (312 to TODAY)". */
    private static void daysOfAnEvent() {
        LabourExchange x = Land.of(1).x;
        CHECK.due("311", -1, x.event(MEANS, 0, 1, 311));
        CHECK.due("312", 0, x.event(MEANS, 0, 1, 312));
        CHECK.due("313 on 312", -1, x.event(MEANS, 0, 1, 313));
        x.days(1);
        CHECK.due("313 on 313", 1, x.event(MEANS, 0, 1, 313));
        CHECK.due("314 on 313", -1, x.event(MEANS, 0, 1, 314));
        CHECK.due("312 on 313", 2, x.event(MEANS, 0, 1, 312));
        x.look(312);
        CHECK.due("TODAY, whatever THE DAY is", 3, x.event(MEANS, 0, 1, 313));
        for (int i = 0; i < 5; i++) {
            x.days(120);
        }
        x.days(22);
        CHECK.due("935 on 935", 4, x.event(LEAVES, 0, 1, 935));
        CHECK.due("936 on 935", -1, x.event(MEANS, 0, 1, 936));
        x.look(-1);
        CHECK.due("OUT on 935", 9, x.day(0, 935, 0));
        CHECK.due("IN WORK on 934", 7, x.day(0, 934, 0));
    }

    /** Promise 12: 0 to 5 of an EVENT, as told, whichever THE DAY is. */
    private static void whatWasTold() {
        LabourExchange x = Land.of(2).x;
        x.days(5);
        x.event(LEAVES, 1, 2, 314);
        x.days(3);
        x.back(0);
        x.days(1);
        int[] want = {0, 1, 2, 314, 317, 320};
        for (int day : new int[] {-1, 312, 316, 317, 319, 320, 321}) {
            x.look(day);
            for (int what = 0; what < 6; what++) {
                CHECK.due("told " + what + " on THE DAY " + day, want[what], x.told(0, what));
            }
            CHECK.due("does something, as known on " + day, day >= 317 && day < 320 ? 1 : 0, x.told(0, 6));
        }
    }

    /** Promise 11: "An EVENT is TAKEN BACK: true. False: it was." */
    private static void takenBackOnce() {
        LabourExchange x = Land.of(1).x;
        x.event(LEAVES, 0, 2, 312);
        x.event(MEANS, 0, 5, 312);
        CHECK.due("not TAKEN BACK", -1, x.told(0, 5));
        CHECK.due("now", true, x.back(0));
        CHECK.due("on this DAY", 312, x.told(0, 5));
        x.days(2);
        CHECK.due("it was", false, x.back(0));
        CHECK.due("on the DAY as before", 312, x.told(0, 5));
        CHECK.due("the other", true, x.back(1));
        CHECK.due("on its DAY", 314, x.told(1, 5));
    }

    /** "AS KNOWN on DAY k: EVENTS told on k or ahead, not TAKEN BACK on k or ahead". */
    private static void knownTill() {
        LabourExchange x = Land.of(1).x;
        x.days(3);
        x.event(LEAVES, 0, 2, 313);
        x.days(3);
        x.back(0);
        x.days(1);
        int[][] known = {{312, 7}, {313, 7}, {314, 7}, {315, 9}, {316, 9}, {317, 9}, {318, 7}, {319, 7}};
        for (int[] k : known) {
            x.look(k[0]);
            CHECK.due("as known on " + k[0], k[1], x.day(0, k[0], 0));
            CHECK.due("does, as known on " + k[0], k[1] == 9, x.told(0, 6) == 1);
        }
        x.look(317);
        CHECK.due("ahead of its DAY", 7, x.day(0, 312, 0));
        CHECK.due("from its DAY", 9, x.day(0, 313, 0));
    }

    /** "one may be TAKEN BACK (from that DAY on it is not known)": told and TAKEN BACK on one DAY, it never was. */
    private static void takenBackOnItsOwnDay() {
        LabourExchange x = Land.of(1).x;
        x.days(1);
        x.event(LEAVES, 0, 2, 313);
        x.back(0);
        x.days(1);
        for (int day = 312; day <= 314; day++) {
            x.look(day);
            CHECK.due("as known on " + day, 0, x.told(0, 6));
            CHECK.due("IN WORK as known on " + day, 7, x.day(0, day, 0));
        }
    }

    private static LabourExchange x;
    private static int person;

    private static void insured(int who) {
        Land land = Land.of(2);
        land.text("insure 1;set gap 99;");
        x = land.x;
        person = who;
    }

    private static void does(int want, int kind, int number) {
        int e = x.event(kind, person, number, x.count(0));
        CHECK.due("event " + e + " of kind " + kind, want, x.told(e, 6));
    }

    private static void is(int kind) {
        CHECK.due("behind event " + (x.count(3) - 1), kind, x.day(person, x.count(0), 0));
    }

    /** "LEAVES [not IN WORK]": AWAY or not, SHORT or not. */
    private static void leavesInWorkAlone() {
        insured(1);
        does(1, LEAVES, 3);
        does(0, LEAVES, 2);
        CHECK.due("reason of the one that could be", 3, x.value(1, 8));
        x.days(2);
        does(0, LEAVES, 1);
        CHECK.due("out since then", 2, x.value(1, 3));
        does(1, HIRED, 9);
        does(1, LEAVES, 0);
        CHECK.due("out anew", 0, x.value(1, 3));
        insured(1);
        does(1, AWAY, 0);
        does(1, LEAVES, 1);
        is(8);
        does(1, BACK, 0);
        is(9);
        insured(1);
        does(1, SHORT, 3);
        does(1, SIGNS, 0);
        is(6);
        does(1, LEAVES, 0);
        is(2);
        CHECK.due("an open CLAIM stays open", 1, x.claim(1, 0, 8));
        does(1, HIRED, 9);
        does(0, SHORT, 6);
        does(0, SIGNS, 0);
        is(7);
    }

    /** "HIRED [IN WORK; AWAY]: IN WORK, usual; the CLAIM closes". */
    private static void hiredOutAlone() {
        insured(1);
        does(0, HIRED, 9);
        CHECK.due("usual as before", 20, x.value(1, 2));
        does(1, LEAVES, 0);
        does(1, SIGNS, 0);
        does(1, HIRED, 9);
        CHECK.due("usual", 9, x.value(1, 2));
        CHECK.due("the CLAIM closes", 0, x.claim(1, 0, 8));
        is(7);
        does(0, HIRED, 8);
        CHECK.due("usual of the one that could be", 9, x.value(1, 2));
        does(1, LEAVES, 0);
        does(1, AWAY, 0);
        does(0, HIRED, 7);
        is(8);
        does(1, BACK, 0);
        does(1, HIRED, 7);
        CHECK.due("usual behind BACK", 7, x.value(1, 2));
    }

    /** "AWAY [AWAY]: the CLAIM closes; AWAY. BACK [not AWAY]". */
    private static void awayAndBack() {
        insured(1);
        does(0, BACK, 0);
        does(1, AWAY, 0);
        does(0, AWAY, 0);
        is(8);
        does(1, BACK, 0);
        does(0, BACK, 0);
        is(7);
        does(1, LEAVES, 0);
        does(1, SIGNS, 0);
        does(1, AWAY, 0);
        CHECK.due("the CLAIM closes", 0, x.claim(1, 0, 8));
        is(8);
        does(1, BACK, 0);
        is(9);
        CHECK.due("and stays so", 0, x.claim(1, 0, 8));
    }

    /** "SHORT [not IN WORK; 6 and not SHORT]: so many DAYS; 6: no more SHORT, and the CLAIM closes". */
    private static void shortInWorkAlone() {
        insured(1);
        does(0, SHORT, 6);
        does(1, SHORT, 5);
        does(1, SHORT, 5);
        does(1, SIGNS, 0);
        is(6);
        does(1, SHORT, 1);
        does(1, SHORT, 6);
        CHECK.due("the CLAIM closes", 0, x.claim(1, 0, 8));
        is(7);
        does(0, SHORT, 6);
        does(0, SIGNS, 0);
        does(1, AWAY, 0);
        does(1, SHORT, 2);
        is(8);
        does(1, BACK, 0);
        does(1, SIGNS, 0);
        is(6);
        does(1, LEAVES, 0);
        does(0, SHORT, 2);
        does(0, SHORT, 6);
        does(1, HIRED, 9);
        does(0, SHORT, 6);
    }

    /** "SIGNS [IN WORK and not SHORT; AWAY; a CLAIM is open; its TRADE isn't insured]": each alone. */
    private static void signs() {
        insured(1);
        does(0, SIGNS, 0);
        does(1, SHORT, 1);
        does(1, AWAY, 0);
        does(0, SIGNS, 0);
        does(1, BACK, 0);
        does(1, SIGNS, 0);
        does(0, SIGNS, 0);
        insured(1);
        does(1, LEAVES, 0);
        does(1, AWAY, 0);
        does(0, SIGNS, 0);
        does(1, BACK, 0);
        does(1, SIGNS, 0);
        insured(0);
        does(1, LEAVES, 0);
        does(0, SIGNS, 0);
        is(9);
        CHECK.noElement("no CLAIM", () -> x.claim(0, 0, 0));
        Land land = Land.of(2);
        land.text("insure 1;", 313, 315);
        x = land.x;
        person = 1;
        does(1, LEAVES, 0);
        does(0, SIGNS, 0);
        x.days(3);
        does(0, SIGNS, 0);
        int[][] days = {{312, 0}, {313, 1}, {314, 0}};
        for (int[] d : days) {
            int e = x.event(SIGNS, 1, 0, d[0]);
            CHECK.due("insured on the DAY itself, " + d[0], d[1], x.told(e, 6));
        }
        CHECK.due("the CLAIM stays open when no TRADE is insured", 1, x.claim(1, 0, 8));
    }

    /** What was told and TAKEN BACK leaves nothing behind when all is worked anew. */
    private static void signsAgain() {
        insured(1);
        does(1, SHORT, 2);
        x.back(0);
        does(0, SIGNS, 0);
        does(0, SHORT, 6);
        does(1, AWAY, 0);
        x.back(3);
        does(0, BACK, 0);
        does(1, LEAVES, 2);
        does(1, SIGNS, 0);
        x.back(5);
        CHECK.due("SIGNS can't be without LEAVES", 0, x.told(6, 6));
        is(7);
        does(1, MEANS, 50);
        x.back(7);
        CHECK.due("means", 0, x.value(1, 7));
        CHECK.due("reason", 0, x.value(1, 8));
        CHECK.due("out", 0, x.value(1, 3));
        CHECK.due("usual", 20, x.value(1, 2));
    }

    /** "REFUSES [no CLAIM is open; .. or was not SUITABLE]". */
    private static void refusesWithAClaimAlone() {
        Land land = Land.withClaim("set wait 0;bar 2 * (reason = 4);suit wage < 9;");
        x = land.x;
        x.vacancy(0, 0, 8, 5);
        x.vacancy(0, 0, 9, 5);
        CHECK.due("SUITABLE", 1, x.offerOf(x.offer(0, 0), 2));
        CHECK.due("not SUITABLE", 0, x.offerOf(x.offer(0, 1), 2));
        int bad = x.answer(1, false);
        CHECK.due("not SUITABLE: does nothing", 0, x.told(bad, 6));
        CHECK.due("no bar", 3, x.day(0, 312, 0));
        int good = x.answer(0, false);
        CHECK.due("SUITABLE: does something", 1, x.told(good, 6));
        CHECK.due("a bar", 1, x.day(0, 312, 0));
        x.offer(0, 0);
        x.days(3);
        x.event(AWAY, 0, 0, 315);
        int closed = x.answer(2, false);
        CHECK.due("no CLAIM is open: does nothing", 0, x.told(closed, 6));
        CHECK.due("it was refused all the same", 2, x.offerOf(2, 4));
        x.event(BACK, 0, 0, 315);
        x.event(SIGNS, 0, 0, 315);
        CHECK.due("no bar then", 3, x.day(0, 315, 0));
    }

    /** "first the EVENTS of that DAY by number". */
    private static void ofADayByNumber() {
        insured(1);
        x.days(3);
        int[] kinds = {BACK, AWAY, BACK, SIGNS, LEAVES, SIGNS, HIRED, LEAVES};
        int[] number = {0, 0, 0, 0, 1, 0, 9, 2};
        int[] want = {0, 1, 1, 0, 1, 1, 1, 1};
        for (int i = 0; i < kinds.length; i++) {
            x.event(kinds[i], 1, number[i], 313);
        }
        for (int i = 0; i < kinds.length; i++) {
            CHECK.due("of one DAY, event " + i, want[i], x.told(i, 6));
        }
        CHECK.due("the last LEAVES", 2, x.value(1, 8));
        CHECK.due("OUT", 9, x.day(1, 313, 0));
        CHECK.due("IN WORK ahead", 7, x.day(1, 312, 0));
    }

    /** "WORKED ANEW, DAY by DAY": DAYS come ahead of numbers. */
    private static void daysAheadOfNumbers() {
        insured(1);
        x.days(9);
        x.event(MEANS, 1, 3, 320);
        x.event(MEANS, 1, 2, 319);
        x.event(MEANS, 1, 1, 318);
        CHECK.due("that of the latest DAY", 3, x.value(1, 7));
        x.event(MEANS, 1, 4, 320);
        CHECK.due("of one DAY the greater number", 4, x.value(1, 7));
        x.back(3);
        x.back(0);
        CHECK.due("of those that are known", 2, x.value(1, 7));
    }

    /** An EVENT told later for an earlier DAY changes which of the others can be. */
    private static void worksAnew() {
        insured(1);
        x.days(10);
        int hired = x.event(HIRED, 1, 9, 320);
        CHECK.due("IN WORK", 0, x.told(hired, 6));
        int leaves = x.event(LEAVES, 1, 1, 316);
        CHECK.due("now he was OUT", 1, x.told(hired, 6));
        x.days(1);
        int earlier = x.event(LEAVES, 1, 3, 315);
        CHECK.due("this one can't be any more", 0, x.told(leaves, 6));
        CHECK.due("this one can", 1, x.told(earlier, 6));
        x.look(322);
        CHECK.due("as known on 322", 1, x.told(leaves, 6));
        CHECK.due("then not known", 0, x.told(earlier, 6));
        x.look(323);
        CHECK.due("OUT", 9, x.day(1, 315, 0));
        x.look(322);
        CHECK.due("IN WORK still", 7, x.day(1, 315, 0));
    }

    /** "6 whether it does something as known on THE DAY (1; CLEARED: whether it is known)". */
    private static void clearedIsKnown() {
        Land land = Land.withClaim("bar 5;");
        LabourExchange y = land.x;
        for (int list = 0; list < 3; list++) {
            y.judge(list, 1);
        }
        y.appeal(0);
        y.days(3);
        y.close(0, true);
        y.days(2);
        y.back(2);
        y.days(1);
        int[][] known = {{314, 0}, {315, 1}, {316, 1}, {317, 0}, {318, 0}};
        for (int[] k : known) {
            y.look(k[0]);
            CHECK.due("CLEARED as known on " + k[0], k[1], y.told(2, 6));
            CHECK.due("the bar as known on " + k[0], k[1] == 1 ? 2 : 1, y.day(0, 312, 0));
            CHECK.due("LEAVES does something all the same", 1, y.told(0, 6));
        }
    }

    /** EVENTS of one of the PEOPLE do nothing to another. */
    private static void ofOthersNothing() {
        LabourExchange y = Land.of(3).x;
        y.event(LEAVES, 1, 2, 312);
        y.event(MEANS, 1, 5, 312);
        for (int p = 0; p < 3; p++) {
            CHECK.due("kind of " + p, p == 1 ? 9 : 7, y.day(p, 312, 0));
            CHECK.due("means of " + p, p == 1 ? 5 : 0, y.value(p, 7));
            CHECK.due("reason of " + p, p == 1 ? 2 : 0, y.value(p, 8));
        }
    }
}
