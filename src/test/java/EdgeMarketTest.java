/** Edges of promises 21 to 29 and of the Terms ==== 6: VACANCIES, OFFERS, what is SENT, PRICES. */
public final class EdgeMarketTest {
    private static final Check CHECK = new Check();

    public static void main(String[] args) {
        theLastVacancy();
        numbersOfAVacancy();
        milesByFifty();
        toldToday();
        knownOnTheDay();
        openTillFilled();
        theLastOffer();
        openClaimToday();
        offerKeeps();
        suitsAsTheLawIsToday();
        suitsOfValues();
        taken();
        refused();
        fullEvents();
        milesByTen();
        gainAboveNothing();
        sentOfPairsAlone();
        noneBehindAll();
        theFirstAsARow();
        sentIsKept();
        prices();
        provesAtTheGain();
        provesOfPairsAlone();
        provesTwentyPeople();
        sendsTwentyPeople();
        CHECK.end();
    }

    /** Person 0 of trade 0 at office 0 with an open CLAIM, and a second OFFICE so many miles away. */
    private static LabourExchange apart(int miles, String text) {
        Land land = Land.of(1);
        LabourExchange x = land.x;
        x.office(Math.min(99, miles), miles - Math.min(99, miles));
        land.text("insure 0;set wait 0;" + text);
        land.fullRow(0, 0, 6);
        x.event(0, 0, 0, 312);
        x.event(2, 0, 0, 312);
        return x;
    }

    /** So many people at one OFFICE, all with open CLAIMS. */
    private static LabourExchange claims(int people, String text) {
        Land land = Land.of(0);
        LabourExchange x = land.x;
        land.text("insure 0,1,2,3;set wait 0;" + text);
        for (int p = 0; p < people; p++) {
            x.person(p % 4, 30, 0, 20, 5);
            x.event(0, p, 0, 312);
            x.event(2, p, 0, 312);
        }
        return x;
    }

    /** "VACANCIES, from 0 on, at most 24"; "NONE: there are 24". */
    private static void theLastVacancy() {
        LabourExchange x = claims(1, "");
        for (int i = 0; i < 23; i++) {
            CHECK.due("vacancy " + i, i, x.vacancy(0, 0, 5, 5));
        }
        CHECK.due("the 24th", 23, x.vacancy(0, 0, 7, 500));
        CHECK.due("a 25th", -1, x.vacancy(0, 0, 5, 999));
        CHECK.due("there are 24", 24, x.count(5));
        CHECK.due("the last is known", 312, x.known(23, 0));
        CHECK.noElement("a 25th isn't", () -> x.known(24, 0));
        CHECK.due("the last is the best", 500, x.send());
        CHECK.due("sent to it", 23, x.sent(0));
        CHECK.due("the last is offered", 0, x.offer(0, 23));
        CHECK.noElement("a 25th isn't", () -> x.offer(0, 24));
        CHECK.due("price of the last", true, x.price(1, 23, 500));
        CHECK.due("no price of a 25th", false, x.price(1, 24, 500));
        x.answer(0, true);
        CHECK.due("one is filled", 23, x.count(6));
        CHECK.due("there are 24 all the same", -1, x.vacancy(0, 0, 5, 5));
    }

    /** "OFFICE, TRADE, WAGE (1 to 999), WORTH (0 to 999)". */
    private static void numbersOfAVacancy() {
        LabourExchange x = Land.of(1).x;
        x.office(5, 5);
        int[][] edges = {{0, 1}, {0, 7}, {1, 999}, {0, 999}};
        int told = 0;
        for (int which = 0; which < edges.length; which++) {
            for (int side = 0; side < 2; side++) {
                int[] v = {0, 0, 5, 5};
                v[which] = edges[which][side] + (side == 0 ? -1 : 1);
                CHECK.due("number " + which + " is " + v[which], -1, x.vacancy(v[0], v[1], v[2], v[3]));
                v[which] = edges[which][side];
                CHECK.due("number " + which + " is " + v[which], told++, x.vacancy(v[0], v[1], v[2], v[3]));
            }
        }
        CHECK.due("eight", 8, x.count(5));
    }

    /** "KNOWN at an OFFICE from that DAY and MILES by 50, cut up, on". */
    private static void milesByFifty() {
        int[][] days = {{0, 0}, {1, 1}, {49, 1}, {50, 1}, {51, 2}, {99, 2}, {100, 2}, {101, 3}, {149, 3}, {150, 3},
            {151, 4}, {197, 4}, {198, 4}};
        for (int[] d : days) {
            LabourExchange x = apart(d[0], "");
            x.vacancy(1, 0, 5, 5);
            CHECK.due(d[0] + " miles", 312 + d[1], x.known(0, 0));
            CHECK.due("its own OFFICE, " + d[0], 312, x.known(0, 1));
            if (d[1] > 0) {
                x.days(d[1] - 1);
                CHECK.due("the DAY ahead, " + d[0], -1, x.offer(0, 0));
                x.days(1);
            }
            CHECK.due("the DAY itself, " + d[0], 0, x.offer(0, 0));
        }
        LabourExchange x = apart(198, "");
        for (int i = 0; i < 5; i++) {
            x.days(120);
        }
        x.days(23);
        x.vacancy(1, 0, 5, 5);
        CHECK.due("behind the last DAY", 939, x.known(0, 0));
    }

    /** "told TODAY". */
    private static void toldToday() {
        LabourExchange x = apart(60, "");
        x.days(7);
        x.look(312);
        x.vacancy(0, 0, 5, 5);
        x.vacancy(1, 0, 5, 5);
        CHECK.due("TODAY, whatever THE DAY is", 319, x.known(0, 0));
        CHECK.due("60 miles from that", 321, x.known(1, 0));
        x.days(5);
        CHECK.due("it stays", 319, x.known(0, 0));
    }

    /** "offer: NONE: .. the VACANCY isn't OPEN, or not KNOWN there": at the OFFICE of the person. */
    private static void knownOnTheDay() {
        LabourExchange x = claims(1, "");
        x.office(50, 0);
        x.person(0, 30, 1, 20, 5);
        x.event(0, 1, 0, 312);
        x.event(2, 1, 0, 312);
        x.vacancy(1, 0, 5, 5);
        CHECK.due("at its own OFFICE", 0, x.offer(1, 0));
        CHECK.due("not at the other", -1, x.offer(0, 0));
        CHECK.due("sent", 5, x.send());
        CHECK.due("the one", 0, x.sent(1));
        CHECK.due("not the other", -1, x.sent(0));
        x.days(1);
        CHECK.due("a DAY later", 1, x.offer(0, 0));
    }

    /** "OPEN till it is filled". */
    private static void openTillFilled() {
        LabourExchange x = claims(3, "");
        x.vacancy(0, 0, 5, 5);
        x.vacancy(0, 0, 5, 5);
        for (int p = 0; p < 3; p++) {
            x.offer(p, 0);
        }
        x.answer(1, false);
        CHECK.due("a refusal fills nothing", 2, x.count(6));
        CHECK.due("offered again", 3, x.offer(1, 0));
        x.answer(0, true);
        CHECK.due("filled", 1, x.count(6));
        CHECK.due("not offered", -1, x.offer(1, 0));
        CHECK.due("nor taken", -1, x.answer(2, true));
        CHECK.due("nothing became of that", 0, x.offerOf(2, 4));
        CHECK.due("not sent to", 5, x.send());
        CHECK.due("the other is", 1, x.sent(1));
        int hired = x.count(3) - 1;
        CHECK.due("HIRED", 1, x.told(hired, 0));
        x.back(hired);
        CHECK.due("filled all the same", -1, x.offer(1, 0));
    }

    /** "OFFERS, from 0 on, at most 60"; "NONE: there are 60". */
    private static void theLastOffer() {
        LabourExchange x = claims(1, "");
        x.vacancy(0, 0, 5, 5);
        for (int i = 0; i < 59; i++) {
            CHECK.due("offer " + i, i, x.offer(0, 0));
        }
        CHECK.due("the 60th", 59, x.offer(0, 0));
        CHECK.due("a 61st", -1, x.offer(0, 0));
        CHECK.due("there are 60", 60, x.count(7));
        CHECK.due("the last is told of", 1, x.offerOf(59, 2));
        CHECK.noElement("a 61st isn't", () -> x.offerOf(60, 2));
        CHECK.due("the last is answered", 2, x.answer(59, false));
        CHECK.noElement("a 61st isn't", () -> x.answer(60, false));
        CHECK.due("there are 60 all the same", -1, x.offer(0, 0));
    }

    /** "to one of the PEOPLE whose CLAIM is open TODAY". */
    private static void openClaimToday() {
        Land land = Land.of(1);
        LabourExchange x = land.x;
        land.text("insure 0;set wait 0;set days 0;");
        x.vacancy(0, 0, 5, 5);
        CHECK.due("IN WORK", -1, x.offer(0, 0));
        x.event(0, 0, 0, 312);
        CHECK.due("OUT without a CLAIM", -1, x.offer(0, 0));
        x.event(2, 0, 0, 312);
        CHECK.due("open, though ENDED", 0, x.offer(0, 0));
        x.days(3);
        x.event(3, 0, 0, 314);
        CHECK.due("closed yesterday", -1, x.offer(0, 0));
        x.look(313);
        CHECK.due("TODAY, whatever THE DAY is", -1, x.offer(0, 0));
        x.back(2);
        CHECK.due("it was never closed", 1, x.offer(0, 0));
        x.event(6, 0, 3, 315);
        CHECK.due("what can't be changes nothing", 2, x.offer(0, 0));
        x.event(1, 0, 9, 315);
        CHECK.due("HIRED TODAY", -1, x.offer(0, 0));
        x.event(6, 0, 3, 315);
        x.event(2, 0, 0, 315);
        CHECK.due("SHORT with a CLAIM", 3, x.offer(0, 0));
    }

    /** "(as the law and all VALUES are TODAY, as known then)": it is kept, whatever is known later. */
    private static void offerKeeps() {
        Land land = Land.withClaim("set wait 0;suit 1;suit means < 5;suit 1;");
        LabourExchange x = land.x;
        x.vacancy(0, 0, 5, 5);
        x.event(5, 0, 5, 312);
        x.offer(0, 0);
        x.back(2);
        x.offer(0, 0);
        x.event(5, 0, 9, 312);
        int[][] want = {{0, 1}, {1, -1}};
        for (int turn = 0; turn < 2; turn++) {
            for (int o = 0; o < 2; o++) {
                CHECK.due("SUITABLE " + o, want[o][0], x.offerOf(o, 2));
                CHECK.due("the 'suit' that failed " + o, want[o][1], x.offerOf(o, 3));
            }
            land.text("suit 0;");
            x.days(3);
            x.look(312);
        }
        x.look(-1);
        int first = x.answer(0, false);
        int second = x.answer(1, false);
        CHECK.due("not SUITABLE then", 0, x.told(first, 6));
        CHECK.due("SUITABLE then", 1, x.told(second, 6));
    }

    /** 'suit' is that of TODAY: on the first and on the last DAY of its TEXT. */
    private static void suitsAsTheLawIsToday() {
        int[][] spans = {{312, 313, 0}, {313, 400, 1}, {300, 312, 1}, {311, 313, 0}, {0, 935, 0}, {312, 312, 1}};
        for (int[] s : spans) {
            Land land = Land.withClaim("set wait 0;");
            land.text("suit 0;", s[0], s[1]);
            land.x.vacancy(0, 0, 5, 5);
            CHECK.due("from " + s[0] + " to " + s[1], s[2], land.x.offerOf(land.x.offer(0, 0), 2));
        }
    }

    /** 'miles', 'wage', 'same' of the OFFER, and all other VALUES of TODAY. */
    private static void suitsOfValues() {
        String[] holds = {"miles = 60", "wage = 33", "same = 0", "age = 30", "trade = 0", "usual = 20", "out = 2", "paid = 3",
            "stamps = 312", "unknown = 0", "means = 0", "reason = 0", "wait = 0", "gap = 18", "court = 12"};
        for (String h : holds) {
            LabourExchange x = apart(60, "suit " + h + ";");
            x.vacancy(1, 1, 33, 50);
            x.days(2);
            CHECK.due("suit " + h, 1, x.offerOf(x.offer(0, 0), 2));
            CHECK.due("sent by " + h, 50 - 6, x.send());
            LabourExchange y = apart(60, "suit not (" + h + ");");
            y.vacancy(1, 1, 33, 50);
            y.days(2);
            CHECK.due("suit not (" + h + ")", 0, y.offerOf(y.offer(0, 0), 3));
            CHECK.due("nothing sent by not (" + h + ")", 0, y.send());
        }
    }

    /** Promise 25: "An OFFER is taken", "HIRED is told, from TODAY". */
    private static void taken() {
        LabourExchange x = claims(2, "suit 0;");
        x.vacancy(0, 0, 999, 5);
        x.offer(0, 0);
        x.offer(1, 0);
        x.days(2);
        CHECK.due("one that isn't SUITABLE may be taken", 4, x.answer(0, true));
        int[] hired = {1, 0, 999, 314, 314, -1, 1};
        for (int what = 0; what < hired.length; what++) {
            CHECK.due("HIRED " + what, hired[what], x.told(4, what));
        }
        CHECK.due("usual", 999, x.value(0, 2));
        CHECK.due("taken", 1, x.offerOf(0, 4));
        CHECK.due("again", -1, x.answer(0, true));
        CHECK.due("or refused", -1, x.answer(0, false));
        CHECK.due("the other is not taken", -1, x.answer(1, true));
        CHECK.due("but refused", 5, x.answer(1, false));
        CHECK.due("and not again", -1, x.answer(1, false));
        CHECK.due("nor taken then", -1, x.answer(1, true));
        LabourExchange y = claims(1, "");
        y.vacancy(0, 0, 7, 5);
        y.vacancy(0, 0, 8, 5);
        y.offer(0, 0);
        y.offer(0, 1);
        y.answer(0, true);
        int second = y.answer(1, true);
        CHECK.due("one who is IN WORK may take, too", 3, second);
        CHECK.due("but isn't HIRED", 0, y.told(second, 6));
        CHECK.due("usual of the first", 7, y.value(0, 2));
        CHECK.due("both are filled", 0, y.count(6));
    }

    /** "or refused (REFUSES is told, from TODAY): the EVENT's number". */
    private static void refused() {
        LabourExchange x = claims(2, "bar 3 * (reason = 4);");
        x.vacancy(0, 0, 5, 5);
        x.offer(1, 0);
        x.offer(1, 0);
        x.days(2);
        CHECK.due("refused", 4, x.answer(1, false));
        int[] refuses = {7, 1, 1, 314, 314, -1, 1};
        for (int what = 0; what < refuses.length; what++) {
            CHECK.due("REFUSES " + what, refuses[what], x.told(4, what));
        }
        CHECK.due("refused", 2, x.offerOf(1, 4));
        CHECK.due("the other isn't", 0, x.offerOf(0, 4));
        x.days(3);
        int[] kinds = {0, 0, 1, 1, 1, 0};
        for (int i = 0; i < kinds.length; i++) {
            CHECK.due("day " + (312 + i), kinds[i], x.day(1, 312 + i, 0));
        }
        x.back(4);
        CHECK.due("TAKEN BACK: no bar", 0, x.day(1, 314, 0));
        CHECK.due("but refused it stays", 2, x.offerOf(1, 4));
        CHECK.due("and is not answered again", -1, x.answer(1, true));
    }

    /** "or there are 160 EVENTS": at 159, and at 160. */
    private static void fullEvents() {
        for (int turn = 0; turn < 2; turn++) {
            boolean takes = turn == 0;
            LabourExchange x = claims(1, "");
            x.vacancy(0, 0, 5, 5);
            x.vacancy(0, 0, 5, 5);
            x.offer(0, 0);
            x.offer(0, 1);
            while (x.count(3) < 159) {
                x.event(5, 0, 1, 312);
            }
            CHECK.due("the last EVENT", 159, x.answer(0, takes));
            CHECK.due("one more", -1, x.answer(1, takes));
            CHECK.due("nothing became of it", 0, x.offerOf(1, 4));
            CHECK.due("OPEN", takes ? 1 : 2, x.count(6));
        }
    }

    /** "GAIN of a pair: WORTH less MILES by 10, cut down". */
    private static void milesByTen() {
        int[][] gains = {{0, 100}, {1, 100}, {9, 100}, {10, 99}, {11, 99}, {19, 99}, {20, 98}, {99, 91}, {100, 90},
            {198, 81}};
        for (int[] g : gains) {
            LabourExchange x = apart(g[0], "");
            x.vacancy(1, 0, 5, 100);
            x.days(4);
            CHECK.due(g[0] + " miles", g[1], x.send());
            x.price(0, 0, g[1] - 1);
            CHECK.due("less than its GAIN proves nothing", -1, x.proves());
            x.price(0, 0, g[1]);
            CHECK.due("its GAIN proves it", g[1], x.proves());
        }
    }

    /** "if above 0 (else it is none)". */
    private static void gainAboveNothing() {
        int[][] pairs = {{0, 0, 0}, {0, 1, 1}, {198, 19, 0}, {198, 18, 0}, {198, 20, 1}, {10, 1, 0}, {10, 2, 1}, {9, 1, 1},
            {0, 999, 999}, {198, 0, 0}};
        for (int[] p : pairs) {
            LabourExchange x = apart(p[0], "");
            x.vacancy(1, 0, 5, p[1]);
            x.days(4);
            CHECK.due(p[0] + " miles, worth " + p[1], p[2], x.send());
            CHECK.due("sent", p[2] > 0 ? 0 : -1, x.sent(0));
            CHECK.due("nothing to prove if it is none", p[2] > 0 ? -1 : 0, x.proves());
        }
    }

    /** "of all PEOPLE whose CLAIM is open TODAY and VACANCIES that are OPEN and KNOWN at their OFFICES and SUITABLE". */
    private static void sentOfPairsAlone() {
        LabourExchange x = claims(3, "suit same;");
        x.office(60, 0);
        x.vacancy(0, 0, 5, 10);
        x.vacancy(0, 1, 5, 20);
        x.vacancy(1, 2, 5, 40);
        CHECK.due("two, the third isn't KNOWN", 30, x.send());
        x.days(2);
        CHECK.due("and a third", 30 + 34, x.send());
        x.event(3, 0, 0, 314);
        CHECK.due("closed TODAY", 20 + 34, x.send());
        x.answer(x.offer(1, 1), true);
        CHECK.due("filled", 34, x.send());
        int[] sent = {-1, -1, 2};
        for (int p = 0; p < 3; p++) {
            CHECK.due("sent " + p, sent[p], x.sent(p));
        }
    }

    /** "(none behind all)": of like sums, he who comes first is sent. */
    private static void noneBehindAll() {
        LabourExchange x = claims(3, "");
        x.vacancy(0, 0, 5, 9);
        CHECK.due("one", 9, x.send());
        CHECK.due("the first", 0, x.sent(0));
        CHECK.due("not the second", -1, x.sent(1));
        CHECK.due("nor the third", -1, x.sent(2));
        LabourExchange y = claims(3, "suit not (trade = 0) or wage = 6;");
        y.vacancy(0, 0, 5, 9);
        y.vacancy(0, 0, 6, 9);
        CHECK.due("two", 18, y.send());
        CHECK.due("the first has the second", 1, y.sent(0));
        CHECK.due("the second has the first", 0, y.sent(1));
        CHECK.due("the third has none", -1, y.sent(2));
    }

    /** "BEST: the greatest sum; of like ones the first as a row". */
    private static void theFirstAsARow() {
        LabourExchange x = claims(2, "");
        x.vacancy(0, 0, 5, 9);
        x.vacancy(0, 0, 5, 9);
        CHECK.due("like ones", 18, x.send());
        CHECK.due("0 to the first", 0, x.sent(0));
        CHECK.due("1 to the second", 1, x.sent(1));
        LabourExchange y = claims(2, "");
        y.vacancy(0, 0, 5, 8);
        y.vacancy(0, 0, 5, 9);
        y.vacancy(0, 0, 5, 9);
        CHECK.due("the greatest sum ahead of the row", 18, y.send());
        CHECK.due("0", 1, y.sent(0));
        CHECK.due("1", 2, y.sent(1));
        LabourExchange z = claims(1, "");
        z.vacancy(0, 0, 5, 8);
        z.vacancy(0, 0, 5, 9);
        CHECK.due("one of two", 9, z.send());
        CHECK.due("the better one", 1, z.sent(0));
    }

    /** "it is kept"; "The VACANCY to which a person is SENT by what is kept; NONE". */
    private static void sentIsKept() {
        LabourExchange x = claims(2, "");
        CHECK.due("ahead of any", -1, x.sent(0));
        CHECK.due("nothing to send to", 0, x.send());
        CHECK.due("none", -1, x.sent(0));
        x.vacancy(0, 0, 5, 9);
        CHECK.due("not by what is kept", -1, x.sent(0));
        x.send();
        x.proves();
        x.answer(x.offer(0, 0), true);
        x.days(7);
        CHECK.due("kept, though it is filled", 0, x.sent(0));
        CHECK.due("a second, too", -1, x.sent(1));
        CHECK.due("no more", 0, x.send());
        CHECK.due("kept no more", -1, x.sent(0));
        CHECK.noElement("a third", () -> x.sent(2));
        CHECK.noElement("nobody", () -> x.sent(-1));
    }

    /** Promise 28: "what 0 of a person, 1 of a VACANCY"; "(0 to 9999, 0 at first)". */
    private static void prices() {
        LabourExchange x = claims(2, "suit 0;");
        x.vacancy(0, 0, 5, 9);
        CHECK.due("0 at first", 0, x.proves());
        int[][] bad = {{-1, 0, 5}, {2, 0, 5}, {0, -1, 5}, {0, 2, 5}, {1, -1, 5}, {1, 1, 5}, {0, 0, -1}, {0, 0, 10000},
            {1, 0, -1}, {1, 0, 10000}};
        for (int[] p : bad) {
            CHECK.due("price " + p[0] + " " + p[1] + " " + p[2], false, x.price(p[0], p[1], p[2]));
            CHECK.due("their sum", 0, x.proves());
        }
        int[][] good = {{0, 0, 9999, 9999}, {0, 1, 9999, 19998}, {1, 0, 9999, 29997}, {0, 0, 0, 19998}, {0, 1, 1, 10000},
            {1, 0, 9998, 9999}, {1, 0, 0, 1}};
        for (int[] p : good) {
            CHECK.due("price " + p[0] + " " + p[1] + " " + p[2], true, x.price(p[0], p[1], p[2]));
            CHECK.due("their sum", p[3], x.proves());
        }
    }

    /** "if for each such pair both PRICES together are at least its GAIN". */
    private static void provesAtTheGain() {
        int[][] prices = {{9, 0, 9}, {0, 9, 9}, {4, 5, 9}, {4, 4, -1}, {8, 0, -1}, {0, 8, -1}, {0, 0, -1}, {10, 0, 10},
            {5, 5, 10}};
        for (int[] p : prices) {
            LabourExchange x = claims(1, "");
            x.vacancy(0, 0, 5, 9);
            x.price(0, 0, p[0]);
            x.price(1, 0, p[1]);
            CHECK.due(p[0] + " and " + p[1], p[2], x.proves());
        }
        LabourExchange x = claims(2, "");
        x.vacancy(0, 0, 5, 9);
        x.vacancy(0, 0, 5, 7);
        x.price(0, 0, 7);
        x.price(0, 1, 7);
        CHECK.due("2 short in two pairs", -1, x.proves());
        x.price(1, 0, 2);
        CHECK.due("proves the sum that is sent", 16, x.proves());
        CHECK.due("which is", 16, x.send());
    }

    /** "as things are TODAY": only what is a pair counts, all PRICES are in the sum. */
    private static void provesOfPairsAlone() {
        LabourExchange x = claims(2, "");
        x.office(60, 0);
        x.vacancy(1, 0, 5, 9);
        x.price(0, 0, 1);
        CHECK.due("not KNOWN yet", 1, x.proves());
        x.days(2);
        CHECK.due("KNOWN: 3", -1, x.proves());
        x.price(1, 0, 2);
        CHECK.due("one of two", -1, x.proves());
        x.price(0, 1, 1);
        CHECK.due("both", 4, x.proves());
        x.price(1, 0, 1);
        CHECK.due("short", -1, x.proves());
        x.answer(x.offer(0, 0), true);
        CHECK.due("filled: no pair", 3, x.proves());
        x.vacancy(0, 0, 5, 2);
        CHECK.due("a new one", -1, x.proves());
        x.event(3, 1, 0, 314);
        CHECK.due("no open CLAIM: no pair", 3, x.proves());
    }

    /** As many people and VACANCIES as there may be: the PRICES of the last of both count. */
    private static void provesTwentyPeople() {
        LabourExchange x = claims(20, "");
        for (int v = 0; v < 24; v++) {
            x.vacancy(0, 0, 5, 100);
        }
        for (int p = 0; p < 20; p++) {
            x.price(0, p, 100);
        }
        CHECK.due("all", 2000, x.proves());
        CHECK.due("as is sent", 2000, x.send());
        CHECK.due("the last", 19, x.sent(19));
        x.price(0, 19, 99);
        CHECK.due("the last person is short", -1, x.proves());
        for (int v = 0; v < 23; v++) {
            x.price(1, v, 1);
        }
        CHECK.due("of the last VACANCY still", -1, x.proves());
        x.price(1, 23, 1);
        CHECK.due("no more", 2000 - 1 + 24, x.proves());
    }

    private static void sendsTwentyPeople() {
        LabourExchange x = claims(20, "");
        for (int v = 0; v < 24; v++) {
            x.vacancy(0, 0, 5, 1 + v);
        }
        CHECK.due("the best twenty", 5 * 20 + 19 * 20 / 2, x.send());
        for (int p = 0; p < 20; p++) {
            CHECK.due("sent " + p, 4 + p, x.sent(p));
        }
        LabourExchange y = claims(20, "suit trade + 1 = wage;");
        for (int v = 0; v < 24; v++) {
            y.vacancy(0, 0, 1 + v % 5, 7);
        }
        CHECK.due("five of each of four", 140, y.send());
        int[] next = {0, 1, 2, 3};
        for (int p = 0; p < 20; p++) {
            int trade = p % 4;
            CHECK.due("sent by trades " + p, next[trade], y.sent(p));
            next[trade] += 5;
        }
    }
}
