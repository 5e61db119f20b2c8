/** Edges of promises 8, 9 and 18 and of the Terms ==== 3: TEXTS, their FAULTS, what they come to, and the law. */
public final class EdgeTextTest {
    private static final Check CHECK = new Check();

    public static void main(String[] args) {
        lengths();
        sixHundredBytes();
        theLastText();
        refusedTextIsNoText();
        daysOfATexts();
        neverInForce();
        everyByte();
        wordsAndTheirNeighbours();
        digits();
        trades();
        toldAlready();
        clauses();
        nesting();
        nots();
        endsTooSoon();
        wrongTokens();
        wordsWhereAPartMustStand();
        paramsWhereOneMustStand();
        placeOfTheFault();
        latestFault();
        manyFaults();
        halfReadText();
        CHECK.end();
    }

    private static void fault(String text, int kind, int place) {
        LabourExchange x = new LabourExchange();
        Land.feed(x, Land.bytes(text));
        CHECK.due("text " + text, -1 - kind, x.text(text.length(), 312, 935));
        CHECK.due("place in " + text, place, x.fault());
        CHECK.due("no text " + text, 0, x.count(4));
        Land.feed(x, Land.bytes(text));
        CHECK.due("attempt " + text, kind, x.attempt(text.length(), 312, 935));
        CHECK.due("its place in " + text, place, x.fault());
    }

    private static void good(String text) {
        LabourExchange x = new LabourExchange();
        Land.feed(x, Land.bytes(text));
        CHECK.due("text " + text, 0, x.text(text.length(), 312, 935));
        CHECK.due("no fault in " + text, -1, x.fault());
        Land.feed(x, Land.bytes(text));
        CHECK.due("attempt " + text, 0, x.attempt(text.length(), 312, 935));
        CHECK.due("no fault in the attempt " + text, -1, x.fault());
    }

    /** "the tape's first n bytes"; "IllegalArgumentException: the tape has not so many, n below 0 (nothing changes)". */
    private static void lengths() {
        for (int n : new int[] {0, 3, 7, 9, 10, 13, 17, 19, 20}) {
            LabourExchange x = new LabourExchange();
            Land.feed(x, Land.bytes("set gap 1;set gap 2;"));
            boolean whole = n % 10 == 0;
            CHECK.due(n + " of 20", whole ? 0 : -2, x.text(n, 312, 400));
            CHECK.due("place of " + n, whole ? -1 : n, x.fault());
            CHECK.due("gap by " + n, whole && n > 0 ? n / 10 : 18, x.law(1, 312));
            CHECK.due("the tape is empty then", 0, x.count(10));
        }
        LabourExchange x = new LabourExchange();
        Land.feed(x, Land.bytes("set gap 1;set gap 2;"));
        CHECK.badArgument("21 of 20", () -> x.text(21, 312, 400));
        CHECK.badArgument("-1 of 20", () -> x.text(-1, 312, 400));
        CHECK.due("nothing changes", 20, x.count(10));
        CHECK.due("no text", 0, x.count(4));
        CHECK.due("20 of 20", 0, x.text(20, 312, 400));
    }

    /** "each of at most 600 bytes": one that fills the tape, and its FAULT at the very end. */
    private static void sixHundredBytes() {
        String blanks = " ".repeat(589);
        good(blanks + "set gap 7;\n");
        good("set gap 7;" + blanks + "\n");
        fault(blanks + "set gap 77?", 1, 599);
        fault(blanks + "  set gap 7", 1, 600);
        fault("?" + blanks + "set gap 7;", 1, 0);
        good("pay 1" + "+1".repeat(297) + ";");
        fault("pay 1" + "+1".repeat(297), 1, 599);
        good("pay 1" + " or 1".repeat(118) + "    ;");
        good("pay not 1" + " and age".repeat(73) + "     ;");
        LabourExchange x = new LabourExchange();
        Land.feed(x, Land.bytes(blanks + "set gap 7;\n"));
        CHECK.due("600 bytes", 600, x.count(10));
        CHECK.badArgument("601 of them", () -> x.text(601, 312, 400));
        CHECK.due("all of them", 0, x.text(600, 312, 400));
        CHECK.due("gap", 7, x.law(1, 312));
    }

    /** "TEXTS, from 0 on, at most 16"; "-9: there are 16". */
    private static void theLastText() {
        Land land = Land.of(1);
        LabourExchange x = land.x;
        for (int i = 0; i < 15; i++) {
            CHECK.due("text " + i, i, land.text("set gap " + i + ";"));
        }
        CHECK.due("the sixteenth", 15, land.text("set gap 99;"));
        CHECK.due("is in force", 99, x.law(1, 312));
        CHECK.due("a 17th", -9, land.text("set gap 100;"));
        CHECK.due("is not", 99, x.law(1, 312));
        CHECK.due("there are 16", 16, x.count(4));
        CHECK.due("a 17th with a FAULT", -9, land.text("set gap 1000000;"));
        CHECK.due("has no place", -1, x.fault());
        CHECK.due("a 17th of no bytes", -9, x.text(0, 312, 400));
        CHECK.badArgument("a 17th that isn't on the tape", () -> x.text(1, 312, 400));
        CHECK.due("a FAULT in a TRY is told all the same", 2, land.attempt("set gap 1000000;"));
        CHECK.due("and its place", 8, x.fault());
        CHECK.due("a TRY behind sixteen", 0, land.attempt("set gap 100;"));
        CHECK.due("which is told by none", 99, x.law(1, 312));
    }

    /** "-9: .. DAYS are not as told": no TEXT, and the next one has its number. */
    private static void refusedTextIsNoText() {
        int[][] days = {{-1, 400}, {936, 400}, {312, -1}, {312, 936}, {-1, 936}};
        Land land = Land.of(1);
        for (int[] d : days) {
            CHECK.due("from " + d[0] + " to " + d[1], -9, land.text("set gap 5;", d[0], d[1]));
            CHECK.due("no text", 0, land.x.count(4));
            CHECK.due("no law", 18, land.x.law(1, 312));
            Land.feed(land.x, Land.bytes("set gap 5;"));
            CHECK.due("a TRY from " + d[0] + " to " + d[1], 9, land.x.attempt(10, d[0], d[1]));
            CHECK.noElement("is none", () -> land.x.tried(8, 0));
        }
        CHECK.due("the first", 0, land.text("set gap 6;", 0, 935));
        CHECK.due("its law", 6, land.x.law(1, 312));
    }

    /** "from a DAY on up to another one (not that; each any of 0 to 935 ..)". */
    private static void daysOfATexts() {
        int[][] spans = {{0, 935}, {0, 1}, {934, 935}, {1, 2}, {312, 313}, {311, 312}, {5, 930}};
        for (int[] s : spans) {
            Land land = Land.of(1);
            CHECK.due("from " + s[0] + " to " + s[1], 0, land.text("set gap 5;insure 3;", s[0], s[1]));
            for (int day : new int[] {0, s[0] - 1, s[0], s[0] + 1, s[1] - 1, s[1], s[1] + 1, 935}) {
                if (day >= 0 && day <= 935) {
                    boolean in = s[0] <= day && day < s[1];
                    CHECK.due("gap on " + day, in ? 5 : 18, land.x.law(1, day));
                    CHECK.due("insured on " + day, in, land.x.law(13, day) == 1);
                }
            }
        }
    }

    /** "it may never be": to its own first DAY, or ahead of it. */
    private static void neverInForce() {
        int[][] spans = {{0, 0}, {400, 400}, {935, 935}, {935, 0}, {401, 400}, {1, 0}};
        for (int[] s : spans) {
            Land land = Land.of(1);
            CHECK.due("from " + s[0] + " to " + s[1], 0, land.text("set gap 5;", s[0], s[1]));
            for (int day : new int[] {0, s[0], s[1], 935, 312}) {
                CHECK.due("gap on " + day, 18, land.x.law(1, day));
            }
            CHECK.due("it is told", 1, land.x.count(4));
        }
    }

    /** "TOKENS: words (a .. z ..), NUMBERS .., signs ; , ( ) + - * / < = ; blanks (32, 10)": each of the 256 bytes. */
    private static void everyByte() {
        for (int b = 0; b < 256; b++) {
            char c = (char) b;
            boolean blank = b == 32 || b == 10;
            boolean operator = b > 0 && "+-*/<=".indexOf(c) >= 0;
            boolean digit = b >= '0' && b <= '9';
            boolean letter = b >= 'a' && b <= 'z';
            if (blank) {
                good("" + c);
                good("pay 1" + c + ";");
                fault("pay 1" + c + "2;", 1, 6);
            } else {
                fault("" + c, 1, 0);
            }
            if (operator || digit) {
                good("pay 1" + c + "2;");
            } else if (!blank) {
                fault("pay 1" + c + "2;", 1, b == ';' ? 6 : 5);
            }
            if (letter && c != 'e') {
                fault("pay ag" + c + ";", 3, 4);
            }
        }
    }

    /** "words (a .. z, the longest row)". */
    private static void wordsAndTheirNeighbours() {
        good("set gap 1;");
        good("set gap1;");
        good("set\ngap\n1\n;\n");
        good("  set  gap  1  ;  ");
        fault("setgap 1;", 1, 0);
        fault("set gapx 1;", 3, 4);
        fault("se t gap 1;", 1, 0);
        fault("set ga p 1;", 3, 4);
        fault("pay 1or 0orage;", 1, 9);
        good("pay 1or 0or age;");
        good("pay 1or(0)or(age);");
        fault("pay notage;", 3, 4);
        good("pay not(age);");
        good("pay not 1and 1;");
        fault("like 1bar1;xx", 1, 11);
        good("like 1bar1;");
        String[] words = {"insure", "set", "pay", "needy", "bar", "suit", "like"};
        String[] rest = {" 1;", " gap 1;", " 1;", " 1;", " 1;", " 1;", " 1 bar 1;"};
        for (int i = 0; i < words.length; i++) {
            good(words[i] + rest[i]);
            fault(words[i] + "s" + rest[i], 1, 0);
            fault(words[i].substring(1) + rest[i], 1, 0);
            fault(words[i].substring(0, words[i].length() - 1) + rest[i], 1, 0);
            fault(Character.toUpperCase(words[i].charAt(0)) + words[i].substring(1) + rest[i], 1, 0);
        }
    }

    /** "NUMBERS (1 to 5 digits)"; FAULT 2 "a NUMBER of 6 digits or more", wherever one may stand. */
    private static void digits() {
        String[][] places = {{"set gap ", ";"}, {"pay ", ";"}, {"pay (1 + ", ");"}, {"like 1 bar ", ";"},
            {"needy 1 unless ", ";"}, {"like ", " bar 1;"}, {"suit age < ", ";"}, {"bar not ", ";"}};
        for (String[] p : places) {
            for (String number : new String[] {"0", "9", "10", "9999", "99999", "00000", "00001", "12345"}) {
                good(p[0] + number + p[1]);
            }
            for (String number : new String[] {"100000", "000000", "000001", "999999", "1234567", "99999999999999999999"}) {
                fault(p[0] + number + p[1], 2, p[0].length());
            }
        }
        Land land = Land.of(1);
        land.text("set wait 99999;set gap 00000;set rate 00012;set days 10000;");
        int[] want = {99999, 0, 12, 10000};
        for (int i = 0; i < 4; i++) {
            CHECK.due("set " + i, want[i], land.x.law(i, 312));
        }
    }

    /** FAULT 2 "a TRADE above 7". */
    private static void trades() {
        for (int trade = 0; trade <= 7; trade++) {
            Land land = Land.of(1);
            CHECK.due("insure " + trade, 0, land.text("insure " + trade + ";"));
            for (int other = 0; other <= 7; other++) {
                CHECK.due("insured " + other, other == trade, land.x.law(10 + other, 312) == 1);
            }
        }
        good("insure 00007;");
        fault("insure 8;", 2, 7);
        fault("insure 9;", 2, 7);
        fault("insure 10;", 2, 7);
        fault("insure 00008;", 2, 7);
        fault("insure 000007;", 2, 7);
        fault("insure 99999;", 2, 7);
        fault("insure 7,8;", 2, 9);
        fault("insure 7,7,8;", 4, 9);
        fault("insure 7,8,7;", 2, 9);
        fault("insure 0,1,2,3,4,5,6,7,8;", 2, 23);
        good("insure 7,6,5,4,3,2,1,0;");
    }

    /** FAULT 4 "a TRADE told already in its CLAUSE". */
    private static void toldAlready() {
        fault("insure 0,0;", 4, 9);
        fault("insure 7 , 0 , 00007;", 4, 15);
        fault("insure 1,2,1,2;", 4, 11);
        fault("insure 1,2,2", 4, 11);
        fault("insure 0,1,2,3,4,5,6,7,0;", 4, 23);
        good("insure 1,2;insure 2,1;");
        Land land = Land.of(1);
        land.text("insure 1,2;insure 3;");
        CHECK.due("the last in it alone", 0, land.x.law(11, 312));
        CHECK.due("the last", 1, land.x.law(13, 312));
    }

    /** FAULT 2 "the first TOKEN of the 25th CLAUSE". */
    private static void clauses() {
        String[] all = {"pay 1;", "bar 1;", "suit 1;", "set gap 1;", "insure 1;", "needy 1;", "like 1 bar 1;"};
        for (String clause : all) {
            good(clause.repeat(23));
            good(clause.repeat(24));
            fault(clause.repeat(25), 2, 24 * clause.length());
            fault(clause.repeat(24) + "  \n" + clause, 2, 24 * clause.length() + 3);
            fault(clause.repeat(24) + clause.substring(0, clause.indexOf(' ')), 2, 24 * clause.length());
            good(clause.repeat(24) + " \n ");
            fault(clause.repeat(24) + "1", 1, 24 * clause.length());
            fault(clause.repeat(24) + "wait", 1, 24 * clause.length());
            fault(clause.repeat(24) + "?", 1, 24 * clause.length());
            fault(clause.repeat(23) + clause.substring(0, clause.length() - 1), 1, 24 * clause.length() - 1);
        }
    }

    /** FAULT 2 "[the first TOKEN] of an EXPR within 6 others (a NUMBER, word or parenthesis)". */
    private static void nesting() {
        String[][] places = {{"pay ", ";"}, {"needy ", ";"}, {"bar ", ";"}, {"suit ", ";"}, {"pay 1 unless ", ";"},
            {"like ", " bar 1;"}, {"pay 1 + ", ";"}, {"pay 1 or ", ";"}, {"pay not ", ";"}, {"pay age < ", ";"},
            {"pay (1) + ", ";"}};
        for (String[] p : places) {
            for (int deep = 0; deep <= 5; deep++) {
                good(p[0] + "(".repeat(deep) + "1" + ")".repeat(deep) + p[1]);
            }
            int place = p[0].length() + 6;
            String six = p[0] + "((((((";
            fault(six + "1))))))" + p[1], 2, place);
            fault(six + "age))))))" + p[1], 2, place);
            fault(six + "(1)))))))" + p[1], 2, place);
            fault(six + " not 1))))))" + p[1], 2, place + 1);
            fault(six + "123456", 2, place);
            fault(six + "))))))" + p[1], 1, place);
            fault(six + "+1))))))" + p[1], 1, place);
            fault(six + ";", 1, place);
            fault(six + "?", 1, place);
            fault(six, 1, place);
            fault(six + "  ", 1, place + 2);
        }
        good("pay (((((1)))))*(((((1)))))-(((((age))))) unless (((((0)))));");
        fault("pay (((((1)))))*((((((1))))));", 2, 22);
        fault("pay (((((1+(2))))));", 2, 12);
        good("pay ((((1+(2)))));");
    }

    /** FAULT 2 "the seventh 'not' side by side". */
    private static void nots() {
        for (int n = 0; n <= 6; n++) {
            good("pay " + "not ".repeat(n) + "1;");
            good("like " + "not ".repeat(n) + "1 bar 1;");
            good("pay 1 and " + "not ".repeat(n) + "1;");
            good("pay (" + "not ".repeat(n) + "1);");
        }
        fault("pay " + "not ".repeat(7) + "1;", 2, 28);
        fault("pay " + "not ".repeat(8) + "1;", 2, 28);
        fault("pay " + "not ".repeat(7), 2, 28);
        fault("pay " + "not ".repeat(6) + ";", 1, 28);
        fault("pay 1 and " + "not ".repeat(7) + "1;", 2, 34);
        fault("pay 1 or " + "not ".repeat(7) + "1;", 2, 33);
        fault("pay 1 unless " + "not ".repeat(7) + "1;", 2, 37);
        fault("pay (" + "not ".repeat(7) + "1);", 2, 29);
        fault("like " + "not ".repeat(7) + "1 bar 1;", 2, 29);
        good("pay " + "not ".repeat(6) + "(" + "not ".repeat(6) + "1);");
        good("pay " + "not ".repeat(6) + "1 and " + "not ".repeat(6) + "1 or " + "not ".repeat(6) + "1;");
    }

    /** FAULT 1 "(the text's length where it ends too soon)": behind each TOKEN but a CLAUSE's last. */
    private static void endsTooSoon() {
        String[] clauses = {"insure 1 , 2 ;", "set gap 5 ;", "pay 1 ;", "needy age unless trade ;", "like 1 bar 2 ;",
            "suit not ( 1 + 2 ) * 3 < 4 ;", "bar 1 or 2 and 3 ;"};
        for (String clause : clauses) {
            for (int at = 1; at < clause.length(); at++) {
                if (clause.charAt(at) == ' ') {
                    fault(clause.substring(0, at), 1, at);
                    fault(clause.substring(0, at + 1), 1, at + 1);
                    fault("pay 1;" + clause.substring(0, at) + " \n", 1, at + 8);
                }
            }
            good(clause);
        }
    }

    /** FAULT 1 "a TOKEN that can't stand there, or is none", at its first byte. */
    private static void wrongTokens() {
        fault("set gap ;", 1, 8);
        fault("set gap gap;", 1, 8);
        fault("set gap -1;", 1, 8);
        fault("set gap 1,2;", 1, 9);
        fault("set gap 1+2;", 1, 9);
        fault("set gap 1;;", 1, 10);
        fault("set ;", 1, 4);
        fault("set 1;", 1, 4);
        fault("set (gap) 1;", 1, 4);
        fault("insure;", 1, 6);
        fault("insure ,1;", 1, 7);
        fault("insure 1,,2;", 1, 9);
        fault("insure 1 and 2;", 1, 9);
        fault("insure 1;2;", 1, 9);
        fault("insure age;", 1, 7);
        fault("insure (1);", 1, 7);
        fault("like 1 ;", 1, 7);
        fault("like 1 2;", 1, 7);
        fault("like age 5;", 1, 9);
        fault("like 1 pay 5;", 1, 7);
        fault("like 1 bar ;", 1, 11);
        fault("like 1 bar age;", 1, 11);
        fault("like 1 bar (5);", 1, 11);
        fault("like 1 bar 5 6;", 1, 13);
        fault("like bar 5;", 3, 5);
        fault("pay 1 unless ;", 1, 13);
        fault("pay 1 unless 1 bar 5;", 1, 15);
        fault("pay unless 1;", 3, 4);
        fault("pay 1 not 1;", 1, 6);
        fault("pay 1 age;", 1, 6);
        fault("pay 1 hello;", 1, 6);
        fault("pay (1 hello);", 1, 7);
        fault("pay 1 (2);", 1, 6);
        fault("pay (1;", 1, 6);
        fault("pay 1);", 1, 5);
        fault("pay (1));", 1, 7);
        fault("pay 1 = 1 = 1;", 1, 10);
        fault("pay 1 < 1 = 1;", 1, 10);
        good("pay (1 < 1) = 1;");
        good("pay 1 < 1 and 1 = 1;");
        fault("pay + 1;", 1, 4);
        fault("pay 1 + + 1;", 1, 8);
        fault("pay 1 * / 1;", 1, 8);
        fault("pay 1 and or 1;", 3, 10);
        fault("pay 1 and and 1;", 3, 10);
        fault("pay 1 and < 1;", 1, 10);
    }

    /** FAULT 3 "a word where a PART must stand that is no VALUE". */
    private static void wordsWhereAPartMustStand() {
        String[] values = {"wait", "gap", "rate", "days", "per", "extra", "stamp", "court", "age", "trade", "usual", "out",
            "paid", "stamps", "unknown", "means", "reason", "miles", "wage", "same"};
        for (String v : values) {
            good("pay " + v + ";");
            good("suit not (1 + " + v + ") < 2;");
            fault("pay " + v + "x;", 3, 4);
            fault("pay x" + v + ";", 3, 4);
            if (!v.equals("stamps")) {
                fault("pay 1 + " + v.substring(0, v.length() - 1) + ";", 3, 8);
            }
            if (!v.equals("wage")) {
                fault("pay " + v.substring(1) + ";", 3, 4);
            }
        }
        for (String word : new String[] {"insure", "set", "pay", "needy", "bar", "suit", "like", "unless", "or", "and"}) {
            fault("pay " + word + " 1;", 3, 4);
            fault("pay not " + word + ";", 3, 8);
            fault("pay 1 + " + word + ";", 3, 8);
            fault("pay (" + word + ");", 3, 5);
        }
        for (String sign : new String[] {"+", "-", "*", "/", "<", "="}) {
            fault("pay 1 " + sign + " not 1;", 3, 8);
            good("pay 1 " + sign + " (not 1);");
        }
    }

    /** FAULT 3 "where a PARAM must [stand] that is none". */
    private static void paramsWhereOneMustStand() {
        String[] params = {"wait", "gap", "rate", "days", "per", "extra", "stamp", "court"};
        for (int i = 0; i < params.length; i++) {
            Land land = Land.of(1);
            CHECK.due("set " + params[i], 0, land.text("set " + params[i] + " 777;"));
            for (int k = 0; k < params.length; k++) {
                CHECK.due("which is PARAM " + k, k == i, land.x.law(k, 312) == 777);
            }
            fault("set " + params[i] + "x 1;", 3, 4);
            fault("set " + params[i].substring(1) + " 1;", 3, 4);
            fault("set x" + params[i] + " 1;", 3, 4);
        }
        for (String word : new String[] {"age", "trade", "usual", "out", "paid", "stamps", "unknown", "means", "reason",
            "miles", "wage", "same", "insure", "set", "pay", "bar", "unless", "not", "a"}) {
            fault("set " + word + " 1;", 3, 4);
        }
    }

    /** "the first along the text, at a TOKEN's first byte". */
    private static void placeOfTheFault() {
        fault("insure 9; set x 1; ?", 2, 7);
        fault("insure 1; set x 1; insure 9;", 3, 14);
        fault("insure 1; set gap 1; ? insure 9;", 1, 21);
        fault("pay    hello;", 3, 7);
        fault("pay\n\n123456;", 2, 5);
        fault("   ;", 1, 3);
        fault("pay 1  ", 1, 7);
        fault("set gap 1 1000000;", 1, 10);
        fault("insure 1 1;", 1, 9);
    }

    /** Promise 9: "The place of the FAULT of the latest text(), attempt(); NONE without". */
    private static void latestFault() {
        Land land = Land.of(1);
        LabourExchange x = land.x;
        CHECK.due("none at first", -1, x.fault());
        land.text("pay ?;");
        CHECK.due("of a TEXT", 4, x.fault());
        land.attempt("pay 1 ?;");
        CHECK.due("of a TRY", 6, x.fault());
        CHECK.badArgument("an exception", () -> x.attempt(1, 312, 400));
        CHECK.badArgument("another one", () -> x.text(-1, 312, 400));
        CHECK.due("changes nothing", 6, x.fault());
        land.attempt("pay 1;");
        CHECK.due("a TRY without", -1, x.fault());
        land.text("pay ?;");
        land.text("pay 1;");
        CHECK.due("a TEXT without", -1, x.fault());
        land.text("?");
        CHECK.due("at the first byte", 0, x.fault());
        x.text(0, 312, 400);
        CHECK.due("none in nothing", -1, x.fault());
        land.text("?");
        CHECK.due("DAYS are not as told", -9, x.text(0, -1, 400));
        CHECK.due("which is no FAULT", -1, x.fault());
        land.text("?");
        CHECK.due("nor in a TRY", 9, x.attempt(0, 312, 936));
        CHECK.due("is it one", -1, x.fault());
    }

    /** Long TEXTS that end in a FAULT, one behind the other: each is forgotten whole. */
    private static void manyFaults() {
        Land land = Land.of(1);
        LabourExchange x = land.x;
        String longText = "pay 1" + "+1".repeat(280);
        for (int i = 0; i < 6; i++) {
            CHECK.due("fault " + i, -2, land.text(longText));
            CHECK.due("attempt " + i, 0, land.attempt(longText + ";"));
        }
        land.text("insure 0;set wait 0;" + longText + ";");
        land.fullRow(0, 0, 6);
        x.event(0, 0, 0, 312);
        x.event(2, 0, 0, 312);
        CHECK.due("the whole sum", 281, x.day(0, 312, 1));
    }

    /** What a TEXT had told ahead of its FAULT isn't in the next one, however long that is. */
    private static void halfReadText() {
        String all = "pay 9;needy 9;bar 9;suit 0;like 1 bar 9;like 1 bar 9;insure 1;set gap 9;set wait 9;?";
        Land land = Land.of(1);
        LabourExchange x = land.x;
        land.text(all);
        land.text("insure 0;set wait 0;set days 1;pay 1+1+1+1+1+1+1+1+1+1+1+1+1+1+1+1+1+1+1+1+1+1+1+1+1+1+1+1+1;");
        land.fullRow(0, 0, 6);
        x.event(0, 0, 0, 312);
        x.event(2, 0, 0, 312);
        x.vacancy(0, 0, 5, 5);
        CHECK.due("not barred", 3, x.day(0, 312, 0));
        CHECK.due("its own 'pay'", 29, x.day(0, 312, 1));
        CHECK.due("SUITABLE", 1, x.offerOf(x.offer(0, 0), 2));
        CHECK.due("gap", 18, x.law(1, 312));
        CHECK.due("trade 1", 0, x.law(11, 312));
        x.days(1);
        CHECK.due("not NEEDY", 0, x.day(0, 313, 0));
    }
}
