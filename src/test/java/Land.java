/** A land for the tests, with the bytes of texts and rows put onto the tape as calls of feed. */
final class Land {
    final LabourExchange x = new LabourExchange();

    /** A land with one office and so many people of trades 0, 1, 2 .., thirty years old, wage 20, family 5, 6, 7 .. */
    static Land of(int people) {
        Land land = new Land();
        land.x.office(0, 0);
        for (int i = 0; i < people; i++) {
            land.x.person(i % 8, 30, 0, 20, 5 + i);
        }
        return land;
    }

    /** One person with a full row, who left and signed on 312, under 'insure 0;' and this. */
    static Land withClaim(String text) {
        Land land = Land.of(1);
        land.text("insure 0;" + text);
        land.fullRow(0, 0, 6);
        land.x.event(0, 0, 0, 312);
        land.x.event(2, 0, 0, 312);
        return land;
    }

    /**
     * A land in which something of everything is told. TODAY is 330, THE DAY 326; forty bytes are on the tape. Person 0
     * was hired away from a CLAIM, person 1 has an open one, person 2 is IN WORK. VACANCY 0 is filled, 3 is not KNOWN at
     * office 0 yet. CASE 0 is closed, CASE 1 is not; there is no court for person 1.
     */
    static Land whole() {
        Land land = Land.of(3);
        LabourExchange x = land.x;
        x.office(30, 40);
        land.text("insure 0,1;set wait 1;bar 2;suit wage < 50;needy 1 unless 5 < means;");
        land.fullRow(0, 0, 6);
        land.fullRow(1, 0, 3);
        x.returns(0, 51, 5);
        x.returns(1, 60, 4);
        for (int p = 0; p < 2; p++) {
            x.event(0, p, 2, 312);
            x.event(2, p, 0, 312);
        }
        x.event(0, 0, 1, 312);
        x.days(9);
        x.vacancy(0, 0, 30, 40);
        x.vacancy(1, 1, 60, 30);
        x.vacancy(0, 2, 25, 9);
        int[][] judges = {{0, 1}, {1, 1}, {2, 6}};
        for (int[] judge : judges) {
            x.judge(judge[0], judge[1]);
        }
        x.offer(0, 0);
        x.offer(1, 2);
        x.answer(1, false);
        x.days(3);
        x.offer(1, 1);
        x.offer(1, 0);
        x.answer(0, true);
        x.appeal(0);
        x.appeal(4);
        x.close(0, true);
        x.event(5, 1, 8, 320);
        x.back(8);
        x.price(0, 1, 7);
        x.price(1, 2, 5);
        x.send();
        land.attempt("pay 15;");
        x.days(6);
        x.vacancy(1, 1, 30, 30);
        x.look(326);
        x.feed(0x01020304, 0x05060001, 0x02030405, 0x06000102, 0x03040506);
        x.feed(0x06050403, 0x02010006, 0x05040302, 0x01000605, 0x04030201);
        return land;
    }

    /** Feeds at least these bytes, blanks behind them. */
    static void feed(LabourExchange x, byte[] bytes) {
        for (int at = 0; at < bytes.length; at += 20) {
            int[] five = new int[5];
            for (int i = 0; i < 20; i++) {
                int b = at + i < bytes.length ? bytes[at + i] & 255 : ' ';
                five[i / 4] = five[i / 4] << 8 | b;
            }
            x.feed(five[0], five[1], five[2], five[3], five[4]);
        }
    }

    static byte[] bytes(String text) {
        byte[] bytes = new byte[text.length()];
        for (int i = 0; i < bytes.length; i++) {
            bytes[i] = (byte) text.charAt(i);
        }
        return bytes;
    }

    int text(String text, int from, int to) {
        feed(x, bytes(text));
        return x.text(text.length(), from, to);
    }

    int text(String text) {
        return text(text, 0, 935);
    }

    int attempt(String text) {
        feed(x, bytes(text));
        return x.attempt(text.length(), 0, 935);
    }

    boolean row(int person, int year, int... stamps) {
        byte[] bytes = new byte[stamps.length];
        for (int i = 0; i < bytes.length; i++) {
            bytes[i] = (byte) stamps[i];
        }
        feed(x, bytes);
        return x.book(person, year, bytes.length);
    }

    boolean fullRow(int person, int year, int stamps) {
        int[] all = new int[52];
        java.util.Arrays.fill(all, stamps);
        return row(person, year, all);
    }
}
