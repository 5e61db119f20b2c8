/** A land for the tests, with the bytes of texts and rows put onto the tape as calls of feed. */
final class Land {
    final LabourExchange x = new LabourExchange();

    /** A land with one office and so many people of trades 0, 1, 2 .., thirty years old, wage 20, family 5, 6, 7 .. */
    static Land of(int people) {
        Land land = new Land();
        land.x.office(0, 0);
        for (int i = 0; i < people; i++) {
            land.x.person(i % 8, 30, 0, 20, 5 + i);
        }
        return land;
    }

    /** One person with a full row, who left and signed on 312, under 'insure 0;' and this. */
    static Land withClaim(String text) {
        Land land = Land.of(1);
        land.text("insure 0;" + text);
        land.fullRow(0, 0, 6);
        land.x.event(0, 0, 0, 312);
        land.x.event(2, 0, 0, 312);
        return land;
    }

    /** Feeds at least these bytes, blanks behind them. */
    static void feed(LabourExchange x, byte[] bytes) {
        for (int at = 0; at < bytes.length; at += 20) {
            int[] five = new int[5];
            for (int i = 0; i < 20; i++) {
                int b = at + i < bytes.length ? bytes[at + i] & 255 : ' ';
                five[i / 4] = five[i / 4] << 8 | b;
            }
            x.feed(five[0], five[1], five[2], five[3], five[4]);
        }
    }

    static byte[] bytes(String text) {
        byte[] bytes = new byte[text.length()];
        for (int i = 0; i < bytes.length; i++) {
            bytes[i] = (byte) text.charAt(i);
        }
        return bytes;
    }

    int text(String text, int from, int to) {
        feed(x, bytes(text));
        return x.text(text.length(), from, to);
    }

    int text(String text) {
        return text(text, 0, 935);
    }

    int attempt(String text) {
        feed(x, bytes(text));
        return x.attempt(text.length(), 0, 935);
    }

    boolean row(int person, int year, int... stamps) {
        byte[] bytes = new byte[stamps.length];
        for (int i = 0; i < bytes.length; i++) {
            bytes[i] = (byte) stamps[i];
        }
        feed(x, bytes);
        return x.book(person, year, bytes.length);
    }

    boolean fullRow(int person, int year, int stamps) {
        int[] all = new int[52];
        java.util.Arrays.fill(all, stamps);
        return row(person, year, all);
    }
}
