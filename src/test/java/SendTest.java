import java.math.BigInteger;
import java.util.Random;

/** Promises 26 to 29: sending for the greatest sum, and the prices that prove it. */
public final class SendTest {
    private static final Check CHECK = new Check();

    public static void main(String[] args) {
        pairs();
        ties();
        kept();
        prices();
        proves();
        for (int seed = 1; seed <= 60; seed++) {
            int vacancies = seed % 5 == 0 ? 24 : 4 + seed % 19;
            int[] least = {10, 1, 14};
            int[] spread = {3, 9, 4, 60};
            greatLand(new Random(seed), vacancies, least[seed % 3], spread[seed % 4]);
        }
        CHECK.end();
    }

    /** A land with so many people, all with open claims, at the first of three offices. */
    private static Land land(int people, String text) {
        return land(new int[people], text);
    }

    /** A land with people at such offices. */
    private static Land land(int[] officeOf, String text) {
        Land land = Land.of(0);
        int people = officeOf.length;
        land.x.office(50, 60);
        land.x.office(0, 9);
        for (int p = 0; p < people; p++) {
            land.x.person(p % 4, 30, officeOf[p], 20, 5);
        }
        land.text("insure 0,1,2,3;" + text);
        for (int p = 0; p < people; p++) {
            land.x.event(0, p, 0, 312);
            land.x.event(2, p, 0, 312);
        }
        return land;
    }

    private static void sent(String what, LabourExchange x, int... want) {
        for (int p = 0; p < want.length; p++) {
            CHECK.due(what + ", person " + p, want[p], x.sent(p));
        }
    }

    private static void pairs() {
        Land land = land(3, "suit same or wage = 9;");
        LabourExchange x = land.x;
        CHECK.noElement("sent nobody", () -> x.sent(3));
        CHECK.noElement("sent -1", () -> x.sent(-1));
        sent("nothing is kept", x, -1, -1, -1);
        CHECK.due("no VACANCY", 0, x.send());
        x.vacancy(1, 0, 5, 20);
        x.vacancy(2, 0, 5, 20);
        x.vacancy(1, 1, 5, 11);
        x.vacancy(1, 1, 5, 12);
        CHECK.due("9 miles away: known tomorrow, nothing TODAY", 0, x.send());
        sent("no pair", x, -1, -1, -1);
        x.days(1);
        CHECK.due("9 miles are no GAIN less", 20, x.send());
        sent("the near one", x, 1, -1, -1);
        x.days(2);
        CHECK.due("110 miles: 11 less; above 0 alone", 21, x.send());
        sent("two", x, 1, 3, -1);
        x.vacancy(0, 3, 9, 4);
        CHECK.due("one that suits all goes to him who has no other", 25, x.send());
        sent("three", x, 1, 3, 4);
        x.event(3, 2, 0, 315);
        CHECK.due("whose CLAIM is closed is not sent", 24, x.send());
        sent("two again, and the better one", x, 1, 4, -1);
        x.answer(x.offer(1, 4), true);
        CHECK.due("filled, and hired", 20, x.send());
        sent("one", x, 1, -1, -1);
    }

    private static void ties() {
        LabourExchange x = land(3, "").x;
        for (int v = 0; v < 4; v++) {
            x.vacancy(0, 0, 5, 7);
        }
        CHECK.due("like ones", 21, x.send());
        sent("the first as a row", x, 0, 1, 2);
        LabourExchange one = land(2, "").x;
        one.vacancy(0, 0, 5, 7);
        CHECK.due("one for two", 7, one.send());
        CHECK.due("and asked again", 7, one.send());
        sent("the first", one, 0, -1);
        LabourExchange y = land(3, "").x;
        y.vacancy(0, 0, 5, 7);
        y.vacancy(0, 0, 5, 7);
        CHECK.due("two for three", 14, y.send());
        sent("none behind all", y, 0, 1, -1);
        LabourExchange z = land(3, "suit not (trade = 1) or wage = 5;suit not (trade = 0) or wage < 7;").x;
        z.vacancy(0, 0, 6, 7);
        z.vacancy(0, 0, 5, 7);
        z.vacancy(0, 0, 7, 7);
        CHECK.due("one must step back", 21, z.send());
        sent("the second suits one alone", z, 0, 1, 2);
    }

    private static void kept() {
        Land land = land(2, "");
        LabourExchange x = land.x;
        x.vacancy(0, 0, 5, 7);
        x.vacancy(0, 0, 5, 9);
        x.send();
        sent("two", x, 0, 1);
        x.event(1, 0, 5, 312);
        x.answer(x.offer(1, 0), false);
        sent("it is kept", x, 0, 1);
        x.person(0, 30, 0, 20, 5);
        CHECK.due("one who came later", -1, x.sent(2));
        x.send();
        sent("till the next", x, -1, 1, -1);
    }

    /** Promise 28. */
    private static void prices() {
        LabourExchange x = land(2, "").x;
        x.vacancy(0, 0, 5, 7);
        CHECK.due("what -1", false, x.price(-1, 0, 5));
        CHECK.due("what 2", false, x.price(2, 0, 5));
        CHECK.due("person 2", false, x.price(0, 2, 5));
        CHECK.due("person -1", false, x.price(0, -1, 5));
        CHECK.due("vacancy 1", false, x.price(1, 1, 5));
        CHECK.due("v -1", false, x.price(0, 0, -1));
        CHECK.due("v 10000", false, x.price(1, 0, 10000));
        CHECK.due("person 1", true, x.price(0, 1, 9999));
        CHECK.due("person 0", true, x.price(0, 0, 9999));
        CHECK.due("vacancy 0", true, x.price(1, 0, 9999));
        CHECK.due("their sum", 29997, x.proves());
        x.price(0, 0, 0);
        CHECK.due("told anew", 19998, x.proves());
    }

    /** Promise 29. */
    private static void proves() {
        Land land = land(2, "");
        LabourExchange x = land.x;
        CHECK.due("no pairs: nothing to prove", 0, x.proves());
        x.vacancy(0, 0, 5, 7);
        x.vacancy(2, 0, 5, 9);
        CHECK.due("not proved", -1, x.proves());
        x.price(0, 0, 6);
        x.price(0, 1, 7);
        CHECK.due("one is short by one", -1, x.proves());
        x.price(1, 0, 1);
        CHECK.due("just at the GAIN", 14, x.proves());
        x.days(1);
        CHECK.due("the other is KNOWN now", -1, x.proves());
        x.price(1, 1, 3);
        CHECK.due("proved again", 17, x.proves());
        x.price(1, 1, 2);
        CHECK.due("short by one", -1, x.proves());
        x.event(3, 0, 0, 313);
        CHECK.due("no CLAIM of the first, and the second has 7 and 2", 16, x.proves());
    }

    /** Twenty people and many vacancies: the answer against sums that no two sendings share. */
    private static void greatLand(Random random, int n, int leastWorth, int worths) {
        int[] officeOf = new int[20];
        for (int p = 0; p < 20; p++) {
            officeOf[p] = random.nextInt(3);
        }
        Land land = land(officeOf, "suit not (trade = 0) or wage < 4;suit not (trade = 1) or wage = 3 or wage = 5;"
            + "suit not (trade = 2) or 4 < wage;");
        LabourExchange x = land.x;
        int[] wage = new int[n];
        int[] worth = new int[n];
        int[] office = new int[n];
        int[][] miles = {{0, 110, 9}, {110, 0, 101}, {9, 101, 0}};
        for (int v = 0; v < n; v++) {
            office[v] = random.nextInt(3);
            wage[v] = 1 + random.nextInt(7);
            worth[v] = leastWorth + random.nextInt(worths);
            CHECK.due("vacancy", v, x.vacancy(office[v], 0, wage[v], worth[v]));
        }
        x.days(3);
        int[][] gain = new int[20][n];
        for (int p = 0; p < 20; p++) {
            for (int v = 0; v < n; v++) {
                int trade = p % 4;
                boolean suits = trade == 0 ? wage[v] < 4 : trade == 1 ? wage[v] == 3 || wage[v] == 5
                    : trade == 2 ? wage[v] > 4 : true;
                gain[p][v] = suits ? Math.max(0, worth[v] - miles[officeOf[p]][office[v]] / 10) : 0;
            }
        }
        int[] best = best(gain, n);
        int sum = 0;
        for (int p = 0; p < 20; p++) {
            sum += best[p] < 0 ? 0 : gain[p][best[p]];
        }
        CHECK.due("great land", sum, x.send());
        sent("great land of " + n, x, best);
    }

    /** The best row: GAIN counts first, then each person's wish for a low number, the first person's above all. */
    private static int[] best(int[][] gain, int n) {
        BigInteger base = BigInteger.valueOf(n + 1);
        int size = gain.length + n;
        BigInteger[][] cost = new BigInteger[size + 1][size + 1];
        for (int i = 1; i <= size; i++) {
            for (int j = 1; j <= size; j++) {
                cost[i][j] = BigInteger.ZERO;
                if (i <= gain.length && j <= n && gain[i - 1][j - 1] > 0) {
                    cost[i][j] = base.pow(gain.length + 1).multiply(BigInteger.valueOf(gain[i - 1][j - 1]))
                        .add(base.pow(gain.length - i).multiply(BigInteger.valueOf(n + 1 - j))).negate();
                }
            }
        }
        int[] columnOf = assign(cost, size);
        int[] row = new int[gain.length];
        for (int p = 0; p < gain.length; p++) {
            int v = columnOf[p + 1] - 1;
            row[p] = v < n && gain[p][v] > 0 ? v : -1;
        }
        return row;
    }

    private static int[] assign(BigInteger[][] cost, int n) {
        BigInteger far = BigInteger.TEN.pow(60);
        BigInteger[] u = new BigInteger[n + 1];
        BigInteger[] v = new BigInteger[n + 1];
        java.util.Arrays.fill(u, BigInteger.ZERO);
        java.util.Arrays.fill(v, BigInteger.ZERO);
        int[] row = new int[n + 1];
        int[] way = new int[n + 1];
        for (int i = 1; i <= n; i++) {
            row[0] = i;
            int j0 = 0;
            BigInteger[] least = new BigInteger[n + 1];
            java.util.Arrays.fill(least, far);
            boolean[] used = new boolean[n + 1];
            while (row[j0] != 0) {
                used[j0] = true;
                BigInteger delta = far;
                int j1 = 0;
                for (int j = 1; j <= n; j++) {
                    if (!used[j]) {
                        BigInteger over = cost[row[j0]][j].subtract(u[row[j0]]).subtract(v[j]);
                        if (over.compareTo(least[j]) < 0) {
                            least[j] = over;
                            way[j] = j0;
                        }
                        if (least[j].compareTo(delta) < 0) {
                            delta = least[j];
                            j1 = j;
                        }
                    }
                }
                for (int j = 0; j <= n; j++) {
                    if (used[j]) {
                        u[row[j]] = u[row[j]].add(delta);
                        v[j] = v[j].subtract(delta);
                    } else {
                        least[j] = least[j].subtract(delta);
                    }
                }
                j0 = j1;
            }
            while (j0 != 0) {
                row[j0] = row[way[j0]];
                j0 = way[j0];
            }
        }
        int[] columnOf = new int[n + 1];
        for (int j = 1; j <= n; j++) {
            columnOf[row[j]] = j;
        }
        return columnOf;
    }
}
