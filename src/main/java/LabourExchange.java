import java.util.Arrays;
import java.util.NoSuchElementException;

/**
 * Labour exchanges of a land: books of stamps, texts of law, claims worked anew from what is known on any day,
 * weekly payments from a fund, vacancies and offers, courts, and tries of texts. See README.md.
 */
public final class LabourExchange {
    /** There is none. */
    public static final int NONE = -1;

    private static final int FIRST_DAY = 312;
    private static final int LAST_DAY = 935;
    private static final int DAYS = 936;
    private static final int WEEK_DAYS = 6;
    private static final int YEARS = 3;
    private static final int YEAR_WEEKS = 52;
    private static final int WEEKS = 156;
    private static final int MOST_STAMPS = 6;
    private static final int MOST_DAYS_AT_ONCE = 120;
    private static final int MOST_OFFICES = 8;
    private static final int MOST_PEOPLE = 20;
    private static final int MOST_ROWS = 60;
    private static final int MOST_RETURNS = 100;
    private static final int MOST_EVENTS = 160;
    private static final int MOST_TEXTS = 16;
    private static final int MOST_BYTES = 600;
    private static final int MOST_VACANCIES = 24;
    private static final int MOST_OFFERS = 60;
    private static final int MOST_JUDGES = 18;
    private static final int MOST_CASES = 30;
    private static final int MOST_WAGE = 999;
    private static final int MOST_PENCE = 9999;
    private static final int TRADES = 8;
    private static final int TEXT_REFUSED = 9;

    private final Reader reader = new Reader();
    private final Land land = new Land();
    private final Books books = new Books();
    private final Events events = new Events();
    private final Act[] acts = new Act[MOST_TEXTS + 1];
    private final Market market = new Market(land);
    private final Sending sending = new Sending();
    private final Courts courts = new Courts();
    private final View now;
    private final View then;
    private final int[] more = new int[(TRADES + 1) * Life.TOTALS];
    private int texts;
    private boolean wasTried;
    private int today = FIRST_DAY;
    private int theDay = NONE;

    /** A land on DAY 312 of which nothing is told. */
    public LabourExchange() {
        for (int i = 0; i < acts.length; i++) {
            acts[i] = new Act();
        }
        now = new View(land, books, events, market, acts, true);
        then = new View(land, books, events, market, acts, false);
    }

    /** Promise 2: tells an OFFICE. */
    public int office(int x, int y) {
        if (land.offices >= MOST_OFFICES || outside(x, 0, 99) || outside(y, 0, 99)) {
            return NONE;
        }
        return land.addOffice(x, y);
    }

    /** Promise 3: tells one of the PEOPLE. */
    public int person(int trade, int age, int office, int wage, int family) {
        if (land.people >= MOST_PEOPLE || outside(trade, 0, TRADES - 1) || outside(age, 14, 90)) {
            return NONE;
        }
        if (outside(office, 0, land.offices - 1) || outside(wage, 1, MOST_WAGE) || outside(family, 0, 99)) {
            return NONE;
        }
        return land.addPerson(trade, age, office, wage, family);
    }

    /** Promise 4: twenty bytes come behind the tape. */
    public int feed(int a, int b, int c, int d, int e) {
        if (reader.size > MOST_BYTES - 20) {
            return NONE;
        }
        reader.append(a);
        reader.append(b);
        reader.append(c);
        reader.append(d);
        reader.append(e);
        return reader.size;
    }

    /** Promise 5: the tape's first n bytes are a row of a person's BOOK. */
    public boolean book(int person, int year, int n) throws NoSuchElementException {
        requirePerson(person);
        if (outside(year, 0, YEARS - 1) || outside(n, NONE, YEAR_WEEKS) || n > reader.size) {
            return false;
        }
        if (books.rowCount >= MOST_ROWS) {
            return false;
        }
        books.addRow(person, year, n, today, reader.tape);
        if (n != NONE) {
            reader.clear();
        }
        land.noteChange(person);
        return true;
    }

    /** Promise 6: a RETURN of a master. */
    public boolean returns(int person, int week, int days) throws NoSuchElementException {
        requirePerson(person);
        if (outside(week, 0, WEEKS - 1) || outside(days, NONE, WEEK_DAYS) || books.returnCount >= MOST_RETURNS) {
            return false;
        }
        books.addReturn(person, week, days, today);
        land.noteChange(person);
        return true;
    }

    /** Promise 7: STAMPS of a WEEK as known on THE DAY. */
    public int stamps(int person, int week) throws NoSuchElementException {
        requirePerson(person);
        requireElement(week, WEEKS);
        int on = dayKnown();
        int inRow = books.stampsInRow(person, week, on);
        int returned = books.daysReturned(person, week, on);
        if (inRow == NONE) {
            return returned;
        }
        return returned == NONE || returned == inRow ? inRow : 10 + inRow;
    }

    /** Promise 8: the tape's first n bytes are a TEXT. */
    public int text(int n, int from, int to) throws IllegalArgumentException {
        requireOnTape(n);
        if (texts >= MOST_TEXTS || outside(from, 0, LAST_DAY) || outside(to, 0, LAST_DAY)) {
            reader.refuse();
            return -TEXT_REFUSED;
        }
        int fault = reader.read(n, acts[texts]);
        if (fault != 0) {
            return -1 - fault;
        }
        acts[texts].reign(from, to, today);
        texts++;
        return texts - 1;
    }

    /** Promise 9: where the FAULT of the latest TEXT is. */
    public int fault() {
        return reader.place;
    }

    /** Promise 10: tells an EVENT of kind 0 to 6. */
    public int event(int kind, int person, int number, int day) throws NoSuchElementException {
        requirePerson(person);
        requireElement(kind, Events.REFUSES);
        boolean numberIsBad = outside(number, Events.leastNumber(kind), Events.mostNumber(kind));
        if (events.count >= MOST_EVENTS || numberIsBad || outside(day, FIRST_DAY, today)) {
            return NONE;
        }
        return tell(kind, person, number, day);
    }

    /** Promise 11: takes an EVENT back. */
    public boolean back(int event) throws NoSuchElementException {
        requireElement(event, events.count);
        if (events.takenBack[event] != NONE) {
            return false;
        }
        events.takenBack[event] = today;
        land.noteChange(events.person[event]);
        return true;
    }

    /** Promise 12: what was told of an EVENT. */
    public int told(int event, int what) throws NoSuchElementException {
        requireElement(event, events.count);
        switch (what) {
            case 0:
                return events.kind[event];
            case 1:
                return events.person[event];
            case 2:
                return events.number[event];
            case 3:
                return events.from[event];
            case 4:
                return events.told[event];
            case 5:
                return events.takenBack[event];
            case 6:
                return doesSomething(event) ? 1 : 0;
            default:
                throw new NoSuchElementException();
        }
    }

    /** Promise 13: DAYS go by, and WEEKS are paid. */
    public int days(int n) throws IllegalArgumentException {
        if (outside(n, 0, MOST_DAYS_AT_ONCE) || n > LAST_DAY - today) {
            throw new IllegalArgumentException();
        }
        for (int i = 0; i < n; i++) {
            if (today % WEEK_DAYS == WEEK_DAYS - 1) {
                payWeek();
            }
            today++;
        }
        return today;
    }

    /** Promise 14: sets THE DAY as known on which all is told. */
    public int look(int day) throws IllegalArgumentException {
        if (day != NONE && outside(day, FIRST_DAY, today)) {
            throw new IllegalArgumentException();
        }
        int before = theDay;
        theDay = day;
        return before;
    }

    /** Promise 15: what a DAY was for a person. */
    public int day(int person, int day, int what) throws NoSuchElementException {
        requirePerson(person);
        if (outside(day, FIRST_DAY, dayKnown()) || outside(what, 0, 3)) {
            throw new NoSuchElementException();
        }
        Life life = asOfTheDay().lifeOf(person);
        switch (what) {
            case 0:
                return life.kindOn(day);
            case 1:
                return life.payOn(day);
            case 2:
                return life.actOn(day);
            default:
                return life.claimOn(day);
        }
    }

    /** Promise 16: what is known of a person's CLAIM. */
    public int claim(int person, int number, int what) throws NoSuchElementException {
        requirePerson(person);
        requireElement(what, Life.CLAIM_ROW);
        Life life = asOfTheDay().lifeOf(person);
        requireElement(number, life.claimCount);
        return life.claims[number * Life.CLAIM_ROW + what];
    }

    /** Promise 17: a VALUE of a person TODAY. */
    public long value(int person, int what) throws NoSuchElementException {
        requirePerson(person);
        requireElement(what, Law.REASON - Law.AGE + 1);
        View view = asOfToday();
        view.lifeOf(person).setOut(today);
        return view.law.values[Law.AGE + what];
    }

    /** Promise 18: a PARAM, or whether a TRADE is insured. */
    public int law(int what, int day) throws NoSuchElementException {
        requireElement(day, DAYS);
        boolean ofTrade = what >= 10;
        requireElement(ofTrade ? what - 10 : what, ofTrade ? TRADES : Law.PARAMS);
        Law law = asOfTheDay().law;
        if (ofTrade) {
            return law.insures(what - 10, day) ? 1 : 0;
        }
        return law.param(what, day);
    }

    /** Promise 19: what was paid to a person. */
    public int paid(int person, int what) throws NoSuchElementException {
        requirePerson(person);
        switch (what) {
            case 0:
                return land.received[person];
            case 1:
                return land.owed[person];
            case 2:
                return asOfTheDay().lifeOf(person).totals[Life.TOTAL_PAY];
            default:
                throw new NoSuchElementException();
        }
    }

    /** Promise 20: THE FUND. */
    public int fund(int what) throws NoSuchElementException {
        switch (what) {
            case 0:
                return land.has;
            case 1:
                return land.got;
            case 2:
                return land.gave;
            case 3:
                return land.lasts();
            default:
                throw new NoSuchElementException();
        }
    }

    /** Promise 21: tells a VACANCY. */
    public int vacancy(int office, int trade, int wage, int worth) {
        if (market.vacancies >= MOST_VACANCIES || outside(office, 0, land.offices - 1)) {
            return NONE;
        }
        if (outside(trade, 0, TRADES - 1) || outside(wage, 1, MOST_WAGE) || outside(worth, 0, 999)) {
            return NONE;
        }
        return market.addVacancy(office, trade, wage, worth, today);
    }

    /** Promise 22: from which DAY a VACANCY is KNOWN at an OFFICE. */
    public int known(int vacancy, int office) throws NoSuchElementException {
        requireElement(vacancy, market.vacancies);
        requireElement(office, land.offices);
        return market.knownFrom(vacancy, office);
    }

    /** Promise 23: offers a VACANCY to one of the PEOPLE. */
    public int offer(int person, int vacancy) throws NoSuchElementException {
        requirePerson(person);
        requireElement(vacancy, market.vacancies);
        if (market.offers >= MOST_OFFERS || !market.isOpenTo(person, vacancy, today)) {
            return NONE;
        }
        Life life = asOfToday().lifeOf(person);
        return life.open ? market.addOffer(life, vacancy, today) : NONE;
    }

    /** Promise 24: what is known of an OFFER. */
    public int offerOf(int offer, int what) throws NoSuchElementException {
        requireElement(offer, market.offers);
        switch (what) {
            case 0:
                return market.offered[offer];
            case 1:
                return market.vacancy[offer];
            case 2:
                return market.objection[offer] == NONE ? 1 : 0;
            case 3:
                return market.objection[offer];
            case 4:
                return market.fate[offer];
            default:
                throw new NoSuchElementException();
        }
    }

    /** Promise 25: an OFFER is taken or refused. */
    public int answer(int offer, boolean taken) throws NoSuchElementException {
        requireElement(offer, market.offers);
        int vacancy = market.vacancy[offer];
        if (market.fate[offer] != Market.NOTHING_YET || events.count >= MOST_EVENTS) {
            return NONE;
        }
        if (taken && market.filled[vacancy]) {
            return NONE;
        }
        if (!taken) {
            market.fate[offer] = Market.REFUSED;
            return tell(Events.REFUSES, market.offered[offer], offer, today);
        }
        market.fate[offer] = Market.TAKEN;
        market.filled[vacancy] = true;
        return tell(Events.HIRED, market.offered[offer], market.wage[vacancy], today);
    }

    /** Promise 26: sends PEOPLE to VACANCIES for the greatest sum of GAINS. */
    public int send() {
        tellGains();
        return sending.sendBest(land.people, market.vacancies);
    }

    /** Promise 27: the VACANCY to which a person is SENT. */
    public int sent(int person) throws NoSuchElementException {
        requirePerson(person);
        return sending.sentTo[person];
    }

    /** Promise 28: tells a PRICE. */
    public boolean price(int what, int number, int v) {
        if (outside(what, 0, 1) || outside(v, 0, MOST_PENCE)) {
            return false;
        }
        if (outside(number, 0, (what == 0 ? land.people : market.vacancies) - 1)) {
            return false;
        }
        (what == 0 ? market.personPrice : market.vacancyPrice)[number] = v;
        return true;
    }

    /** Promise 29: the sum of all PRICES, if they PROVE it. */
    public int proves() {
        tellGains();
        int sum = 0;
        for (int p = 0; p < land.people; p++) {
            for (int v = 0; v < market.vacancies; v++) {
                if (market.personPrice[p] + market.vacancyPrice[v] < sending.gain[p][v]) {
                    return NONE;
                }
            }
            sum += market.personPrice[p];
        }
        for (int v = 0; v < market.vacancies; v++) {
            sum += market.vacancyPrice[v];
        }
        return sum;
    }

    /** Promise 30: tells a JUDGE. */
    public int judge(int list, int family) {
        if (courts.judges >= MOST_JUDGES || outside(list, 0, Courts.LISTS - 1) || outside(family, 0, 99)) {
            return NONE;
        }
        return courts.addJudge(list, family);
    }

    /** Promise 31: brings an EVENT to a court. */
    public int appeal(int event) throws NoSuchElementException {
        requireElement(event, events.count);
        int kind = events.kind[event];
        if (kind != Events.LEAVES && kind != Events.REFUSES || !events.isKnown(event, today)) {
            return NONE;
        }
        if (courts.cases >= MOST_CASES || courts.hasCaseOf(event)) {
            return NONE;
        }
        return courts.open(event, land.family[events.person[event]], today);
    }

    /** Promise 32: closes a CASE. */
    public boolean close(int number, boolean allowed) throws NoSuchElementException {
        requireElement(number, courts.cases);
        if (courts.closed[number] != NONE || allowed && events.count >= MOST_EVENTS) {
            return false;
        }
        courts.closed[number] = today;
        courts.allowed[number] = allowed;
        if (allowed) {
            int event = courts.event[number];
            tell(Events.CLEARED, events.person[event], event, today);
        }
        return true;
    }

    /** Promise 33: what is known of a CASE. */
    public int caseOf(int number, int what) throws NoSuchElementException {
        requireElement(number, courts.cases);
        switch (what) {
            case 0:
                return courts.event[number];
            case 1:
                return courts.came[number];
            case 2:
            case 3:
            case 4:
                return courts.bench[number * Courts.LISTS + what - 2];
            case 5:
                return courts.closed[number];
            case 6:
                return courts.allowed[number] ? 1 : 0;
            case 7:
                return isLate(number) ? 1 : 0;
            default:
                throw new NoSuchElementException();
        }
    }

    /** Promise 34: tries a TEXT on the years so far. */
    public int attempt(int n, int from, int to) throws IllegalArgumentException {
        requireOnTape(n);
        if (outside(from, 0, LAST_DAY) || outside(to, 0, LAST_DAY)) {
            reader.refuse();
            return TEXT_REFUSED;
        }
        int fault = reader.read(n, acts[texts]);
        if (fault == 0) {
            acts[texts].reign(from, to, today);
            compareWithTry();
        }
        return fault;
    }

    /** Promise 35: what the latest TRY would make more. */
    public int tried(int trade, int what) throws NoSuchElementException {
        requireElement(trade, TRADES + 1);
        requireElement(what, Life.TOTALS);
        if (!wasTried) {
            throw new NoSuchElementException();
        }
        return more[trade * Life.TOTALS + what];
    }

    /** Promise 36: how much there is. */
    public int count(int what) throws NoSuchElementException {
        switch (what) {
            case 0:
                return today;
            case 1:
                return land.offices;
            case 2:
                return land.people;
            case 3:
                return events.count;
            case 4:
                return texts;
            case 5:
                return market.vacancies;
            case 6:
                return market.openVacancies();
            case 7:
                return market.offers;
            case 8:
                return courts.cases;
            case 9:
                return courts.judges;
            case 10:
                return reader.size;
            default:
                throw new NoSuchElementException();
        }
    }

    private static boolean outside(int number, int least, int most) {
        return number < least || number > most;
    }

    private static void requireElement(int number, int count) {
        if (number < 0 || number >= count) {
            throw new NoSuchElementException();
        }
    }

    private void requirePerson(int person) {
        requireElement(person, land.people);
    }

    private void requireOnTape(int n) {
        if (n < 0 || n > reader.size) {
            throw new IllegalArgumentException();
        }
    }

    private int dayKnown() {
        return theDay == NONE ? today : theDay;
    }

    private View asOfToday() {
        now.settle(today, texts);
        return now;
    }

    private View asOfTheDay() {
        int on = dayKnown();
        if (on == today) {
            return asOfToday();
        }
        then.settle(on, textsToldBy(on));
        return then;
    }

    private int textsToldBy(int day) {
        int n = 0;
        for (int i = 0; i < texts; i++) {
            if (acts[i].told <= day) {
                n++;
            }
        }
        return n;
    }

    private int tell(int kind, int person, int number, int day) {
        land.noteChange(person);
        return events.add(kind, person, number, day, today);
    }

    private boolean doesSomething(int event) {
        if (events.kind[event] == Events.CLEARED) {
            return events.isKnown(event, dayKnown());
        }
        View view = asOfTheDay();
        view.lifeOf(events.person[event]);
        return view.does[event];
    }

    private void payWeek() {
        View view = asOfToday();
        int stamp = view.law.param(Law.STAMP, today);
        int got = 0;
        int gave = 0;
        for (int p = 0; p < land.people; p++) {
            Life life = view.lifeOf(p);
            got += stamp * life.stampedDays(today);
            gave += land.settle(p, life.totals[Life.TOTAL_PAY]);
        }
        land.closeWeek(got, gave);
    }

    /** Tells the GAIN of each pair as things are TODAY; 0: it is no pair. */
    private void tellGains() {
        View view = asOfToday();
        for (int p = 0; p < land.people; p++) {
            Life life = view.lifeOf(p);
            for (int v = 0; v < market.vacancies; v++) {
                sending.gain[p][v] = life.open ? market.gainOf(life, v, today) : 0;
            }
        }
    }

    private boolean isLate(int number) {
        int came = courts.came[number];
        int end = courts.closed[number] == NONE ? today : courts.closed[number];
        return end - came > asOfToday().law.param(Law.COURT, came);
    }

    /** What a run with the TEXT behind all others makes more than the run as it is. */
    private void compareWithTry() {
        View real = asOfToday();
        then.settle(today, texts + 1);
        Arrays.fill(more, 0);
        for (int p = 0; p < land.people; p++) {
            int[] with = then.lifeOf(p).totals;
            int[] without = real.lifeOf(p).totals;
            for (int i = 0; i < Life.TOTALS; i++) {
                more[land.trade[p] * Life.TOTALS + i] += with[i] - without[i];
                more[TRADES * Life.TOTALS + i] += with[i] - without[i];
            }
        }
        then.law.forget();
        wasTried = true;
    }

    /** The OFFICES, the PEOPLE, and the FUND with what it paid to each of them. */
    private static final class Land {
        static final int LATELY = 4;

        final int[] x = new int[MOST_OFFICES];
        final int[] y = new int[MOST_OFFICES];
        int offices;
        final int[] trade = new int[MOST_PEOPLE];
        final int[] age = new int[MOST_PEOPLE];
        final int[] office = new int[MOST_PEOPLE];
        final int[] wage = new int[MOST_PEOPLE];
        final int[] family = new int[MOST_PEOPLE];
        int people;
        // Counts what was told of each, so that a life worked ahead of it is found to be stale.
        final int[] changes = new int[MOST_PEOPLE];
        final int[] received = new int[MOST_PEOPLE];
        final int[] owed = new int[MOST_PEOPLE];
        int has = 10000;
        int got;
        int gave;
        final int[] lately = new int[LATELY];
        int weeks;

        int addOffice(int atX, int atY) {
            x[offices] = atX;
            y[offices] = atY;
            offices++;
            return offices - 1;
        }

        int addPerson(int hisTrade, int hisAge, int hisOffice, int hisWage, int hisFamily) {
            trade[people] = hisTrade;
            age[people] = hisAge;
            office[people] = hisOffice;
            wage[people] = hisWage;
            family[people] = hisFamily;
            people++;
            return people - 1;
        }

        void noteChange(int person) {
            changes[person]++;
        }

        int miles(int a, int b) {
            return Math.abs(x[a] - x[b]) + Math.abs(y[a] - y[b]);
        }

        /** Pays to one of the PEOPLE what all PAY comes to beyond what was paid so far. */
        int settle(int person, int allPay) {
            int due = allPay - received[person];
            owed[person] = due < 0 ? -due : 0;
            if (due <= 0) {
                return 0;
            }
            received[person] += due;
            return due;
        }

        void closeWeek(int weekGot, int weekGave) {
            got = weekGot;
            gave = weekGave;
            has += got - gave;
            lately[weeks % LATELY] = got - gave;
            weeks++;
        }

        int lasts() {
            if (has < 0) {
                return 0;
            }
            int n = Math.min(weeks, LATELY);
            int sum = 0;
            for (int i = 0; i < n; i++) {
                sum += lately[i];
            }
            if (sum >= 0 || n == 0) {
                return NONE;
            }
            int loss = -Math.floorDiv(sum, n);
            return loss > 0 ? has / loss + 1 : NONE;
        }
    }

    /** The rows and the RETURNS, all that were ever told, since what was known on an earlier DAY is asked too. */
    private static final class Books {
        final byte[] rows = new byte[MOST_ROWS * YEAR_WEEKS];
        final int[] rowPerson = new int[MOST_ROWS];
        final int[] rowYear = new int[MOST_ROWS];
        final int[] rowLength = new int[MOST_ROWS];
        final int[] rowTold = new int[MOST_ROWS];
        int rowCount;
        final int[] returnPerson = new int[MOST_RETURNS];
        final int[] returnWeek = new int[MOST_RETURNS];
        final int[] returnDays = new int[MOST_RETURNS];
        final int[] returnTold = new int[MOST_RETURNS];
        int returnCount;

        /** A row of the tape's first bytes; length NONE tells that the row is missing. */
        void addRow(int person, int year, int length, int day, byte[] tape) {
            rowPerson[rowCount] = person;
            rowYear[rowCount] = year;
            rowLength[rowCount] = length;
            rowTold[rowCount] = day;
            for (int i = 0; i < length && i < tape.length; i++) {
                rows[rowCount * YEAR_WEEKS + i] = (byte) Math.max(0, Math.min(MOST_STAMPS, tape[i]));
            }
            rowCount++;
        }

        void addReturn(int person, int week, int days, int day) {
            returnPerson[returnCount] = person;
            returnWeek[returnCount] = week;
            returnDays[returnCount] = days;
            returnTold[returnCount] = day;
            returnCount++;
        }

        int stampsInRow(int person, int week, int on) {
            int row = latestRow(person, week / YEAR_WEEKS, on);
            int at = week % YEAR_WEEKS;
            return row == NONE || at >= rowLength[row] ? NONE : rows[row * YEAR_WEEKS + at];
        }

        int daysReturned(int person, int week, int on) {
            for (int i = returnCount - 1; i >= 0; i--) {
                if (returnPerson[i] == person && returnWeek[i] == week && returnTold[i] <= on) {
                    return returnDays[i];
                }
            }
            return NONE;
        }

        /** The STAMPS of all WEEKS of a person as known on a DAY; NONE: not KNOWN. */
        void copyStamps(int person, int on, byte[] into) {
            Arrays.fill(into, (byte) NONE);
            for (int i = 0; i < returnCount; i++) {
                if (returnPerson[i] == person && returnTold[i] <= on) {
                    into[returnWeek[i]] = (byte) returnDays[i];
                }
            }
            for (int year = 0; year < YEARS; year++) {
                int row = latestRow(person, year, on);
                int length = row == NONE ? 0 : rowLength[row];
                for (int i = 0; i < length; i++) {
                    into[year * YEAR_WEEKS + i] = rows[row * YEAR_WEEKS + i];
                }
            }
        }

        private int latestRow(int person, int year, int on) {
            for (int i = rowCount - 1; i >= 0; i--) {
                if (rowPerson[i] == person && rowYear[i] == year && rowTold[i] <= on) {
                    return i;
                }
            }
            return NONE;
        }
    }

    /** The EVENTS. */
    private static final class Events {
        static final int LEAVES = 0;
        static final int HIRED = 1;
        static final int SIGNS = 2;
        static final int GOES_AWAY = 3;
        static final int COMES_BACK = 4;
        static final int HAS_MEANS = 5;
        static final int GOES_SHORT = 6;
        static final int REFUSES = 7;
        static final int CLEARED = 8;

        final int[] kind = new int[MOST_EVENTS];
        final int[] person = new int[MOST_EVENTS];
        final int[] number = new int[MOST_EVENTS];
        final int[] from = new int[MOST_EVENTS];
        final int[] told = new int[MOST_EVENTS];
        final int[] takenBack = new int[MOST_EVENTS];
        int count;

        static int leastNumber(int kind) {
            return kind == HIRED || kind == GOES_SHORT ? 1 : 0;
        }

        static int mostNumber(int kind) {
            switch (kind) {
                case LEAVES:
                    return 3;
                case HIRED:
                    return MOST_WAGE;
                case HAS_MEANS:
                    return MOST_PENCE;
                case GOES_SHORT:
                    return WEEK_DAYS;
                default:
                    return 0;
            }
        }

        int add(int itsKind, int itsPerson, int itsNumber, int day, int today) {
            kind[count] = itsKind;
            person[count] = itsPerson;
            number[count] = itsNumber;
            from[count] = day;
            told[count] = today;
            takenBack[count] = NONE;
            count++;
            return count - 1;
        }

        boolean isKnown(int event, int on) {
            return told[event] <= on && (takenBack[event] == NONE || takenBack[event] > on);
        }
    }

    /** A TEXT as it was understood: what it sets, and its EXPRESSIONS with each operator behind its parts. */
    private static final class Act {
        static final int MOST_CLAUSES = 24;
        // Codes from 0 on are NUMBERS, from VALUE on VALUES; an operator that is a sign is the sign below 0.
        static final int VALUE = 100000;
        static final int END = -1;
        static final int OR = -2;
        static final int AND = -3;
        static final int NOT = -4;
        static final int UNLESS = -5;

        final int[] code = new int[MOST_BYTES];
        int length;
        final int[] params = new int[Law.PARAMS];
        int insured;
        int pay;
        int needy;
        int bar;
        final int[] suits = new int[MOST_CLAUSES];
        int suitCount;
        final int[] likes = new int[MOST_CLAUSES];
        final int[] likeDays = new int[MOST_CLAUSES];
        int likeCount;
        int from;
        int to;
        int told;

        void begin() {
            length = 0;
            Arrays.fill(params, NONE);
            insured = 0;
            pay = NONE;
            needy = NONE;
            bar = NONE;
            suitCount = 0;
            likeCount = 0;
        }

        void reign(int first, int end, int today) {
            from = first;
            to = end;
            told = today;
        }

        void emit(int what) {
            if (length < code.length) {
                code[length] = what;
                length++;
            }
        }

        void addSuit(int start) {
            if (suitCount < MOST_CLAUSES) {
                suits[suitCount] = start;
                suitCount++;
            }
        }

        void addLike(int start, int days) {
            if (likeCount < MOST_CLAUSES) {
                likes[likeCount] = start;
                likeDays[likeCount] = days;
                likeCount++;
            }
        }

        /** What the EXPRESSION that starts there comes to. */
        long work(int start, long[] values, long[] stack) {
            int top = 0;
            for (int i = Math.max(0, start); i < length && code[i] != END; i++) {
                int what = code[i];
                if (what >= 0) {
                    if (top < stack.length) {
                        stack[top] = what < VALUE ? what : values[what - VALUE];
                        top++;
                    }
                } else if (what == NOT) {
                    if (top > 0) {
                        stack[top - 1] = stack[top - 1] == 0 ? 1 : 0;
                    }
                } else if (top > 1) {
                    top--;
                    stack[top - 1] = join(what, stack[top - 1], stack[top]);
                }
            }
            return top > 0 ? stack[top - 1] : 0;
        }

        private static long join(int what, long a, long b) {
            switch (what) {
                case -'+':
                    return a + b;
                case -'-':
                    return a - b;
                case -'*':
                    return a * b;
                case -'/':
                    return b == 0 ? 0 : a / b;
                case -'<':
                    return a < b ? 1 : 0;
                case -'=':
                    return a == b ? 1 : 0;
                case AND:
                    return a != 0 && b != 0 ? 1 : 0;
                case OR:
                    return a != 0 || b != 0 ? 1 : 0;
                default:
                    return b != 0 ? 0 : a;
            }
        }
    }

    /** The tape, and the reading of TEXTS from it. */
    private static final class Reader {
        // A blank ends each word, the last one too.
        static final String KEYWORDS = "insure set pay needy bar suit like unless or and not ";
        static final String PARAM_WORDS = "wait gap rate days per extra stamp court ";
        static final String FACT_WORDS = "age trade usual out paid stamps unknown means reason miles wage same ";
        static final int INSURE = 0;
        static final int SET = 1;
        static final int PAY = 2;
        static final int NEEDY = 3;
        static final int BAR = 4;
        static final int SUIT = 5;
        static final int LIKE = 6;
        static final int UNLESS = 7;
        static final int OR = 8;
        static final int AND = 9;
        static final int NOT = 10;
        // Tokens that are no signs; a sign is its own byte.
        static final int END_OF_TEXT = 0;
        static final int WORD = 1;
        static final int NUMBER = 2;
        static final int NO_TOKEN = 3;
        static final int CANNOT_STAND = 1;
        static final int TOO_MUCH = 2;
        static final int UNKNOWN_WORD = 3;
        static final int TOLD_ALREADY = 4;
        static final int MOST_DIGITS = 5;
        static final int MOST_WITHIN = 6;
        static final int MOST_NOTS = 6;

        final byte[] tape = new byte[MOST_BYTES];
        int size;
        // Of the FAULT of the TEXT that was read last.
        int place = NONE;
        private int fault;
        private int length;
        private int start;
        private int at;
        private int token;
        // Which of the KEYWORDS, and which VALUE in the order of the law's values, a word is; NONE: it is none.
        private int keyword;
        private int value;
        private int number;
        private Act act;

        void append(int four) {
            for (int shift = 24; shift >= 0 && size < MOST_BYTES; shift -= 8) {
                tape[size] = (byte) (four >> shift);
                size++;
            }
        }

        void clear() {
            size = 0;
        }

        /** Takes the tape without reading a TEXT from it. */
        void refuse() {
            place = NONE;
            clear();
        }

        /** Takes the tape and reads its first n bytes into an act: 0, or the FAULT, whose place is kept. */
        int read(int n, Act into) {
            act = into;
            act.begin();
            length = Math.min(n, size);
            at = 0;
            fault = 0;
            place = NONE;
            advance();
            for (int i = 0; i <= Act.MOST_CLAUSES && fault == 0 && token != END_OF_TEXT; i++) {
                readClause(i);
            }
            clear();
            return fault;
        }

        private void readClause(int clausesAhead) {
            if (token != WORD || keyword == NONE || keyword > LIKE) {
                fail(CANNOT_STAND);
                return;
            }
            if (clausesAhead >= Act.MOST_CLAUSES) {
                fail(TOO_MUCH);
                return;
            }
            int clause = keyword;
            advance();
            switch (clause) {
                case INSURE:
                    readInsured();
                    break;
                case SET:
                    readParam();
                    break;
                case LIKE:
                    readLike();
                    break;
                default:
                    readWorth(clause);
                    break;
            }
            expect(';');
        }

        private void readInsured() {
            int mask = readTrade(0);
            for (int i = 0; i < TRADES && fault == 0 && token == ','; i++) {
                advance();
                mask = readTrade(mask);
            }
            act.insured = mask;
        }

        private int readTrade(int mask) {
            if (token != NUMBER) {
                fail(CANNOT_STAND);
            } else if (number >= TRADES) {
                fail(TOO_MUCH);
            } else if ((mask & 1 << number) != 0) {
                fail(TOLD_ALREADY);
            } else {
                int trade = number;
                advance();
                return mask | 1 << trade;
            }
            return mask;
        }

        private void readParam() {
            int param = value;
            if (token != WORD) {
                fail(CANNOT_STAND);
            } else if (param < 0 || param >= Law.PARAMS) {
                fail(UNKNOWN_WORD);
            } else {
                advance();
                act.params[param] = readNumber();
            }
        }

        private int readNumber() {
            int read = number;
            if (token != NUMBER) {
                fail(CANNOT_STAND);
            } else if (read >= Act.VALUE) {
                fail(TOO_MUCH);
            } else {
                advance();
            }
            return read;
        }

        private void readLike() {
            int first = act.length;
            readExpression(1);
            act.emit(Act.END);
            expectWord(BAR);
            if (fault == 0) {
                int days = readNumber();
                act.addLike(first, days);
            }
        }

        private void readWorth(int clause) {
            int first = act.length;
            readExpression(1);
            if (isWord(UNLESS)) {
                advance();
                readExpression(1);
                act.emit(Act.UNLESS);
            }
            act.emit(Act.END);
            switch (clause) {
                case PAY:
                    act.pay = first;
                    break;
                case NEEDY:
                    act.needy = first;
                    break;
                case BAR:
                    act.bar = first;
                    break;
                default:
                    act.addSuit(first);
                    break;
            }
        }

        private void readExpression(int depth) {
            boolean canStart = token == NUMBER || token == WORD || token == '(';
            if (depth > MOST_WITHIN) {
                fail(canStart ? TOO_MUCH : CANNOT_STAND);
                return;
            }
            readConjunction(depth);
            for (int i = 0; i < MOST_BYTES && isWord(OR); i++) {
                advance();
                readConjunction(depth);
                act.emit(Act.OR);
            }
        }

        private void readConjunction(int depth) {
            readNegation(depth);
            for (int i = 0; i < MOST_BYTES && isWord(AND); i++) {
                advance();
                readNegation(depth);
                act.emit(Act.AND);
            }
        }

        private void readNegation(int depth) {
            int nots = 0;
            for (; nots < MOST_NOTS && isWord(NOT); nots++) {
                advance();
            }
            if (isWord(NOT)) {
                fail(TOO_MUCH);
                return;
            }
            readTest(depth);
            for (int i = 0; i < nots; i++) {
                act.emit(Act.NOT);
            }
        }

        private void readTest(int depth) {
            readSum(depth);
            int sign = token;
            if (isSign('<') || isSign('=')) {
                advance();
                readSum(depth);
                act.emit(-sign);
            }
        }

        private void readSum(int depth) {
            readProduct(depth);
            for (int i = 0; i < MOST_BYTES && (isSign('+') || isSign('-')); i++) {
                int sign = token;
                advance();
                readProduct(depth);
                act.emit(-sign);
            }
        }

        private void readProduct(int depth) {
            readPart(depth);
            for (int i = 0; i < MOST_BYTES && (isSign('*') || isSign('/')); i++) {
                int sign = token;
                advance();
                readPart(depth);
                act.emit(-sign);
            }
        }

        private void readPart(int depth) {
            if (fault != 0) {
                return;
            }
            if (token == '(') {
                advance();
                readExpression(depth + 1);
                expect(')');
            } else if (token != WORD) {
                act.emit(readNumber());
            } else if (value == NONE) {
                fail(UNKNOWN_WORD);
            } else {
                act.emit(Act.VALUE + value);
                advance();
            }
        }

        private boolean isWord(int which) {
            return fault == 0 && token == WORD && keyword == which;
        }

        private boolean isSign(char sign) {
            return fault == 0 && token == sign;
        }

        private void expect(char sign) {
            if (isSign(sign)) {
                advance();
            } else {
                fail(CANNOT_STAND);
            }
        }

        private void expectWord(int which) {
            if (isWord(which)) {
                advance();
            } else {
                fail(CANNOT_STAND);
            }
        }

        /** Only the first fault along the text counts. */
        private void fail(int which) {
            if (fault == 0) {
                fault = which;
                place = start;
            }
        }

        /** Goes on to the next token. */
        private void advance() {
            for (; at < length && (tape[at] == ' ' || tape[at] == '\n'); at++) {
                continue;
            }
            start = at;
            if (at >= length) {
                token = END_OF_TEXT;
            } else if (isLetter(tape[at])) {
                token = WORD;
                for (; at < length && isLetter(tape[at]); at++) {
                    continue;
                }
                keyword = placeIn(KEYWORDS);
                int fact = placeIn(FACT_WORDS);
                value = fact == NONE ? placeIn(PARAM_WORDS) : Law.PARAMS + fact;
            } else if (isDigit(tape[at])) {
                token = NUMBER;
                number = 0;
                // A number of too many digits is read as the first that is too great.
                for (; at < length && isDigit(tape[at]); at++) {
                    number = at - start < MOST_DIGITS ? number * 10 + tape[at] - '0' : Act.VALUE;
                }
            } else {
                token = isSignByte(tape[at]) ? tape[at] : NO_TOKEN;
                at++;
            }
        }

        /** The place of the word just read among some words; NONE: it isn't there. */
        private int placeIn(String words) {
            int n = 0;
            int next = start;
            boolean same = true;
            for (int i = 0; i < words.length(); i++) {
                if (words.charAt(i) != ' ') {
                    same = same && next < at && tape[next] == words.charAt(i);
                    next++;
                } else if (same && next == at) {
                    return n;
                } else {
                    n++;
                    next = start;
                    same = true;
                }
            }
            return NONE;
        }

        private static boolean isLetter(int b) {
            return b >= 'a' && b <= 'z';
        }

        private static boolean isDigit(int b) {
            return b >= '0' && b <= '9';
        }

        private static boolean isSignByte(int b) {
            switch (b) {
                case ';':
                case ',':
                case '(':
                case ')':
                case '+':
                case '-':
                case '*':
                case '/':
                case '<':
                case '=':
                    return true;
                default:
                    return false;
            }
        }
    }

    /** The law by DAYS: one sheet for each span of DAYS in which the same TEXTS are IN FORCE. */
    private static final class Law {
        static final int PARAMS = 8;
        static final int WAIT = 0;
        static final int GAP = 1;
        static final int RATE = 2;
        static final int MOST_EARNED = 3;
        static final int PER = 4;
        static final int EXTRA = 5;
        static final int STAMP = 6;
        static final int COURT = 7;
        // Where a VALUE stands in values, behind the PARAMS, in the order of the document's words.
        static final int AGE = 8;
        static final int TRADE = 9;
        static final int USUAL = 10;
        static final int OUT_FOR = 11;
        static final int DAYS_PAID = 12;
        static final int STAMPS = 13;
        static final int UNKNOWN = 14;
        static final int MEANS = 15;
        static final int REASON = 16;
        static final int MILES = 17;
        static final int WAGE = 18;
        static final int SAME = 19;
        static final int VALUES = 20;
        static final int REASON_OF_REFUSES = 4;
        // Each of the seventeen TEXTS begins and ends one span at most, and one is at first.
        static final int SPANS = 2 * (MOST_TEXTS + 1) + 1;
        // Six EXPRESSIONS within each other keep five left sides each at most, and 'unless' keeps one.
        static final int STACK = 40;
        static final int[] DEFAULTS = {3, 18, 10, 60, 3, 0, 2, 12};

        final Act[] acts;
        // How many of the acts count; NONE: no sheet is made.
        int size = NONE;
        final byte[] spanOf = new byte[DAYS];
        final int[][] params = new int[SPANS][PARAMS];
        final int[][] inForce = new int[SPANS][MOST_TEXTS + 1];
        final int[] forceCount = new int[SPANS];
        final int[] insured = new int[SPANS];
        final int[] payAct = new int[SPANS];
        final int[] needyAct = new int[SPANS];
        final int[] barAct = new int[SPANS];
        final int[] suitAct = new int[SPANS];
        final long[] values = new long[VALUES];
        final long[] stack = new long[STACK];

        Law(Act[] theActs) {
            acts = theActs;
        }

        void forget() {
            size = NONE;
        }

        void make(int actsThatCount) {
            size = Math.min(actsThatCount, acts.length);
            Arrays.fill(spanOf, (byte) 0);
            for (int i = 0; i < size; i++) {
                spanOf[acts[i].from] = 1;
                spanOf[acts[i].to] = 1;
            }
            spanOf[0] = 1;
            int span = NONE;
            for (int day = 0; day < DAYS; day++) {
                if (spanOf[day] == 1 && span < SPANS - 1) {
                    span++;
                    makeSheet(span, day);
                }
                spanOf[day] = (byte) span;
            }
        }

        private void makeSheet(int span, int day) {
            orderActs(span, day);
            System.arraycopy(DEFAULTS, 0, params[span], 0, PARAMS);
            insured[span] = 0;
            payAct[span] = NONE;
            needyAct[span] = NONE;
            barAct[span] = NONE;
            suitAct[span] = NONE;
            for (int i = forceCount[span] - 1; i >= 0; i--) {
                overlay(span, inForce[span][i]);
            }
        }

        /** The acts IN FORCE, the LATEST first. */
        private void orderActs(int span, int day) {
            int[] order = inForce[span];
            int n = 0;
            for (int i = 0; i < size; i++) {
                if (acts[i].from <= day && day < acts[i].to) {
                    int to = n;
                    for (; to > 0 && acts[order[to - 1]].from <= acts[i].from; to--) {
                        order[to] = order[to - 1];
                    }
                    order[to] = i;
                    n++;
                }
            }
            forceCount[span] = n;
        }

        private void overlay(int span, int number) {
            Act act = acts[number];
            for (int i = 0; i < PARAMS; i++) {
                if (act.params[i] != NONE) {
                    params[span][i] = act.params[i];
                }
            }
            if (act.insured != 0) {
                insured[span] = act.insured;
            }
            if (act.pay != NONE) {
                payAct[span] = number;
            }
            if (act.needy != NONE) {
                needyAct[span] = number;
            }
            if (act.bar != NONE) {
                barAct[span] = number;
            }
            if (act.suitCount > 0) {
                suitAct[span] = number;
            }
        }

        int param(int which, int day) {
            return params[spanOf[day]][which];
        }

        boolean insures(int trade, int day) {
            return (insured[spanOf[day]] >> trade & 1) != 0;
        }

        /** By which TEXT a DAY of a KIND is paid; NONE: by none. */
        int payingAct(int kind, int day) {
            int span = spanOf[day];
            return kind == Life.NEEDY ? needyAct[span] : payAct[span];
        }

        /** The PAY of a DAY of a KIND by the values set out. */
        int payFor(int kind, int day) {
            int act = payingAct(kind, day);
            if (kind == Life.NEEDY) {
                return act == NONE ? 0 : limited(acts[act].work(acts[act].needy, values, stack));
            }
            return limited(act == NONE ? param(RATE, day) : acts[act].work(acts[act].pay, values, stack));
        }

        /** For how many DAYS one is barred by the values set out. */
        int barDays(int day) {
            int span = spanOf[day];
            for (int i = 0; i < forceCount[span]; i++) {
                Act act = acts[inForce[span][i]];
                for (int j = 0; j < act.likeCount; j++) {
                    if (act.work(act.likes[j], values, stack) != 0) {
                        return limited(act.likeDays[j]);
                    }
                }
            }
            int by = barAct[span];
            return by == NONE ? 0 : limited(acts[by].work(acts[by].bar, values, stack));
        }

        /** The first 'suit' that is 0 by the values set out; NONE: all hold. */
        int firstObjection(int day) {
            int by = suitAct[spanOf[day]];
            int n = by == NONE ? 0 : acts[by].suitCount;
            for (int i = 0; i < n; i++) {
                if (acts[by].work(acts[by].suits[i], values, stack) == 0) {
                    return i;
                }
            }
            return NONE;
        }

        private static int limited(long pence) {
            return (int) Math.max(0L, Math.min(MOST_PENCE, pence));
        }
    }

    /** The life of one of the PEOPLE, worked DAY by DAY. */
    private static final class Life {
        static final int ENDED = 0;
        static final int BARRED = 1;
        static final int WAITING = 2;
        static final int EARNED = 3;
        static final int EXTENDED = 4;
        static final int NEEDY = 5;
        static final int SHORT_WORKED = 6;
        static final int IN_WORK = 7;
        static final int AWAY = 8;
        static final int OUT = 9;
        // A CLAIM's row; from WAITING to NEEDY the DAYS of a KIND stand at the KIND's own number.
        static final int CLAIM_FIRST = 0;
        static final int CLAIM_EARNED = 1;
        static final int CLAIM_PAY = 6;
        static final int CLAIM_JOINED = 7;
        static final int CLAIM_OPEN = 8;
        static final int CLAIM_STAMPS = 9;
        static final int CLAIM_UNKNOWN = 10;
        static final int CLAIM_ROW = 11;
        // A CLAIM beyond the first takes three EVENTS at least: it is signed, and the one ahead closed and left behind.
        static final int MOST_CLAIMS = MOST_EVENTS / 3 + 2;
        static final int TOTAL_PAY = 0;
        static final int TOTAL_PAID = 1;
        static final int TOTAL_ENDED = 2;
        static final int TOTALS = 3;

        final int person;
        final Land land;
        final Market market;
        final Law law;
        // A DAY's KIND, PAY, TEXT and CLAIM in one number.
        final int[] past = new int[DAYS - FIRST_DAY];
        final int[] claims = new int[MOST_CLAIMS * CLAIM_ROW];
        final byte[] stamps = new byte[WEEKS];
        final int[] totals = new int[TOTALS];
        // How often something was told of the person when this was worked; NONE: it is stale.
        int seen = NONE;
        int upTo;
        int claimCount;
        boolean open;
        private int closedOn;
        private boolean inWork;
        private boolean away;
        private int daysShort;
        private int barredTo;
        private int leftOn;
        private int reason;
        private int usual;
        private int means;

        Life(int whose, Land inLand, Market onMarket, Law underLaw) {
            person = whose;
            land = inLand;
            market = onMarket;
            law = underLaw;
        }

        void begin() {
            upTo = FIRST_DAY - 1;
            claimCount = 0;
            open = false;
            closedOn = NONE;
            inWork = true;
            away = false;
            daysShort = 0;
            barredTo = NONE;
            leftOn = NONE;
            reason = 0;
            usual = land.wage[person];
            means = 0;
            Arrays.fill(totals, 0);
        }

        int kindOn(int day) {
            return past[day - FIRST_DAY] & 15;
        }

        int payOn(int day) {
            return past[day - FIRST_DAY] >> 4 & 16383;
        }

        int actOn(int day) {
            return (past[day - FIRST_DAY] >> 18 & 31) - 1;
        }

        int claimOn(int day) {
            return (past[day - FIRST_DAY] >> 23 & 127) - 1;
        }

        /** An EVENT of this DAY comes: whether it does something. */
        boolean meets(int kind, int number, int day, boolean cleared) {
            switch (kind) {
                case Events.LEAVES:
                    return leaves(number, day, cleared);
                case Events.HIRED:
                    return isHired(number, day);
                case Events.SIGNS:
                    return signs(day);
                case Events.GOES_AWAY:
                    return goesAway(day);
                case Events.COMES_BACK:
                    return comesBack();
                case Events.HAS_MEANS:
                    means = number;
                    return true;
                case Events.GOES_SHORT:
                    return goesShort(number, day);
                case Events.REFUSES:
                    return refuses(number, day, cleared);
                default:
                    return false;
            }
        }

        private boolean leaves(int why, int day, boolean cleared) {
            if (!inWork) {
                return false;
            }
            inWork = false;
            daysShort = 0;
            leftOn = day;
            reason = why;
            if (!cleared) {
                setOut(day);
                barredTo = Math.max(barredTo, day + law.barDays(day) - 1);
            }
            return true;
        }

        private boolean isHired(int wage, int day) {
            if (inWork || away) {
                return false;
            }
            inWork = true;
            usual = wage;
            closeClaim(day);
            return true;
        }

        private boolean signs(int day) {
            if (inWork && daysShort == 0 || away || open || !law.insures(land.trade[person], day)) {
                return false;
            }
            if (claimCount > 0 && day - closedOn <= law.param(Law.GAP, day)) {
                claims[rowOfLatest() + CLAIM_JOINED]++;
            } else if (claimCount < MOST_CLAIMS) {
                claimCount++;
                startClaim(rowOfLatest(), day);
            }
            open = true;
            claims[rowOfLatest() + CLAIM_OPEN] = 1;
            return true;
        }

        private void startClaim(int row, int day) {
            int stampsAhead = stampsAhead(day);
            int per = Math.max(1, law.param(Law.PER, day));
            for (int i = 0; i < CLAIM_ROW; i++) {
                claims[row + i] = 0;
            }
            claims[row + CLAIM_FIRST] = day;
            claims[row + CLAIM_EARNED] = Math.min(stampsAhead / per, law.param(Law.MOST_EARNED, day));
            claims[row + CLAIM_STAMPS] = stampsAhead;
            claims[row + CLAIM_UNKNOWN] = unknownAhead(day);
        }

        private boolean goesAway(int day) {
            if (away) {
                return false;
            }
            closeClaim(day);
            away = true;
            return true;
        }

        private boolean comesBack() {
            boolean was = away;
            away = false;
            return was;
        }

        private boolean goesShort(int days, int day) {
            boolean noMore = days == WEEK_DAYS;
            if (!inWork || noMore && daysShort == 0) {
                return false;
            }
            daysShort = noMore ? 0 : days;
            if (noMore) {
                closeClaim(day);
            }
            return true;
        }

        private boolean refuses(int offer, int day, boolean cleared) {
            if (!open || !market.wasSuitable(offer, person)) {
                return false;
            }
            if (!cleared) {
                setOut(day);
                law.values[Law.REASON] = Law.REASON_OF_REFUSES;
                market.setOutVacancy(person, market.vacancy[offer], law.values);
                barredTo = Math.max(barredTo, day + law.barDays(day) - 1);
            }
            return true;
        }

        private void closeClaim(int day) {
            if (open) {
                open = false;
                closedOn = day;
                claims[rowOfLatest() + CLAIM_OPEN] = 0;
            }
        }

        private int rowOfLatest() {
            return Math.max(0, claimCount - 1) * CLAIM_ROW;
        }

        /** Lives through a DAY, all its EVENTS being met. */
        void pass(int day) {
            int kind = open ? kindOfClaim(day) : away ? AWAY : inWork ? IN_WORK : OUT;
            int pay = 0;
            int act = NONE;
            if (kind == EARNED || kind == EXTENDED || kind == NEEDY) {
                setOut(day);
                pay = law.payFor(kind, day);
                act = law.payingAct(kind, day);
            }
            if (kind == NEEDY && pay == 0) {
                kind = ENDED;
                act = NONE;
            }
            if (open) {
                countInClaim(kind, pay);
            }
            int claim = open ? claimCount - 1 : NONE;
            past[day - FIRST_DAY] = kind | pay << 4 | act + 1 << 18 | claim + 1 << 23;
            upTo = day;
        }

        /** The KIND of a DAY of the open CLAIM; NEEDY stands for ENDED too, till the PAY is known. */
        private int kindOfClaim(int day) {
            int row = rowOfLatest();
            if (day % WEEK_DAYS < daysShort) {
                return SHORT_WORKED;
            }
            if (barredTo >= day) {
                return BARRED;
            }
            if (claims[row + WAITING] < law.param(Law.WAIT, day)) {
                return WAITING;
            }
            if (claims[row + EARNED] < claims[row + CLAIM_EARNED]) {
                return EARNED;
            }
            return claims[row + EXTENDED] < law.param(Law.EXTRA, day) ? EXTENDED : NEEDY;
        }

        private void countInClaim(int kind, int pay) {
            int row = rowOfLatest();
            if (kind >= WAITING && kind <= NEEDY) {
                claims[row + kind]++;
            }
            claims[row + CLAIM_PAY] += pay;
            totals[TOTAL_PAY] += pay;
            if (kind >= EARNED && kind <= NEEDY) {
                totals[TOTAL_PAID]++;
            } else if (kind == ENDED) {
                totals[TOTAL_ENDED]++;
            }
        }

        /** Sets out all VALUES as they are on a DAY, those of an OFFER 0. */
        void setOut(int day) {
            long[] values = law.values;
            for (int i = 0; i < Law.PARAMS; i++) {
                values[i] = law.param(i, day);
            }
            int row = rowOfLatest();
            values[Law.AGE] = land.age[person];
            values[Law.TRADE] = land.trade[person];
            values[Law.USUAL] = usual;
            values[Law.OUT_FOR] = inWork || leftOn == NONE ? 0 : day - leftOn;
            values[Law.DAYS_PAID] = open ? claims[row + EARNED] + claims[row + EXTENDED] + claims[row + NEEDY] : 0;
            values[Law.STAMPS] = open ? claims[row + CLAIM_STAMPS] : stampsAhead(day);
            values[Law.UNKNOWN] = open ? claims[row + CLAIM_UNKNOWN] : unknownAhead(day);
            values[Law.MEANS] = means;
            values[Law.REASON] = reason;
            values[Law.MILES] = 0;
            values[Law.WAGE] = 0;
            values[Law.SAME] = 0;
        }

        /** All KNOWN STAMPS of the 52 WEEKS ahead of that of a DAY. */
        private int stampsAhead(int day) {
            int sum = 0;
            int end = day / WEEK_DAYS;
            for (int w = Math.max(0, end - YEAR_WEEKS); w < end; w++) {
                sum += Math.max(0, stamps[w]);
            }
            return sum;
        }

        private int unknownAhead(int day) {
            int n = 0;
            int end = day / WEEK_DAYS;
            for (int w = Math.max(0, end - YEAR_WEEKS); w < end; w++) {
                n += stamps[w] == NONE ? 1 : 0;
            }
            return n;
        }

        /** For how many DAYS of the WEEK that ends on this DAY the FUND gets a stamp. */
        int stampedDays(int lastDay) {
            int n = 0;
            for (int day = Math.max(FIRST_DAY, lastDay - WEEK_DAYS + 1); day <= lastDay; day++) {
                boolean worked = kindOn(day) == IN_WORK || kindOn(day) == SHORT_WORKED;
                n += worked && law.insures(land.trade[person], day) ? 1 : 0;
            }
            return n;
        }
    }

    /** All as known on some DAY: the law, the lives worked under it, and which EVENTS did something in them. */
    private static final class View {
        final Land land;
        final Books books;
        final Events events;
        final Law law;
        // Whether all that is told is known here, so that lives go on as long as nothing more is told.
        final boolean ofToday;
        final Life[] lives = new Life[MOST_PEOPLE];
        final boolean[] does = new boolean[MOST_EVENTS];
        private final boolean[] cleared = new boolean[MOST_EVENTS];
        private final int[] list = new int[MOST_EVENTS];
        private int on;

        View(Land inLand, Books inBooks, Events ofEvents, Market onMarket, Act[] acts, boolean viewOfToday) {
            land = inLand;
            books = inBooks;
            events = ofEvents;
            law = new Law(acts);
            ofToday = viewOfToday;
            for (int p = 0; p < MOST_PEOPLE; p++) {
                lives[p] = new Life(p, inLand, onMarket, law);
            }
        }

        /** Makes this the view of a DAY on which so many TEXTS were known. */
        void settle(int day, int texts) {
            on = day;
            if (law.size != texts) {
                law.make(texts);
                for (int p = 0; p < MOST_PEOPLE; p++) {
                    lives[p].seen = NONE;
                }
            }
        }

        /** The life of a person, worked up to the DAY. */
        Life lifeOf(int person) {
            Life life = lives[person];
            int listed = 0;
            if (life.seen != land.changes[person] || life.upTo != on && !ofToday) {
                life.begin();
                life.seen = land.changes[person];
                books.copyStamps(person, on, life.stamps);
                listed = listEvents(person);
            }
            int next = 0;
            for (int day = life.upTo + 1; day <= on; day++) {
                for (; next < listed && events.from[list[next]] == day; next++) {
                    int event = list[next];
                    does[event] = life.meets(events.kind[event], events.number[event], day, cleared[event]);
                }
                life.pass(day);
            }
            return life;
        }

        /** Lists the known EVENTS of a person by DAYS, and marks those for which CLEARED is known. */
        private int listEvents(int person) {
            int n = 0;
            for (int e = 0; e < events.count; e++) {
                if (events.person[e] != person) {
                    continue;
                }
                does[e] = false;
                cleared[e] = false;
                if (!events.isKnown(e, on)) {
                    continue;
                }
                if (events.kind[e] == Events.CLEARED) {
                    cleared[events.number[e]] = true;
                } else {
                    insert(e, n);
                    n++;
                }
            }
            return n;
        }

        /** Puts an EVENT behind all listed ones of its own DAY or ahead of it. */
        private void insert(int event, int listed) {
            int to = listed;
            for (; to > 0 && events.from[list[to - 1]] > events.from[event]; to--) {
                list[to] = list[to - 1];
            }
            list[to] = event;
        }
    }

    /** The VACANCIES, the OFFERS, and the PRICES told. */
    private static final class Market {
        static final int MILES_A_DAY = 50;
        static final int MILES_A_POINT = 10;
        static final int NOTHING_YET = 0;
        static final int TAKEN = 1;
        static final int REFUSED = 2;

        final Land land;
        final int[] office = new int[MOST_VACANCIES];
        final int[] trade = new int[MOST_VACANCIES];
        final int[] wage = new int[MOST_VACANCIES];
        final int[] worth = new int[MOST_VACANCIES];
        final int[] since = new int[MOST_VACANCIES];
        final boolean[] filled = new boolean[MOST_VACANCIES];
        int vacancies;
        final int[] offered = new int[MOST_OFFERS];
        final int[] vacancy = new int[MOST_OFFERS];
        final int[] objection = new int[MOST_OFFERS];
        final int[] fate = new int[MOST_OFFERS];
        int offers;
        final int[] personPrice = new int[MOST_PEOPLE];
        final int[] vacancyPrice = new int[MOST_VACANCIES];

        Market(Land ofLand) {
            land = ofLand;
        }

        int addVacancy(int itsOffice, int itsTrade, int itsWage, int itsWorth, int today) {
            office[vacancies] = itsOffice;
            trade[vacancies] = itsTrade;
            wage[vacancies] = itsWage;
            worth[vacancies] = itsWorth;
            since[vacancies] = today;
            vacancies++;
            return vacancies - 1;
        }

        int openVacancies() {
            int n = 0;
            for (int v = 0; v < vacancies; v++) {
                n += filled[v] ? 0 : 1;
            }
            return n;
        }

        int knownFrom(int number, int atOffice) {
            return since[number] + (land.miles(office[number], atOffice) + MILES_A_DAY - 1) / MILES_A_DAY;
        }

        /** Whether a VACANCY is OPEN and KNOWN at the person's OFFICE. */
        boolean isOpenTo(int person, int number, int today) {
            return !filled[number] && knownFrom(number, land.office[person]) <= today;
        }

        int addOffer(Life life, int number, int today) {
            offered[offers] = life.person;
            vacancy[offers] = number;
            objection[offers] = objectionTo(life, number, today);
            fate[offers] = NOTHING_YET;
            offers++;
            return offers - 1;
        }

        boolean wasSuitable(int offer, int person) {
            return offer >= 0 && offer < offers && offered[offer] == person && objection[offer] == NONE;
        }

        /** Sets out the VALUES of an OFFER. */
        void setOutVacancy(int person, int number, long[] values) {
            values[Law.MILES] = land.miles(land.office[person], office[number]);
            values[Law.WAGE] = wage[number];
            values[Law.SAME] = trade[number] == land.trade[person] ? 1 : 0;
        }

        /** The GAIN of a pair of which the person's CLAIM is open; 0: it is no pair. */
        int gainOf(Life life, int number, int today) {
            int gain = worth[number] - land.miles(land.office[life.person], office[number]) / MILES_A_POINT;
            if (gain <= 0 || !isOpenTo(life.person, number, today)) {
                return 0;
            }
            return objectionTo(life, number, today) == NONE ? gain : 0;
        }

        private int objectionTo(Life life, int number, int today) {
            life.setOut(today);
            setOutVacancy(life.person, number, life.law.values);
            return life.law.firstObjection(today);
        }
    }

    /**
     * The sending of PEOPLE to VACANCIES for the greatest sum of GAINS. Rows are those who have a pair, then one for
     * each such VACANCY, to stand for nobody; columns are those VACANCIES, then one for each such person, to stand for
     * none. So each row takes one column, and prices of rows and columns show by which pairs the greatest sum can be
     * had: those that cost just their prices.
     */
    private static final class Sending {
        static final int MOST = MOST_PEOPLE + MOST_VACANCIES;
        static final int FAR = 1000000000;

        final int[][] gain = new int[MOST_PEOPLE][MOST_VACANCIES];
        final int[] sentTo = new int[MOST_PEOPLE];
        private final int[] who = new int[MOST_PEOPLE];
        private final int[] where = new int[MOST_VACANCIES];
        private int rows;
        private int columns;
        private int size;
        // Of rows and columns numbered from 1 on; column 0 holds the row that is being placed.
        private final int[] rowPrice = new int[MOST + 1];
        private final int[] columnPrice = new int[MOST + 1];
        private final int[] rowAt = new int[MOST + 1];
        private final int[] columnOf = new int[MOST + 1];
        private final int[] from = new int[MOST + 1];
        private final int[] least = new int[MOST + 1];
        private final boolean[] reached = new boolean[MOST + 1];
        private final boolean[] settled = new boolean[MOST + 1];
        private final int[] queue = new int[MOST + 1];

        Sending() {
            Arrays.fill(sentTo, NONE);
        }

        int sendBest(int people, int vacancies) {
            gather(people, vacancies);
            Arrays.fill(rowPrice, 0);
            Arrays.fill(columnPrice, 0);
            Arrays.fill(rowAt, 0);
            for (int row = 1; row <= size; row++) {
                place(row);
            }
            for (int column = 1; column <= size; column++) {
                columnOf[rowAt[column]] = column;
            }
            unmark(settled);
            Arrays.fill(sentTo, NONE);
            int sum = 0;
            for (int row = 1; row <= rows; row++) {
                sum += settleRow(row);
            }
            return sum;
        }

        private void gather(int people, int vacancies) {
            rows = 0;
            columns = 0;
            for (int p = 0; p < people; p++) {
                boolean hasPair = false;
                for (int v = 0; v < vacancies; v++) {
                    hasPair = hasPair || gain[p][v] > 0;
                }
                if (hasPair) {
                    who[rows] = p;
                    rows++;
                }
            }
            for (int v = 0; v < vacancies; v++) {
                boolean hasPair = false;
                for (int p = 0; p < people; p++) {
                    hasPair = hasPair || gain[p][v] > 0;
                }
                if (hasPair) {
                    where[columns] = v;
                    columns++;
                }
            }
            size = rows + columns;
        }

        private boolean isPair(int row, int column) {
            return row <= rows && column <= columns && gain[who[row - 1]][where[column - 1]] > 0;
        }

        private static void unmark(boolean[] marks) {
            for (int i = 0; i < marks.length; i++) {
                marks[i] = false;
            }
        }

        /** What a row at a column costs: less than nothing for a pair, more than nothing where no pair is. */
        private int costOf(int row, int column) {
            if (row > rows || column > columns) {
                return 0;
            }
            return isPair(row, column) ? -gain[who[row - 1]][where[column - 1]] : 1;
        }

        private int overPrice(int row, int column) {
            return costOf(row, column) - rowPrice[row] - columnPrice[column];
        }

        /** Finds a column for one more row, moving others on where that is best. */
        private void place(int row) {
            unmark(reached);
            Arrays.fill(least, FAR);
            rowAt[0] = row;
            int column = 0;
            for (int step = 0; step <= size && rowAt[column] != 0; step++) {
                reached[column] = true;
                column = reachFrom(column);
            }
            for (int step = 0; step <= size && column != 0; step++) {
                rowAt[column] = rowAt[from[column]];
                column = from[column];
            }
        }

        /** The next column that is cheapest to reach; all prices are moved so that it costs just its price. */
        private int reachFrom(int column) {
            int row = rowAt[column];
            int nearest = 0;
            int way = FAR;
            for (int j = 1; j <= size; j++) {
                if (reached[j]) {
                    continue;
                }
                int over = overPrice(row, j);
                if (over < least[j]) {
                    least[j] = over;
                    from[j] = column;
                }
                if (least[j] < way) {
                    way = least[j];
                    nearest = j;
                }
            }
            for (int j = 0; j <= size; j++) {
                if (reached[j]) {
                    rowPrice[rowAt[j]] += way;
                    columnPrice[j] -= way;
                } else {
                    least[j] -= way;
                }
            }
            return nearest;
        }

        /** Sends a person to the first VACANCY with which the greatest sum is still had: the GAIN. */
        private int settleRow(int row) {
            for (int column = 1; column <= columns; column++) {
                boolean may = isPair(row, column) && !settled[column] && overPrice(row, column) == 0;
                if (may && (columnOf[row] == column || exchange(row, column))) {
                    settled[column] = true;
                    sentTo[who[row - 1]] = where[column - 1];
                    return gain[who[row - 1]][where[column - 1]];
                }
            }
            settled[columnOf[row]] = true;
            return 0;
        }

        /** Gives a column to a row, if those who must move for it can end at the column that the row leaves. */
        private boolean exchange(int row, int column) {
            int goal = columnOf[row];
            unmark(reached);
            reached[column] = true;
            queue[0] = rowAt[column];
            int queued = 1;
            for (int i = 0; i < queued && !reached[goal]; i++) {
                for (int j = 1; j <= size; j++) {
                    if (!reached[j] && !settled[j] && overPrice(queue[i], j) == 0) {
                        reached[j] = true;
                        from[j] = queue[i];
                        if (j != goal && queued < queue.length) {
                            queue[queued] = rowAt[j];
                            queued++;
                        }
                    }
                }
            }
            if (reached[goal]) {
                moveOn(goal, column);
                columnOf[row] = column;
                rowAt[column] = row;
            }
            return reached[goal];
        }

        /** Moves each row of the found way on by one column, till the last one has left its own. */
        private void moveOn(int goal, int last) {
            int free = goal;
            for (int step = 0; step <= size && free != last; step++) {
                int row = from[free];
                int left = columnOf[row];
                columnOf[row] = free;
                rowAt[free] = row;
                free = left;
            }
        }
    }

    /** The JUDGES by lists, and the CASES. */
    private static final class Courts {
        static final int LISTS = 3;

        final int[] listOf = new int[MOST_JUDGES];
        final int[] family = new int[MOST_JUDGES];
        int judges;
        final int[] takenLast = new int[LISTS];
        final int[] event = new int[MOST_CASES];
        final int[] came = new int[MOST_CASES];
        final int[] bench = new int[MOST_CASES * LISTS];
        final int[] closed = new int[MOST_CASES];
        final boolean[] allowed = new boolean[MOST_CASES];
        int cases;

        Courts() {
            Arrays.fill(takenLast, NONE);
        }

        int addJudge(int list, int itsFamily) {
            listOf[judges] = list;
            family[judges] = itsFamily;
            judges++;
            return judges - 1;
        }

        boolean hasCaseOf(int ofEvent) {
            for (int i = 0; i < cases; i++) {
                if (event[i] == ofEvent) {
                    return true;
                }
            }
            return false;
        }

        /** A CASE for an EVENT of a person of that family; NONE: there is no court. */
        int open(int ofEvent, int ofFamily, int today) {
            for (int list = 0; list < LISTS; list++) {
                int judge = nextOf(list, ofFamily);
                if (judge == NONE) {
                    return NONE;
                }
                bench[cases * LISTS + list] = judge;
            }
            System.arraycopy(bench, cases * LISTS, takenLast, 0, LISTS);
            event[cases] = ofEvent;
            came[cases] = today;
            closed[cases] = NONE;
            cases++;
            return cases - 1;
        }

        /** The JUDGE of a list behind the one taken last, in a round, who is not of that family. */
        private int nextOf(int list, int notOf) {
            for (int step = 1; step <= judges; step++) {
                int judge = (takenLast[list] + step) % judges;
                if (listOf[judge] == list && family[judge] != notOf) {
                    return judge;
                }
            }
            return NONE;
        }
    }
}
