/**
 * Tickets that are already punched, and where they take the people who hold them.
 * shared/DOC.md says what each call answers; its words are used here.
 */
public final class PunchedTicket {
    public static final int UNKNOWN = -1, OUTSIDE = -2, STATE = -3, FULL = -4, NONE = -9;

    private static final int STOPS = 10, DAYS = 10, SEATS = 10, SLOTS = 2;
    private static final int MOST_LETTERS = 64, MOST_PEOPLE = 5, MOST_TICKETS = 6;
    private static final int MOST_ACTS = 14, MOST_SEEN = 6, MOST_YEARS = 30;
    private static final int CHILD = 1, READER = 2, STAYING = 3, LAST_KIND = 3;
    private static final int PERSON_PART = 4, TICKET_PART = 6;
    private static final int RETURN_AFTER = 1, READ_AFTER = 3;
    private static final int TICKET_SETS = 1 << MOST_TICKETS, ALL_SEATS = (1 << SEATS) - 1;
    private static final int TENTHS = 10, FALLS_SHIFT = 100;
    private static final long SEED_FACTOR = 6364136223846793005L, SEED_STEP = 1442695040888963407L;
    private static final int SEED_SHIFT = 33;
    // No refusal is 0, so 0 can say that a call is not refused.
    private static final int TAKEN = 0;

    private final int[] text = new int[MOST_LETTERS];
    private int letters = 0;
    private final Line told = new Line();
    private final Line draft = new Line();
    private final Moment now = new Moment(told);
    private final Moment[] acts = new Moment[MOST_ACTS];
    private int firstAct = 0;
    private int actsInRow = 0;
    private final Moment[] kept = new Moment[SLOTS];
    private int keptSlots = 0;
    private final int[] seenPerson = new int[MOST_SEEN];
    private final int[] seenStop = new int[MOST_SEEN];
    private final int[] seenDay = new int[MOST_SEEN];
    private int seenCount = 0;
    private long theSeed = 0;
    private final Trial trial = new Trial(told);
    private final int[] idleAt = new int[DAYS];

    public PunchedTicket() {
    }

    // ---- the line

    public int write(int letter) {
        if (letter < 0 || letter > 255) {
            return OUTSIDE;
        }
        if (letters >= MOST_LETTERS) {
            return FULL;
        }
        text[letters] = letter;
        letters++;
        return letters;
    }

    public int wipe() {
        int before = letters;
        letters = 0;
        return before;
    }

    public int fault() {
        return draft.read(text, letters);
    }

    public int line() {
        if (draft.read(text, letters) != NONE) {
            return STATE;
        }
        told.copy(draft);
        now.begin();
        forgetActs();
        keptSlots = 0;
        return 10 * told.people + told.tickets;
    }

    public int person(int person, int what) {
        if (!told.hasPerson(person)) {
            return UNKNOWN;
        }
        switch (what) {
            case 0: return now.at[person];
            case 1: return told.liked[person];
            case 2: return told.kind[person];
            case 3: return now.heldBy(person);
            case 4: return rideOf(person);
            default: return OUTSIDE;
        }
    }

    public int ticket(int ticket, int what) {
        if (!now.hasTicket(ticket)) {
            return UNKNOWN;
        }
        switch (what) {
            case 0: return now.forDay[ticket];
            case 1: return now.from(ticket);
            case 2: return now.to(ticket);
            case 3: return told.seat[ticket];
            case 4: return now.holder[ticket];
            case 5: return now.isReturn(ticket) ? 1 : 0;
            case 6: return now.isGone(ticket) ? 1 : 0;
            default: return OUTSIDE;
        }
    }

    // ---- acts

    public int day() {
        if (now.day >= DAYS) {
            return STATE;
        }
        rememberAct();
        return now.passDay(trial.rides);
    }

    public int give(int ticket, int person) {
        if (!now.hasTicket(ticket) || !told.hasPerson(person)) {
            return UNKNOWN;
        }
        if (!now.canBeGiven(ticket, person)) {
            return STATE;
        }
        rememberAct();
        int before = now.holder[ticket];
        now.holder[ticket] = person;
        return before;
    }

    public int lose(int ticket) {
        if (!now.hasTicket(ticket)) {
            return UNKNOWN;
        }
        if (now.isGone(ticket)) {
            return STATE;
        }
        rememberAct();
        now.gone |= 1 << ticket;
        return now.holder[ticket];
    }

    public int change(int ticket, int other) {
        if (!now.hasTicket(ticket) || !now.hasTicket(other)) {
            return UNKNOWN;
        }
        if (!now.canBeChanged(ticket, other)) {
            return STATE;
        }
        rememberAct();
        now.swapHolders(ticket, other);
        return now.holder[ticket];
    }

    public int undo() {
        if (actsInRow <= 0) {
            return STATE;
        }
        Moment before = acts[(firstAct + actsInRow - 1) % MOST_ACTS];
        if (before == null) {
            return STATE;
        }
        now.copy(before);
        actsInRow--;
        return actsInRow;
    }

    // ---- journeys

    public int where(int person, int day) {
        if (!told.hasPerson(person)) {
            return UNKNOWN;
        }
        if (day < 0 || day > DAYS) {
            return OUTSIDE;
        }
        if (day < now.day) {
            return STATE;
        }
        trial.start(now);
        trial.passDaysTo(day);
        return trial.moment.at[person];
    }

    public int meet(int one, int other) {
        int refusal = pairRefusal(one, other);
        if (refusal != TAKEN) {
            return refusal;
        }
        trial.start(now);
        return trial.firstMeeting(one, other);
    }

    public int twoSeats() {
        trial.start(now);
        return trial.firstDouble();
    }

    public int fewest(int one, int other, boolean row) {
        int refusal = pairRefusal(one, other);
        if (refusal != TAKEN) {
            return refusal;
        }
        trial.start(now);
        if (trial.firstMeeting(one, other) != NONE) {
            return 0;
        }
        int single = firstGift(one, other, NONE, NONE);
        if (single != NONE) {
            return row ? single : 1;
        }
        int pair = firstTwoGifts(one, other);
        if (pair != NONE) {
            return row ? pair : 2;
        }
        return NONE;
    }

    public int glad() {
        trial.start(now);
        return trial.gladAtEnd();
    }

    public int falls(int ticket) {
        if (!now.hasTicket(ticket)) {
            return UNKNOWN;
        }
        trial.start(now);
        int with = trial.journeysToEnd();
        trial.start(now);
        trial.moment.gone |= 1 << ticket;
        return with - trial.journeysToEnd() + FALLS_SHIFT;
    }

    public int bestChange() {
        int best = NONE;
        int most = glad();
        for (int ticket = 0; ticket < told.tickets; ticket++) {
            for (int other = ticket + 1; other < told.tickets; other++) {
                int gladThen = gladIfChanged(ticket, other);
                if (gladThen > most) {
                    most = gladThen;
                    best = 10 * ticket + other;
                }
            }
        }
        return best;
    }

    public int share(int ticket, boolean upper) {
        if (!now.hasTicket(ticket)) {
            return UNKNOWN;
        }
        if (now.isGone(ticket)) {
            return fraction(0, 1, upper);
        }
        int others = now.notGone() & ~(1 << ticket);
        int othersCount = Integer.bitCount(others);
        int sum = 0;
        for (int come = 0; come < TICKET_SETS; come++) {
            if ((come & ~others) == 0) {
                int size = Integer.bitCount(come);
                int orders = factorial(size) * factorial(othersCount - size);
                sum += orders * (gladWithOnly(come | 1 << ticket) - gladWithOnly(come));
            }
        }
        return fraction(sum, factorial(othersCount + 1), upper);
    }

    public int blank(int person, int stop) {
        if (!told.hasPerson(person)) {
            return UNKNOWN;
        }
        if (!isStop(stop)) {
            return OUTSIDE;
        }
        if (told.kind[person] == STAYING) {
            return STATE;
        }
        int unusedSeat = seatOfUnusedBlank(person, stop);
        for (int day = 0; day < DAYS; day++) {
            for (int from = 0; from < STOPS; from++) {
                int found = idleAt[day] == from
                    ? firstUsedBlank(person, stop, day)
                    : firstUnusedBlank(from, unusedSeat);
                if (found != NONE) {
                    return 1000 * day + 100 * from + found;
                }
            }
        }
        return NONE;
    }

    // ---- seen

    public int see(int person, int stop, int day) {
        if (!told.hasPerson(person)) {
            return UNKNOWN;
        }
        if (!isStop(stop) || day < 0 || day > DAYS) {
            return OUTSIDE;
        }
        if (seenCount >= MOST_SEEN) {
            return FULL;
        }
        seenPerson[seenCount] = person;
        seenStop[seenCount] = stop;
        seenDay[seenCount] = day;
        seenCount++;
        return seenCount;
    }

    public int unsee() {
        int before = seenCount;
        seenCount = 0;
        return before;
    }

    public int held(int ticket) {
        if (!now.hasTicket(ticket)) {
            return UNKNOWN;
        }
        if (now.isGone(ticket)) {
            return STATE;
        }
        int holders = 0;
        for (int person = 0; person < told.people; person++) {
            trial.start(now);
            trial.moment.holder[ticket] = person;
            if (trialMakesSeenSo()) {
                holders |= 1 << person;
            }
        }
        return holders;
    }

    // ---- chances

    public int losses(int person, int stop, int x, boolean upper) {
        if (!told.hasPerson(person)) {
            return UNKNOWN;
        }
        if (!isStop(stop) || x < 0 || x > TENTHS) {
            return OUTSIDE;
        }
        int there = now.notGone();
        int thereCount = Integer.bitCount(there);
        int sum = 0;
        for (int lost = 0; lost < TICKET_SETS; lost++) {
            if ((lost & ~there) == 0) {
                int lostCount = Integer.bitCount(lost);
                int weight = power(x, lostCount) * power(TENTHS - x, thereCount - lostCount);
                if (weight != 0 && endsAtAfterLosing(person, stop, lost)) {
                    sum += weight;
                }
            }
        }
        return fraction(sum, power(TENTHS, thereCount), upper);
    }

    public long seed(long v) {
        long before = theSeed;
        theSeed = v;
        return before;
    }

    public int years(int m) {
        if (m < 1 || m > MOST_YEARS) {
            return OUTSIDE;
        }
        int sum = 0;
        for (int year = 0; year < m; year++) {
            theSeed = theSeed * SEED_FACTOR + SEED_STEP;
            int lost = (int) ((theSeed >>> SEED_SHIFT) % TICKET_SETS);
            trial.start(now);
            trial.moment.gone |= lost;
            sum += trial.gladAtEnd();
        }
        return sum;
    }

    // ---- slots

    public int keep(int slot) {
        if (!isSlot(slot)) {
            return UNKNOWN;
        }
        keepIn(kept, slot);
        keptSlots |= 1 << slot;
        return now.day;
    }

    public int again(int slot) {
        if (!isSlot(slot)) {
            return UNKNOWN;
        }
        Moment before = kept[slot];
        if ((keptSlots >> slot & 1) == 0 || before == null) {
            return STATE;
        }
        now.copy(before);
        forgetActs();
        return now.day;
    }

    public int count(int what) {
        switch (what) {
            case 0: return letters;
            case 1: return told.people;
            case 2: return told.tickets;
            case 3: return now.day;
            case 4: return now.gone;
            case 5: return now.gladNow();
            case 6: return actsInRow;
            case 7: return seenCount;
            default: return OUTSIDE;
        }
    }

    // ---- what the calls share

    private static boolean isStop(int number) {
        return number >= 0 && number < STOPS;
    }

    private static boolean isSlot(int number) {
        return number >= 0 && number < SLOTS;
    }

    private int pairRefusal(int one, int other) {
        if (!told.hasPerson(one) || !told.hasPerson(other)) {
            return UNKNOWN;
        }
        return one == other ? OUTSIDE : TAKEN;
    }

    private int rideOf(int person) {
        now.findRides(trial.rides);
        return trial.rides[person];
    }

    private void rememberAct() {
        keepIn(acts, (firstAct + actsInRow) % MOST_ACTS);
        if (actsInRow < MOST_ACTS) {
            actsInRow++;
        } else {
            firstAct = (firstAct + 1) % MOST_ACTS;
        }
    }

    // Places are made when they are first needed: most runs need few of them.
    private void keepIn(Moment[] moments, int place) {
        Moment moment = moments[place];
        if (moment == null) {
            moment = new Moment(told);
            moments[place] = moment;
        }
        moment.copy(now);
    }

    private void forgetActs() {
        firstAct = 0;
        actsInRow = 0;
    }

    /** The first TICKET and PERSON, behind an earlier gift (or NONE), by which two MEET. */
    private int firstGift(int one, int other, int earlierTicket, int earlierPerson) {
        boolean behindAnother = now.hasTicket(earlierTicket);
        int firstTicket = behindAnother ? earlierTicket + 1 : 0;
        for (int ticket = firstTicket; ticket < told.tickets; ticket++) {
            for (int person = 0; person < told.people; person++) {
                if (now.canBeGiven(ticket, person)) {
                    trial.start(now);
                    if (behindAnother) {
                        trial.moment.holder[earlierTicket] = earlierPerson;
                    }
                    trial.moment.holder[ticket] = person;
                    if (trial.firstMeeting(one, other) != NONE) {
                        return 10 * ticket + person;
                    }
                }
            }
        }
        return NONE;
    }

    /**
     * Only rows whose second TICKET is the greater one are tried: the other way round they do the
     * same and are told by a greater number, and one TICKET given twice is as good as given once.
     */
    private int firstTwoGifts(int one, int other) {
        for (int ticket = 0; ticket < told.tickets; ticket++) {
            for (int person = 0; person < told.people; person++) {
                if (now.canBeGiven(ticket, person)) {
                    int second = firstGift(one, other, ticket, person);
                    if (second != NONE) {
                        return 1000 * ticket + 100 * person + second;
                    }
                }
            }
        }
        return NONE;
    }

    private int gladIfChanged(int ticket, int other) {
        if (!now.canBeChanged(ticket, other)) {
            return NONE;
        }
        trial.start(now);
        trial.moment.swapHolders(ticket, other);
        return trial.gladAtEnd();
    }

    private int gladWithOnly(int come) {
        trial.start(now);
        trial.moment.gone |= ~come;
        return trial.gladAtEnd();
    }

    private boolean endsAtAfterLosing(int person, int stop, int lost) {
        trial.start(now);
        trial.moment.gone |= lost;
        trial.passDaysTo(DAYS);
        return trial.moment.at[person] == stop;
    }

    /**
     * The seat for a blank TICKET that is never gone by, or NONE. On the way it is noted from where
     * the PERSON could go by a blank one: on other DAYS, and from elsewhere, it changes nothing.
     */
    private int seatOfUnusedBlank(int person, int stop) {
        int barred = 0;
        trial.start(now);
        for (int day = 0; day < DAYS; day++) {
            idleAt[day] = NONE;
            if (day >= now.day) {
                int at = trial.moment.at[person];
                trial.moment.passDay(trial.rides);
                idleAt[day] = trial.rides[person] == NONE ? at : NONE;
                barred |= trial.barredSeats(NONE);
            }
        }
        return trial.moment.at[person] == stop ? firstFreeSeat(barred) : NONE;
    }

    private static int firstUnusedBlank(int from, int seat) {
        int to = from == 0 ? 1 : 0;
        return seat == NONE ? NONE : 10 * to + seat;
    }

    /** Where a blank TICKET leads and its SEAT, from where the PERSON is idle on a DAY, or NONE. */
    private int firstUsedBlank(int person, int stop, int day) {
        for (int to = 0; to < STOPS; to++) {
            if (to != idleAt[day]) {
                int seat = seatOfUsedBlank(person, stop, day, to);
                if (seat != NONE) {
                    return 10 * to + seat;
                }
            }
        }
        return NONE;
    }

    /** Nobody's way hangs on a SEAT, so one trial tells which SEATS would do. */
    private int seatOfUsedBlank(int person, int stop, int day, int to) {
        int barred = 0;
        trial.start(now);
        int number = trial.addBlank(person, day, idleAt[day], to);
        for (int passing = now.day; passing < DAYS; passing++) {
            trial.moment.passDay(trial.rides);
            barred |= trial.barredSeats(number);
        }
        return trial.moment.at[person] == stop ? firstFreeSeat(barred) : NONE;
    }

    private static int firstFreeSeat(int barred) {
        for (int seat = 0; seat < SEATS; seat++) {
            if ((barred >> seat & 1) == 0) {
                return seat;
            }
        }
        return NONE;
    }

    private boolean trialMakesSeenSo() {
        for (int day = now.day; day < DAYS; day++) {
            if (!seenIsSoOn(day)) {
                return false;
            }
            trial.moment.passDay(trial.rides);
        }
        return seenIsSoOn(DAYS);
    }

    private boolean seenIsSoOn(int day) {
        for (int seen = 0; seen < seenCount; seen++) {
            int person = seenPerson[seen];
            if (seenDay[seen] == day && told.hasPerson(person)
                    && trial.moment.at[person] != seenStop[seen]) {
                return false;
            }
        }
        return true;
    }

    private static int factorial(int n) {
        int product = 1;
        for (int factor = 2; factor <= n; factor++) {
            product *= factor;
        }
        return product;
    }

    private static int power(int base, int exponent) {
        int product = 1;
        for (int factor = 0; factor < exponent; factor++) {
            product *= base;
        }
        return product;
    }

    private static int fraction(int above, int below, boolean upper) {
        int common = commonDivisor(Math.abs(above), below);
        if (common == 0) {
            return 0;
        }
        return (upper ? above : below) / common;
    }

    private static int commonDivisor(int one, int other) {
        int greater = one;
        int lesser = other;
        // Every second step halves the greater number at least: 64 steps are enough for any two.
        for (int step = 0; step < 64 && lesser != 0; step++) {
            int rest = greater % lesser;
            greater = lesser;
            lesser = rest;
        }
        return greater;
    }

    /** What a TEXT tells; it stays the same until another LINE is made. */
    private static final class Line {
        int people = 0;
        int tickets = 0;
        final int[] home = new int[MOST_PEOPLE];
        final int[] liked = new int[MOST_PEOPLE];
        final int[] kind = new int[MOST_PEOPLE];
        // TICKETS have one place more than a LINE can fill: a blank one stands there.
        final int[] forDay = new int[MOST_TICKETS + 1];
        final int[] from = new int[MOST_TICKETS + 1];
        final int[] to = new int[MOST_TICKETS + 1];
        final int[] seat = new int[MOST_TICKETS + 1];
        final int[] holder = new int[MOST_TICKETS + 1];

        boolean hasPerson(int number) {
            return number >= 0 && number < people;
        }

        void copy(Line other) {
            people = other.people;
            tickets = other.tickets;
            System.arraycopy(other.home, 0, home, 0, MOST_PEOPLE);
            System.arraycopy(other.liked, 0, liked, 0, MOST_PEOPLE);
            System.arraycopy(other.kind, 0, kind, 0, MOST_PEOPLE);
            System.arraycopy(other.forDay, 0, forDay, 0, MOST_TICKETS);
            System.arraycopy(other.from, 0, from, 0, MOST_TICKETS);
            System.arraycopy(other.to, 0, to, 0, MOST_TICKETS);
            System.arraycopy(other.seat, 0, seat, 0, MOST_TICKETS);
            System.arraycopy(other.holder, 0, holder, 0, MOST_TICKETS);
        }

        /** Takes what a TEXT tells, as far as its FAULT: which is answered, or NONE. */
        int read(int[] text, int letters) {
            people = 0;
            tickets = 0;
            if (letters < 1 || letters > text.length || text[0] != 'L') {
                return 0;
            }
            int size = 0;
            for (int place = 1; place < letters; place += size) {
                size = partSize(text[place]);
                if (size == 0) {
                    return place;
                }
                int fault = partFault(text, letters, place, size);
                if (fault != NONE) {
                    return fault;
                }
                takePart(text, place, size);
            }
            return NONE;
        }

        /** How long a PART is that begins with a letter; 0, if none can begin so here. */
        int partSize(int letter) {
            if (letter == 'P' && people < MOST_PEOPLE) {
                return PERSON_PART;
            }
            if (letter == 'T' && tickets < MOST_TICKETS && people > 0) {
                return TICKET_PART;
            }
            return 0;
        }

        int partFault(int[] text, int letters, int start, int size) {
            for (int step = 1; step < size; step++) {
                int place = start + step;
                if (place >= letters) {
                    return letters;
                }
                if (!figureFits(text, start, step, size)) {
                    return place;
                }
            }
            return NONE;
        }

        boolean figureFits(int[] text, int start, int step, int size) {
            int figure = text[start + step] - '0';
            if (figure < 0 || figure > 9) {
                return false;
            }
            if (size == PERSON_PART) {
                return step != 3 || figure <= LAST_KIND;
            }
            if (step == 3) {
                return figure != text[start + 2] - '0';
            }
            return step != 5 || figure < people;
        }

        void takePart(int[] text, int start, int size) {
            if (size == PERSON_PART) {
                home[people] = text[start + 1] - '0';
                liked[people] = text[start + 2] - '0';
                kind[people] = text[start + 3] - '0';
                people++;
            } else {
                forDay[tickets] = text[start + 1] - '0';
                from[tickets] = text[start + 2] - '0';
                to[tickets] = text[start + 3] - '0';
                seat[tickets] = text[start + 4] - '0';
                holder[tickets] = text[start + 5] - '0';
                tickets++;
            }
        }
    }

    /** THE DAY, where all are, and TICKETS: all that ACTS change and SLOTS keep. */
    private static final class Moment {
        final Line line;
        int day = 0;
        int tickets = 0;
        int returns = 0;
        int gone = 0;
        final int[] at = new int[MOST_PEOPLE];
        final int[] forDay = new int[MOST_TICKETS + 1];
        final int[] holder = new int[MOST_TICKETS + 1];

        Moment(Line line) {
            this.line = line;
        }

        void begin() {
            day = 0;
            tickets = line.tickets;
            returns = 0;
            gone = 0;
            System.arraycopy(line.home, 0, at, 0, MOST_PEOPLE);
            System.arraycopy(line.forDay, 0, forDay, 0, MOST_TICKETS);
            System.arraycopy(line.holder, 0, holder, 0, MOST_TICKETS);
        }

        void copy(Moment other) {
            day = other.day;
            tickets = other.tickets;
            returns = other.returns;
            gone = other.gone;
            System.arraycopy(other.at, 0, at, 0, MOST_PEOPLE);
            System.arraycopy(other.forDay, 0, forDay, 0, MOST_TICKETS);
            System.arraycopy(other.holder, 0, holder, 0, MOST_TICKETS);
        }

        boolean hasTicket(int number) {
            return number >= 0 && number < tickets;
        }

        boolean isGone(int ticket) {
            return (gone >> ticket & 1) != 0;
        }

        boolean isReturn(int ticket) {
            return (returns >> ticket & 1) != 0;
        }

        int notGone() {
            return ~gone & (1 << tickets) - 1;
        }

        // A TICKET is only ever as it was told or a return of that, so its STOPS need no place here.
        int from(int ticket) {
            return isReturn(ticket) ? line.to[ticket] : line.from[ticket];
        }

        int to(int ticket) {
            return isReturn(ticket) ? line.from[ticket] : line.to[ticket];
        }

        boolean canBeGiven(int ticket, int person) {
            return !isGone(ticket) && holder[ticket] != person;
        }

        boolean canBeChanged(int ticket, int other) {
            return !isGone(ticket) && !isGone(other) && holder[ticket] != holder[other];
        }

        void swapHolders(int ticket, int other) {
            int first = holder[ticket];
            holder[ticket] = holder[other];
            holder[other] = first;
        }

        int heldBy(int person) {
            int bits = 0;
            for (int ticket = 0; ticket < tickets; ticket++) {
                if (!isGone(ticket) && holder[ticket] == person) {
                    bits |= 1 << ticket;
                }
            }
            return bits;
        }

        int gladNow() {
            int glad = 0;
            for (int person = 0; person < line.people; person++) {
                if (at[person] == line.liked[person]) {
                    glad++;
                }
            }
            return glad;
        }

        /** Notes by which TICKET each PERSON goes this DAY, or NONE. */
        void findRides(int[] rides) {
            for (int person = 0; person < MOST_PEOPLE; person++) {
                rides[person] = NONE;
            }
            for (int ticket = 0; ticket < tickets; ticket++) {
                int person = holder[ticket];
                // Most TICKETS are for other DAYS, and trials come here often: the rest can wait.
                if (forDay[ticket] == day && line.hasPerson(person)
                        && rides[person] == NONE && canTake(ticket, person)) {
                    rides[person] = ticket;
                }
            }
        }

        // This is the deepest call of the longest search, so it calls nothing.
        boolean canTake(int ticket, int person) {
            int bit = 1 << ticket;
            int start = (returns & bit) != 0 ? line.to[ticket] : line.from[ticket];
            return (gone & bit) == 0 && line.kind[person] != STAYING && start == at[person];
        }

        /** A DAY: who went, as bits; by which TICKETS, stands in the rides. */
        int passDay(int[] rides) {
            int went = 0;
            findRides(rides);
            for (int person = 0; person < line.people; person++) {
                int ticket = rides[person];
                if (hasTicket(ticket)) {
                    at[person] = to(ticket);
                    useTicket(ticket, person);
                    went |= 1 << person;
                }
            }
            day++;
            return went;
        }

        void useTicket(int ticket, int person) {
            int kind = line.kind[person];
            if (kind == CHILD && !isReturn(ticket) && day + RETURN_AFTER < DAYS) {
                returns |= 1 << ticket;
                forDay[ticket] = day + RETURN_AFTER;
            } else if (kind == READER && day + READ_AFTER < DAYS) {
                // "As it was told": a return that a READER used is none any more.
                returns &= ~(1 << ticket);
                forDay[ticket] = day + READ_AFTER;
                holder[ticket] = person + 1 < line.people ? person + 1 : 0;
            } else {
                gone |= 1 << ticket;
            }
        }
    }

    /** A Moment that is led on to see what would come, while the one it began from stays. */
    private static final class Trial {
        final Line line;
        final Moment moment;
        final int[] rides = new int[MOST_PEOPLE];

        Trial(Line line) {
            this.line = line;
            moment = new Moment(line);
        }

        void start(Moment from) {
            moment.copy(from);
        }

        /** Answers the number of the blank TICKET, behind all others. */
        int addBlank(int person, int day, int from, int to) {
            int number = line.tickets;
            line.from[number] = from;
            line.to[number] = to;
            moment.forDay[number] = day;
            moment.holder[number] = person;
            moment.tickets = number + 1;
            return number;
        }

        void passDaysTo(int day) {
            for (int passing = moment.day; passing < day; passing++) {
                moment.passDay(rides);
            }
        }

        int journeysToEnd() {
            int journeys = 0;
            for (int passing = moment.day; passing < DAYS; passing++) {
                journeys += Integer.bitCount(moment.passDay(rides));
            }
            return journeys;
        }

        int gladAtEnd() {
            passDaysTo(DAYS);
            return moment.gladNow();
        }

        int firstMeeting(int one, int other) {
            for (int passing = moment.day; passing < DAYS; passing++) {
                moment.passDay(rides);
                if (wentTogether(one, other)) {
                    return passing;
                }
            }
            return NONE;
        }

        int firstDouble() {
            for (int passing = moment.day; passing < DAYS; passing++) {
                moment.passDay(rides);
                if (barredSeats(NONE) != 0) {
                    return passing;
                }
            }
            return NONE;
        }

        boolean wentTogether(int one, int other) {
            int first = rides[one];
            int second = rides[other];
            if (!moment.hasTicket(first) || !moment.hasTicket(second)) {
                return false;
            }
            return Math.max(lowEnd(first), lowEnd(second)) < Math.min(highEnd(first), highEnd(second));
        }

        // There and back go over the same stretches, so it does not matter if it is a return.
        int lowEnd(int ticket) {
            return Math.min(line.from[ticket], line.to[ticket]);
        }

        int highEnd(int ticket) {
            return Math.max(line.from[ticket], line.to[ticket]);
        }

        /**
         * The SEATS that a blank TICKET may not have because of the DAY that has just gone by: those
         * beside which it was gone by, and every one, if two others had ONE SEAT.
         */
        int barredSeats(int blank) {
            int barred = 0;
            for (int one = 0; one < line.people; one++) {
                for (int other = one + 1; other < line.people; other++) {
                    if (wentTogether(one, other)) {
                        barred |= barredByPair(rides[one], rides[other], blank);
                    }
                }
            }
            return barred;
        }

        int barredByPair(int first, int second, int blank) {
            if (first == blank) {
                return 1 << line.seat[second];
            }
            if (second == blank) {
                return 1 << line.seat[first];
            }
            return line.seat[first] == line.seat[second] ? ALL_SEATS : 0;
        }
    }
}
