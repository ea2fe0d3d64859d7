/** A hall of lockers that are lent. All that it holds is made in the constructor and used again. */
public final class LockerChains {
    public static final int INVALID_ARGUMENT = -1;
    public static final int NOT_POSSIBLE = -2;
    public static final int LIMIT_REACHED = -3;
    public static final int NOT_FOUND = -4;

    private static final int NONE = -1;

    private static final int MAX_LOCKERS = 12;
    private static final int MAX_PEOPLE = 10;
    private static final int LARGEST_SIZE = 2;
    private static final int ANY_SIZE = 3;
    private static final int ROW_PLACES = 4;
    private static final int LONGEST_RING = 3;

    private static final int LOAN_DAYS = 0;
    private static final int MOST_RENEWALS = 1;
    private static final int OPENING_COST = 2;
    private static final int SETTINGS = 3;
    private static final int FIRST_SETTING_COUNT = 20;

    private static final int MOST_DEBT_TO_LEND = 30;
    private static final int WAITING_ANSWER = 100;
    private static final int KEY_COST = 5;
    private static final int LOCK_COST = 20;
    private static final int CLOSED_DAYS = 3;
    private static final int OPENING_DAY = 21;
    private static final int MAX_COINS = 999;
    private static final int MAX_DAYS = 99;
    private static final int LAST_DAY = 5000;

    private static final int KEPT_STATES = 4;
    private static final int MAX_TEXT = 80;
    private static final int MAX_DIGITS = 3;
    private static final int NOT_OF_THE_FORM = 1;
    private static final int REFUSED = 2;

    private final Hall hall = new Hall();
    private final History history = new History();
    private final Text text = new Text();
    private final Rehearsal rehearsal = new Rehearsal();

    public LockerChains() {
    }

    // ---- lockers, people

    public int locker(int size) {
        history.prepare(hall);
        return history.settle(hall.addLocker(size));
    }

    public int person() {
        history.prepare(hall);
        return history.settle(hall.addPerson());
    }

    public int stand(int locker, int row) {
        history.prepare(hall);
        return history.settle(hall.putIntoRow(locker, row));
    }

    // ---- loans

    public int lend(int person, int size) {
        history.prepare(hall);
        return history.settle(hall.lendTo(person, size));
    }

    public int giveBack(int person) {
        history.prepare(hall);
        return history.settle(hall.takeBack(person));
    }

    public int renew(int person) {
        history.prepare(hall);
        return history.settle(hall.prolong(person));
    }

    public int lose(int person) {
        history.prepare(hall);
        return history.settle(hall.loseKey(person));
    }

    public int wish(int person, int size) {
        history.prepare(hall);
        return history.settle(hall.wishFor(person, size));
    }

    public int noWish(int person) {
        history.prepare(hall);
        return history.settle(hall.endWish(person));
    }

    public int swap() {
        history.prepare(hall);
        return history.settle(hall.swapAll());
    }

    public int pay(int person, int coins) {
        history.prepare(hall);
        return history.settle(hall.payCoins(person, coins));
    }

    public int pass(int days) {
        history.prepare(hall);
        return history.settle(hall.passDays(days, LAST_DAY));
    }

    public int set(int what, int value) {
        history.prepare(hall);
        return history.settle(hall.changeSetting(what, value));
    }

    // ---- what there is

    public int personOf(int person, int what) {
        return hall.tellOfPerson(person, what);
    }

    public int lockerOf(int locker, int what) {
        return hall.tellOfLocker(locker, what);
    }

    public int waitingAt(int index, int what) {
        if (index < 0 || what < 0 || what > 1) {
            return INVALID_ARGUMENT;
        }
        if (index >= hall.waiting.length) {
            return NOT_FOUND;
        }
        return what == 0 ? hall.waiting.personAt(index) : hall.waiting.sizeAt(index);
    }

    public int count(int what) {
        switch (what) {
            case 12:
                return history.states;
            case 13:
                return text.length;
            default:
                return hall.tellNumber(what);
        }
    }

    // ---- what would be, shares

    public int feeIn(int person, int days) {
        return rehearsal.feeOf(hall, person, days);
    }

    public int wouldHave(int person) {
        return rehearsal.lockerBehindSwapping(hall, person);
    }

    public long lentBits() {
        int standing = 0;
        for (int size = 0; size <= LARGEST_SIZE; size++) {
            standing += hall.standingOf(size);
        }
        if (standing == 0) {
            return NOT_FOUND;
        }
        return bitsOfDouble((double) hall.lentLockers() / (double) standing);
    }

    public int overdueBits() {
        int loans = hall.lentLockers();
        if (loans == 0) {
            return NOT_FOUND;
        }
        return bitsOfFloat((float) hall.overdueDays() / (float) loans);
    }

    public int undo() {
        return history.restore(hall);
    }

    // ---- texts

    public int type(int character) {
        return text.append(character);
    }

    public int clearText() {
        return text.clear();
    }

    public int fault(int what) {
        if (what < 0 || what > 2) {
            return INVALID_ARGUMENT;
        }
        rehearsal.playText(hall, text);
        if (!rehearsal.failed() || (what == 2 && rehearsal.reason == NOT_OF_THE_FORM)) {
            return NOT_FOUND;
        }
        switch (what) {
            case 0:
                return rehearsal.place;
            case 1:
                return rehearsal.reason;
            default:
                return rehearsal.cause;
        }
    }

    public int play() {
        rehearsal.playText(hall, text);
        if (rehearsal.failed()) {
            return NOT_POSSIBLE;
        }
        history.prepare(hall);
        hall.copyFrom(rehearsal.trial);
        return history.settle(rehearsal.commands);
    }

    // The library that is allowed has no function for bits, so they are put together here.
    private static long bitsOfDouble(double value) {
        if (!(value > 0.0)) {
            return 0L;
        }
        double part = value;
        int exponent = 1023;
        for (int i = 0; i < 1023 && part < 1.0; i++) {
            part = part * 2.0;
            exponent--;
        }
        for (int i = 0; i < 1023 && part >= 2.0; i++) {
            part = part / 2.0;
            exponent++;
        }
        return ((long) exponent << 52) | (long) ((part - 1.0) * 4503599627370496.0);
    }

    private static int bitsOfFloat(float value) {
        if (!(value > 0.0f)) {
            return 0;
        }
        float part = value;
        int exponent = 127;
        for (int i = 0; i < 127 && part < 1.0f; i++) {
            part = part * 2.0f;
            exponent--;
        }
        for (int i = 0; i < 127 && part >= 2.0f; i++) {
            part = part / 2.0f;
            exponent++;
        }
        return (exponent << 23) | (int) ((part - 1.0f) * 8388608.0f);
    }

    private static final class Locker {
        private final int number;
        private int size;
        private boolean standing;
        private int holder = NONE;
        private boolean spareKey = true;
        private int opensOn = NONE;
        private int timesLent;

        Locker(int number) {
            this.number = number;
        }

        boolean isFree() {
            return standing && holder == NONE && opensOn == NONE;
        }

        void copyFrom(Locker other) {
            size = other.size;
            standing = other.standing;
            holder = other.holder;
            spareKey = other.spareKey;
            opensOn = other.opensOn;
            timesLent = other.timesLent;
        }
    }

    private static final class Person {
        private final int number;
        private int locker = NONE;
        private int due;
        private int renewals;
        private int owed;
        private int paid;
        private int keysLost;
        private int lockersOpened;

        Person(int number) {
            this.number = number;
        }

        int overdueOn(int day) {
            return locker == NONE || day <= due ? 0 : day - due;
        }

        void copyFrom(Person other) {
            locker = other.locker;
            due = other.due;
            renewals = other.renewals;
            owed = other.owed;
            paid = other.paid;
            keysLost = other.keysLost;
            lockersOpened = other.lockersOpened;
        }
    }

    /** People in the order in which they came, each once and with a size. */
    private static final class Line {
        private final int[] people = new int[MAX_PEOPLE];
        private final int[] sizes = new int[MAX_PEOPLE];
        private int length;

        int personAt(int place) {
            return place >= 0 && place < length && place < MAX_PEOPLE ? people[place] : NONE;
        }

        int sizeAt(int place) {
            return place >= 0 && place < length && place < MAX_PEOPLE ? sizes[place] : NONE;
        }

        int placeOf(int person) {
            for (int i = 0; i < length && i < MAX_PEOPLE; i++) {
                if (people[i] == person) {
                    return i;
                }
            }
            return NONE;
        }

        int sizeOf(int person) {
            for (int i = 0; i < length && i < MAX_PEOPLE; i++) {
                if (people[i] == person) {
                    return sizes[i];
                }
            }
            return NONE;
        }

        /** The first who came for a size or for any. */
        int firstFor(int size) {
            for (int i = 0; i < length && i < MAX_PEOPLE; i++) {
                if (sizes[i] == size || sizes[i] == ANY_SIZE) {
                    return people[i];
                }
            }
            return NONE;
        }

        void add(int person, int size) {
            if (length < MAX_PEOPLE) {
                people[length] = person;
                sizes[length] = size;
                length++;
            }
        }

        void remove(int person) {
            int kept = 0;
            for (int i = 0; i < length && i < MAX_PEOPLE; i++) {
                if (people[i] != person) {
                    people[kept] = people[i];
                    sizes[kept] = sizes[i];
                    kept++;
                }
            }
            length = kept;
        }

        void copyFrom(Line other) {
            for (int i = 0; i < MAX_PEOPLE; i++) {
                people[i] = other.people[i];
                sizes[i] = other.sizes[i];
            }
            length = other.length;
        }
    }

    /** Everything that a change records: all but the text. */
    private static final class Hall {
        private final Locker[] lockers = new Locker[MAX_LOCKERS];
        private final Person[] people = new Person[MAX_PEOPLE];
        private final Line waiting = new Line();
        private final Line wishes = new Line();
        private final int[] settings = new int[SETTINGS];
        // No state: the ring that was found last, here only so that it is made once.
        private final int[] ring = new int[LONGEST_RING];
        private int lockerCount;
        private int personCount;
        private int day;
        private int moved;

        Hall() {
            for (int i = 0; i < MAX_LOCKERS; i++) {
                lockers[i] = new Locker(i);
            }
            for (int i = 0; i < MAX_PEOPLE; i++) {
                people[i] = new Person(i);
            }
            settings[LOAN_DAYS] = 10;
            settings[MOST_RENEWALS] = 2;
            settings[OPENING_COST] = 15;
        }

        void copyFrom(Hall other) {
            for (int i = 0; i < MAX_LOCKERS; i++) {
                lockers[i].copyFrom(other.lockers[i]);
            }
            for (int i = 0; i < MAX_PEOPLE; i++) {
                people[i].copyFrom(other.people[i]);
            }
            for (int i = 0; i < SETTINGS; i++) {
                settings[i] = other.settings[i];
            }
            waiting.copyFrom(other.waiting);
            wishes.copyFrom(other.wishes);
            lockerCount = other.lockerCount;
            personCount = other.personCount;
            day = other.day;
            moved = other.moved;
        }

        private Locker lockerAt(int number) {
            return number >= 0 && number < lockerCount && number < MAX_LOCKERS ? lockers[number] : null;
        }

        private Person personAt(int number) {
            return number >= 0 && number < personCount && number < MAX_PEOPLE ? people[number] : null;
        }

        private Locker lockerOfPerson(int number) {
            Person who = personAt(number);
            return who == null ? null : lockerAt(who.locker);
        }

        int addLocker(int size) {
            if (size < 0 || size > LARGEST_SIZE) {
                return INVALID_ARGUMENT;
            }
            if (lockerCount >= MAX_LOCKERS) {
                return LIMIT_REACHED;
            }
            lockers[lockerCount].size = size;
            lockerCount++;
            return lockerCount - 1;
        }

        int addPerson() {
            if (personCount >= MAX_PEOPLE) {
                return LIMIT_REACHED;
            }
            personCount++;
            return personCount - 1;
        }

        int putIntoRow(int number, int row) {
            Locker locker = lockerAt(number);
            if (locker == null || row < 0 || row > LARGEST_SIZE) {
                return INVALID_ARGUMENT;
            }
            // A row's number is the size that it takes.
            if (locker.standing || locker.size != row) {
                return NOT_POSSIBLE;
            }
            int before = standingOf(row);
            if (before >= ROW_PLACES) {
                return LIMIT_REACHED;
            }
            locker.standing = true;
            offer(locker);
            return before + 1;
        }

        int lendTo(int number, int size) {
            Person who = personAt(number);
            if (who == null || size < 0 || size > ANY_SIZE) {
                return INVALID_ARGUMENT;
            }
            if (who.locker != NONE || waiting.placeOf(number) != NONE || who.owed > MOST_DEBT_TO_LEND) {
                return NOT_POSSIBLE;
            }
            Locker free = lowestFree(size);
            if (free == null) {
                waiting.add(number, size);
                return WAITING_ANSWER + waiting.length;
            }
            beginLoan(who, free);
            return free.number;
        }

        int takeBack(int number) {
            Person who = personAt(number);
            if (who == null) {
                return INVALID_ARGUMENT;
            }
            if (waiting.placeOf(number) != NONE) {
                waiting.remove(number);
                return 0;
            }
            Locker own = lockerAt(who.locker);
            if (own == null) {
                return NOT_POSSIBLE;
            }
            int overdue = who.overdueOn(day);
            endLoan(who, own);
            offer(own);
            return overdue;
        }

        int prolong(int number) {
            Person who = personAt(number);
            if (who == null) {
                return INVALID_ARGUMENT;
            }
            Locker own = lockerAt(who.locker);
            if (own == null || who.overdueOn(day) > 0 || waiting.firstFor(own.size) != NONE) {
                return NOT_POSSIBLE;
            }
            if (who.renewals >= settings[MOST_RENEWALS]) {
                return LIMIT_REACHED;
            }
            who.renewals++;
            who.due += settings[LOAN_DAYS];
            return who.due;
        }

        int loseKey(int number) {
            Person who = personAt(number);
            if (who == null) {
                return INVALID_ARGUMENT;
            }
            Locker own = lockerAt(who.locker);
            if (own == null) {
                return NOT_POSSIBLE;
            }
            who.keysLost++;
            who.owed += KEY_COST;
            if (own.spareKey) {
                own.spareKey = false;
            } else {
                changeLock(who, own);
            }
            return who.owed;
        }

        private void changeLock(Person who, Locker own) {
            who.owed += LOCK_COST;
            endLoan(who, own);
            own.spareKey = true;
            own.opensOn = day + CLOSED_DAYS;
            Locker other = lowestFree(own.size);
            if (other == null) {
                waiting.add(who.number, own.size);
            } else {
                beginLoan(who, other);
            }
        }

        int wishFor(int number, int size) {
            Person who = personAt(number);
            if (who == null || size < 0 || size > LARGEST_SIZE) {
                return INVALID_ARGUMENT;
            }
            Locker own = lockerAt(who.locker);
            if (own == null || own.size == size) {
                return NOT_POSSIBLE;
            }
            wishes.remove(number);
            wishes.add(number, size);
            return wishes.length;
        }

        int endWish(int number) {
            if (personAt(number) == null) {
                return INVALID_ARGUMENT;
            }
            int size = wishes.sizeOf(number);
            if (size == NONE) {
                return NOT_POSSIBLE;
            }
            wishes.remove(number);
            return size;
        }

        int swapAll() {
            int movedNow = 0;
            // Each step but the last ends a wish at least, so there are not more steps than people and one.
            for (int step = 0; step <= MAX_PEOPLE; step++) {
                int movers = moveToFree();
                if (movers == 0) {
                    movers = findRing();
                    moveAround(movers);
                }
                if (movers == 0) {
                    break;
                }
                movedNow += movers;
            }
            moved += movedNow;
            return movedNow;
        }

        private int moveToFree() {
            for (int i = 0; i < wishes.length; i++) {
                int number = wishes.personAt(i);
                Locker free = lowestFree(wishes.sizeAt(i));
                Locker old = lockerOfPerson(number);
                if (free != null && old != null) {
                    old.holder = NONE;
                    move(number, free);
                    offer(old);
                    return 1;
                }
            }
            return 0;
        }

        /** Puts the people of the ring that is ahead of all others into ring; returns how many they are. */
        private int findRing() {
            for (int first = 0; first < MAX_PEOPLE; first++) {
                for (int second = first + 1; second < MAX_PEOPLE; second++) {
                    if (!wants(people[first], people[second])) {
                        continue;
                    }
                    ring[0] = first;
                    ring[1] = second;
                    if (wants(people[second], people[first])) {
                        return 2;
                    }
                    for (int third = first + 1; third < MAX_PEOPLE; third++) {
                        if (third != second && wants(people[second], people[third])
                            && wants(people[third], people[first])) {
                            ring[2] = third;
                            return 3;
                        }
                    }
                }
            }
            return 0;
        }

        private boolean wants(Person who, Person next) {
            Locker locker = lockerAt(next.locker);
            return locker != null && wishes.sizeOf(who.number) == locker.size;
        }

        /** Moves each of the ring to the locker of the next, the last to that of the first. */
        private void moveAround(int movers) {
            Locker ofFirst = lockerOfPerson(ring[0]);
            for (int i = 0; i < movers && i < LONGEST_RING; i++) {
                boolean hasNext = i + 1 < movers && i + 1 < LONGEST_RING;
                move(ring[i], hasNext ? lockerOfPerson(ring[i + 1]) : ofFirst);
            }
        }

        int payCoins(int number, int coins) {
            Person who = personAt(number);
            if (who == null || coins < 1 || coins > MAX_COINS) {
                return INVALID_ARGUMENT;
            }
            if (who.owed < coins) {
                return NOT_POSSIBLE;
            }
            who.owed -= coins;
            who.paid += coins;
            return who.owed;
        }

        int passDays(int days, int lastDay) {
            if (days < 1 || days > MAX_DAYS) {
                return INVALID_ARGUMENT;
            }
            if (day + days > lastDay) {
                return LIMIT_REACHED;
            }
            int opened = 0;
            for (int i = 0; i < days; i++) {
                day++;
                endClosing();
                opened += chargeOverdue();
            }
            return opened;
        }

        private void endClosing() {
            for (int i = 0; i < MAX_LOCKERS; i++) {
                Locker locker = lockers[i];
                if (locker.opensOn != NONE && locker.opensOn <= day) {
                    locker.opensOn = NONE;
                    offer(locker);
                }
            }
        }

        /** Lets all who are overdue owe the fee of the day; returns how many lockers are opened. */
        private int chargeOverdue() {
            int opened = 0;
            for (int i = 0; i < MAX_PEOPLE; i++) {
                Person who = people[i];
                int overdue = who.overdueOn(day);
                Locker own = overdue > 0 ? lockerAt(who.locker) : null;
                if (own != null) {
                    who.owed += feeOfDay(overdue) * (own.size + 1);
                    if (overdue >= OPENING_DAY) {
                        who.owed += settings[OPENING_COST];
                        who.lockersOpened++;
                        endLoan(who, own);
                        offer(own);
                        opened++;
                    }
                }
            }
            return opened;
        }

        private static int feeOfDay(int overdue) {
            if (overdue <= 7) {
                return 1;
            }
            return overdue <= 14 ? 2 : 4;
        }

        int changeSetting(int what, int value) {
            if (what < 0 || what >= SETTINGS || value < lowestSetting(what) || value > highestSetting(what)) {
                return INVALID_ARGUMENT;
            }
            int before = settings[what];
            settings[what] = value;
            return before;
        }

        private static int lowestSetting(int what) {
            return what == LOAN_DAYS ? 1 : 0;
        }

        private static int highestSetting(int what) {
            switch (what) {
                case LOAN_DAYS:
                    return 60;
                case MOST_RENEWALS:
                    return 5;
                default:
                    return 99;
            }
        }

        private Locker lowestFree(int size) {
            for (int i = 0; i < MAX_LOCKERS; i++) {
                Locker locker = lockers[i];
                if (locker.isFree() && (size == ANY_SIZE || size == locker.size)) {
                    return locker;
                }
            }
            return null;
        }

        /** Gives a locker that has become free to the first who waits for it. */
        private void offer(Locker locker) {
            Person who = personAt(waiting.firstFor(locker.size));
            if (who != null && locker.isFree()) {
                waiting.remove(who.number);
                beginLoan(who, locker);
            }
        }

        private void beginLoan(Person who, Locker locker) {
            who.locker = locker.number;
            who.due = day + settings[LOAN_DAYS];
            who.renewals = 0;
            locker.holder = who.number;
            locker.timesLent++;
        }

        /** The locker is not offered here: it may be closed instead. */
        private void endLoan(Person who, Locker locker) {
            who.locker = NONE;
            locker.holder = NONE;
            wishes.remove(who.number);
        }

        /** The loan goes along; what becomes of the locker that is left is the caller's affair. */
        private void move(int number, Locker locker) {
            Person who = personAt(number);
            if (who == null || locker == null) {
                return;
            }
            who.locker = locker.number;
            locker.holder = number;
            locker.timesLent++;
            wishes.remove(number);
        }

        int tellOfPerson(int number, int what) {
            Person who = personAt(number);
            if (who == null || what < 0 || what > 9) {
                return INVALID_ARGUMENT;
            }
            if (what <= 3 && who.locker == NONE) {
                return NOT_FOUND;
            }
            switch (what) {
                case 0:
                    return who.locker;
                case 1:
                    return who.due;
                case 2:
                    return who.renewals;
                case 3:
                    return who.overdueOn(day);
                case 4:
                    return who.owed;
                case 5:
                    return who.paid;
                case 6:
                    return foundOr(wishes.sizeOf(number));
                case 7:
                    return foundOr(waiting.placeOf(number));
                case 8:
                    return who.keysLost;
                default:
                    return who.lockersOpened;
            }
        }

        int tellOfLocker(int number, int what) {
            Locker locker = lockerAt(number);
            if (locker == null) {
                return INVALID_ARGUMENT;
            }
            switch (what) {
                case 0:
                    return locker.size;
                case 1:
                    return locker.standing ? 1 : 0;
                case 2:
                    return foundOr(locker.holder);
                case 3:
                    return locker.isFree() ? 1 : 0;
                case 4:
                    return locker.spareKey ? 1 : 0;
                case 5:
                    return foundOr(locker.opensOn);
                case 6:
                    return locker.timesLent;
                default:
                    return INVALID_ARGUMENT;
            }
        }

        private static int foundOr(int value) {
            return value == NONE ? NOT_FOUND : value;
        }

        int tellNumber(int what) {
            switch (what) {
                case 0:
                    return lockerCount;
                case 1:
                    return personCount;
                case 2:
                    return day;
                case 3:
                    return freeLockers();
                case 4:
                    return lentLockers();
                case 5:
                    return closedLockers();
                case 6:
                    return waiting.length;
                case 7:
                    return wishes.length;
                case 8:
                    return owedByAll();
                case 9:
                    return paidByAll();
                case 10:
                    // Every coin owed anew is owed still or paid by now.
                    return owedByAll() + paidByAll();
                case 11:
                    return moved;
                default:
                    return tellSetting(what - FIRST_SETTING_COUNT);
            }
        }

        private int tellSetting(int what) {
            return what >= 0 && what < SETTINGS ? settings[what] : INVALID_ARGUMENT;
        }

        int standingOf(int size) {
            int sum = 0;
            for (int i = 0; i < MAX_LOCKERS; i++) {
                sum += lockers[i].standing && lockers[i].size == size ? 1 : 0;
            }
            return sum;
        }

        int lentLockers() {
            int sum = 0;
            for (int i = 0; i < MAX_LOCKERS; i++) {
                sum += lockers[i].holder != NONE ? 1 : 0;
            }
            return sum;
        }

        private int freeLockers() {
            int sum = 0;
            for (int i = 0; i < MAX_LOCKERS; i++) {
                sum += lockers[i].isFree() ? 1 : 0;
            }
            return sum;
        }

        private int closedLockers() {
            int sum = 0;
            for (int i = 0; i < MAX_LOCKERS; i++) {
                sum += lockers[i].opensOn != NONE ? 1 : 0;
            }
            return sum;
        }

        private int owedByAll() {
            int sum = 0;
            for (int i = 0; i < MAX_PEOPLE; i++) {
                sum += people[i].owed;
            }
            return sum;
        }

        private int paidByAll() {
            int sum = 0;
            for (int i = 0; i < MAX_PEOPLE; i++) {
                sum += people[i].paid;
            }
            return sum;
        }

        int overdueDays() {
            int sum = 0;
            for (int i = 0; i < MAX_PEOPLE; i++) {
                sum += people[i].overdueOn(day);
            }
            return sum;
        }
    }

    /** The states before the latest changes. One slot more is for the state before a call that may still fail. */
    private static final class History {
        private static final int SLOTS = KEPT_STATES + 1;

        private final Hall[] slots = new Hall[SLOTS];
        private int oldest;
        private int states;

        History() {
            for (int i = 0; i < SLOTS; i++) {
                slots[i] = new Hall();
            }
        }

        private Hall slot(int place) {
            return slots[Math.floorMod(oldest + place, SLOTS)];
        }

        void prepare(Hall hall) {
            slot(states).copyFrom(hall);
        }

        /** Keeps what was prepared if the call's answer is no error, and hands the answer on. */
        int settle(int answer) {
            if (answer >= 0) {
                states++;
                if (states > KEPT_STATES) {
                    states = KEPT_STATES;
                    oldest = Math.floorMod(oldest + 1, SLOTS);
                }
            }
            return answer;
        }

        int restore(Hall hall) {
            if (states == 0) {
                return NOT_POSSIBLE;
            }
            states--;
            hall.copyFrom(slot(states));
            return states;
        }
    }

    private enum Verb {
        LEND("lend", 2),
        BACK("back", 1),
        RENEW("renew", 1),
        LOSE("lose", 1),
        WISH("wish", 2),
        SWAP("swap", 0),
        PAY("pay", 2),
        PASS("pass", 1);

        private final String word;
        private final int numbers;

        Verb(String word, int numbers) {
            this.word = word;
            this.numbers = numbers;
        }
    }

    /** The text, and the command that was read from it last. */
    private static final class Text {
        private static final Verb[] VERBS = Verb.values();

        private final char[] signs = new char[MAX_TEXT];
        private int length;
        private Verb verb;
        private int first;
        private int second;
        private int end;

        int append(int character) {
            if (character < 32 || character > 126) {
                return INVALID_ARGUMENT;
            }
            if (length >= MAX_TEXT) {
                return LIMIT_REACHED;
            }
            signs[length] = (char) character;
            length++;
            return length;
        }

        int clear() {
            int before = length;
            length = 0;
            return before;
        }

        /** Reads the command that begins at a place, its ";" included; false if it is not of the form. */
        boolean readCommand(int start) {
            verb = verbAt(start);
            if (verb == null) {
                return false;
            }
            end = start + verb.word.length();
            first = verb.numbers >= 1 ? readNumber() : 0;
            second = verb.numbers >= 2 ? readNumber() : 0;
            if (first == NONE || second == NONE || signAt(end) != ';') {
                return false;
            }
            end++;
            return true;
        }

        private Verb verbAt(int start) {
            for (int i = 0; i < VERBS.length; i++) {
                if (hasWordAt(start, VERBS[i].word)) {
                    return VERBS[i];
                }
            }
            return null;
        }

        private boolean hasWordAt(int start, String word) {
            for (int i = 0; i < word.length(); i++) {
                if (signAt(start + i) != word.charAt(i)) {
                    return false;
                }
            }
            return true;
        }

        /** Reads a blank and a number where the last reading ended; NONE if they are not there. */
        private int readNumber() {
            if (signAt(end) != ' ') {
                return NONE;
            }
            end++;
            int digits = 0;
            int value = 0;
            while (digits < MAX_DIGITS && signAt(end) >= '0' && signAt(end) <= '9') {
                value = value * 10 + (signAt(end) - '0');
                digits++;
                end++;
            }
            return digits == 0 ? NONE : value;
        }

        private char signAt(int place) {
            return place >= 0 && place < length && place < MAX_TEXT ? signs[place] : (char) 0;
        }
    }

    /** Does on a hall of its own what would be done, and tells what came of it. */
    private static final class Rehearsal {
        private final Hall trial = new Hall();
        private int place;
        private int reason;
        private int cause;
        private int commands;

        int feeOf(Hall hall, int number, int days) {
            Person who = hall.personAt(number);
            if (who == null || days < 1 || days > MAX_DAYS) {
                return INVALID_ARGUMENT;
            }
            trial.copyFrom(hall);
            trial.passDays(days, LAST_DAY + MAX_DAYS);
            Person then = trial.personAt(number);
            return then == null ? INVALID_ARGUMENT : then.owed - who.owed;
        }

        int lockerBehindSwapping(Hall hall, int number) {
            trial.copyFrom(hall);
            trial.swapAll();
            return trial.tellOfPerson(number, 0);
        }

        /** Does the commands of a text up to its fault, if it has one. */
        void playText(Hall hall, Text text) {
            trial.copyFrom(hall);
            place = NONE;
            commands = 0;
            int start = 0;
            // A command has one character at least, so there are not more of them than characters.
            for (int i = 0; i < MAX_TEXT && start < text.length; i++) {
                if (!text.readCommand(start)) {
                    noteFault(start, NOT_OF_THE_FORM, 0);
                    return;
                }
                int answer = obey(text.verb, text.first, text.second);
                if (answer < 0) {
                    noteFault(start, REFUSED, answer);
                    return;
                }
                commands++;
                start = text.end;
            }
        }

        boolean failed() {
            return place != NONE;
        }

        private void noteFault(int start, int why, int answer) {
            place = start;
            reason = why;
            cause = answer;
        }

        private int obey(Verb verb, int first, int second) {
            switch (verb) {
                case LEND:
                    return trial.lendTo(first, second);
                case BACK:
                    return trial.takeBack(first);
                case RENEW:
                    return trial.prolong(first);
                case LOSE:
                    return trial.loseKey(first);
                case WISH:
                    return trial.wishFor(first, second);
                case SWAP:
                    return trial.swapAll();
                case PAY:
                    return trial.payCoins(first, second);
                default:
                    return trial.passDays(first, LAST_DAY);
            }
        }
    }
}
