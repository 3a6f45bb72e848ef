import java.util.Arrays;

/** Division of the rent of a shared flat. ../shared/DOC.md says what each call answers. */
public final class RentDivision {
    public static final int METHOD = 0, SHARE = 1, AUTO = 2;
    public static final int LOW = 0, HIGH = 1, MIDDLE = 2;
    public static final int WAITING = 0, LIVING = 1, GONE = 2;
    public static final int LANDLORD = 10;
    public static final int NOT_FOUND = -1;
    public static final int BAD_VALUE = -2;
    public static final int FULL = -3;
    public static final int NOT_ALLOWED = -4;
    public static final int NO_NUMBER = -2000000000;
    public static final int SYNTAX_ERROR = -11, RANGE_ERROR = -12, NAME_ERROR = -13, DUPLICATE_ERROR = -14, COUNT_ERROR = -15;

    private static final int MOST_ROOMS = 6;
    private static final int MOST_PEOPLE = 10;
    private static final int MOST_PLANS = 20;
    private static final int MOST_UNDOS = 10;
    private static final int MOST_BYTES = 900;
    private static final int BYTES_A_FEED = 20;
    private static final int LONGEST_NAME = 6;
    private static final int BITS_A_LETTER = 5;
    private static final int SETTINGS = 3;
    private static final int MOST_MONEY = 99999;
    private static final int MOST_VALUE = 9999;
    private static final int MOST_PERCENT = 100;
    private static final int LAST_MONTH = 999;
    private static final int MOST_MONTHS_A_CALL = 24;
    private static final int PARTS = 120;
    /** Stands where the value of a room would, if the person refuses the room. */
    private static final int REFUSED = -1;

    private final Loader loader;
    private final Roster roster;
    private final Flat flat;
    private final History history;
    private final Proposal proposal;
    /** The proposal is made when it is asked for, and kept until something changes. */
    private boolean proposalStands;
    private final Choice trialChoice;
    private final Settlement settlement;
    private final Page page;

    public RentDivision() {
        loader = new Loader();
        roster = new Roster();
        flat = new Flat();
        history = new History();
        proposal = new Proposal();
        proposalStands = false;
        trialChoice = new Choice();
        settlement = new Settlement();
        page = new Page();
    }

    // The text that is read

    public int feed(int a, int b, int c, int d, int e) {
        Tokens input = loader.tokens;
        if (input.held + BYTES_A_FEED > MOST_BYTES) {
            return FULL;
        }
        input.append(a);
        input.append(b);
        input.append(c);
        input.append(d);
        input.append(e);
        return input.held;
    }

    public int load(int length) {
        if (length < 0 || length > loader.tokens.held) {
            return BAD_VALUE;
        }
        int result = loader.read(length);
        loader.tokens.forget();
        if (result < 0) {
            return result;
        }
        roster.copy(loader.roster);
        flat.copy(loader.flat);
        history.forget();
        proposalStands = false;
        return result;
    }

    public int errorPosition() {
        return loader.errorPlace;
    }

    // The flat

    public int roomCount() {
        return flat.roomCount;
    }

    public int personCount() {
        return flat.personCount;
    }

    public int roomNamed(int letters) {
        return roster.findRoom(letters, flat.roomCount);
    }

    public int personNamed(int letters) {
        return roster.findPerson(letters, flat.personCount);
    }

    public int month() {
        return flat.month;
    }

    public int undoCount() {
        return history.count;
    }

    public int getSetting(int setting) {
        return isSetting(setting) ? flat.settings[setting] : BAD_VALUE;
    }

    public int lease() {
        return flat.lease;
    }

    public int deposit() {
        return flat.deposit;
    }

    public int stateOf(int person) throws IndexOutOfBoundsException {
        checkPerson(person);
        return flat.states[person];
    }

    public int incomeOf(int person) throws IndexOutOfBoundsException {
        checkPerson(person);
        return flat.incomes[person];
    }

    public int valueOf(int person, int room) throws IndexOutOfBoundsException {
        checkPerson(person);
        checkRoom(room);
        return flat.value(person, room);
    }

    public boolean refuses(int person, int room) throws IndexOutOfBoundsException {
        checkPerson(person);
        checkRoom(room);
        return flat.worth(person, room) == REFUSED;
    }

    public int livingCount() {
        return flat.countLiving();
    }

    public int planCount() {
        return roster.planCount - flat.plansDone;
    }

    public int plan(int plan, int what) throws IndexOutOfBoundsException {
        if (plan < 0 || plan >= planCount()) {
            throw new IndexOutOfBoundsException("no such plan");
        }
        return roster.planNumber(flat.plansDone + plan, what);
    }

    // The proposal

    public boolean hasProposal() {
        return currentProposal().exists();
    }

    public int proposedRoom(int person) throws IndexOutOfBoundsException {
        checkPerson(person);
        return currentProposal().roomFor(person);
    }

    public int proposedValue() {
        Proposal current = currentProposal();
        return current.exists() ? current.choice.greatestSum() : NOT_FOUND;
    }

    public int choiceCount() {
        Proposal current = currentProposal();
        return current.exists() ? current.choice.countGreatest() : 0;
    }

    public int extreme(int room, boolean high) throws IndexOutOfBoundsException {
        checkRoom(room);
        Proposal current = currentProposal();
        int place = current.placeOfRoom(room);
        if (place == NOT_FOUND) {
            return NO_NUMBER;
        }
        return high ? current.highs[place] : current.lows[place];
    }

    public int price(int room) throws IndexOutOfBoundsException {
        checkRoom(room);
        Proposal current = currentProposal();
        int place = current.placeOfRoom(room);
        return place == NOT_FOUND ? NO_NUMBER : current.bill.prices[place];
    }

    public int pricePart() {
        return flat.lease - incomePart(flat.lease, flat.settings[SHARE]);
    }

    public int incomeShare(int person) throws IndexOutOfBoundsException {
        checkPerson(person);
        Proposal current = currentProposal();
        int place = current.placeOfPerson(person);
        return place == NOT_FOUND ? NO_NUMBER : current.bill.incomeParts[place];
    }

    public int proposedPayment(int person) throws IndexOutOfBoundsException {
        checkPerson(person);
        Proposal current = currentProposal();
        int place = current.placeOfPerson(person);
        return place == NOT_FOUND ? NO_NUMBER : current.bill.payments[place];
    }

    public int surplus(int person) throws IndexOutOfBoundsException {
        checkPerson(person);
        Proposal current = currentProposal();
        int place = current.placeOfPerson(person);
        return place == NOT_FOUND ? NO_NUMBER : current.gainOver(place);
    }

    public int leastSurplus() {
        Proposal current = currentProposal();
        return current.exists() ? current.leastGainer() : NOT_FOUND;
    }

    public int affordable(int percent) {
        if (percent < 0 || percent > MOST_PERCENT) {
            return BAD_VALUE;
        }
        Proposal current = currentProposal();
        return current.exists() ? current.countAble(current.bill, percent) : 0;
    }

    public int leastShare(int percent) {
        if (percent < 0 || percent > MOST_PERCENT) {
            return BAD_VALUE;
        }
        Proposal current = currentProposal();
        return current.exists() ? current.leastShareFor(percent) : NOT_FOUND;
    }

    public int leastValue(int person, int room) throws IndexOutOfBoundsException {
        checkPerson(person);
        checkRoom(room);
        trialChoice.take(flat);
        int place = trialChoice.placeOf(person);
        return place == NOT_FOUND ? NOT_FOUND : trialChoice.leastWorth(place, room);
    }

    private Proposal currentProposal() {
        if (!proposalStands) {
            proposal.make(flat);
            proposalStands = true;
        }
        return proposal;
    }

    // The division

    public int roomOf(int person) throws IndexOutOfBoundsException {
        checkPerson(person);
        return flat.rooms[person];
    }

    public int personIn(int room) throws IndexOutOfBoundsException {
        checkRoom(room);
        for (int person = 0; person < flat.personCount; person++) {
            if (flat.rooms[person] == room) {
                return person;
            }
        }
        return NOT_FOUND;
    }

    public int payment(int person) throws IndexOutOfBoundsException {
        checkPerson(person);
        return flat.payments[person];
    }

    public boolean isCurrent() {
        Proposal current = currentProposal();
        for (int person = 0; person < flat.personCount; person++) {
            if (flat.rooms[person] != current.roomFor(person) || flat.payments[person] != current.paymentFor(person)) {
                return false;
            }
        }
        return true;
    }

    public int envyOf(int person, int other) throws IndexOutOfBoundsException {
        checkPerson(person);
        checkPerson(other);
        if (!flat.hasRoom(person) || !flat.hasRoom(other)) {
            return NOT_FOUND;
        }
        return flat.envy(person, other);
    }

    public int totalEnvy() {
        return flat.sumOfEnvy();
    }

    public int enviers(int person) throws IndexOutOfBoundsException {
        checkPerson(person);
        return flat.enviersOf(person);
    }

    public int mostEnvied() {
        int most = NOT_FOUND;
        int mostEnviers = 0;
        for (int person = 0; person < flat.personCount; person++) {
            int enviers = Integer.bitCount(flat.enviersOf(person));
            if (enviers > mostEnviers) {
                most = person;
                mostEnviers = enviers;
            }
        }
        return most;
    }

    public boolean wouldSwap(int person, int other) throws IndexOutOfBoundsException {
        checkPerson(person);
        checkPerson(other);
        return flat.envy(person, other) > 0 && flat.envy(other, person) > 0;
    }

    public int missing() {
        return flat.lease - flat.sumOfPayments();
    }

    public double burden(int person) throws IndexOutOfBoundsException {
        checkPerson(person);
        int income = flat.incomes[person];
        return income == 0 ? 0.0 : (double) flat.payments[person] / (double) income;
    }

    // Months and deposits

    public int paid(int person, int what) throws IndexOutOfBoundsException {
        checkPerson(person);
        switch (what) {
            case 0:
                return flat.paid[person];
            case 1:
                return flat.stakes[person];
            case 2:
                return flat.monthsPaid[person];
            default:
                return BAD_VALUE;
        }
    }

    public int arrears() {
        return flat.arrears;
    }

    public int target(int person) throws IndexOutOfBoundsException {
        checkPerson(person);
        settlement.aim(flat);
        return settlement.targets[person];
    }

    public int transferCount() {
        settlement.make(flat);
        return settlement.count;
    }

    public int transfer(int transfer, int what) throws IndexOutOfBoundsException {
        settlement.make(flat);
        if (transfer < 0 || transfer >= settlement.count) {
            throw new IndexOutOfBoundsException("no such transfer");
        }
        return settlement.number(transfer, what);
    }

    // Changes

    public int moveIn(int person) {
        if (!flat.isPerson(person)) {
            return NOT_FOUND;
        }
        if (flat.isLiving(person)) {
            return NOT_ALLOWED;
        }
        if (flat.countLiving() >= flat.roomCount) {
            return FULL;
        }
        startChange();
        flat.states[person] = LIVING;
        return flat.countLiving();
    }

    public int moveOut(int person) {
        if (!flat.isPerson(person)) {
            return NOT_FOUND;
        }
        if (!flat.isLiving(person)) {
            return NOT_ALLOWED;
        }
        startChange();
        flat.states[person] = GONE;
        flat.assign(person, NOT_FOUND, 0);
        return flat.countLiving();
    }

    public int setValue(int person, int room, int value) {
        if (!flat.isPerson(person) || !flat.isRoom(room)) {
            return NOT_FOUND;
        }
        if (value < 0 || value > MOST_VALUE) {
            return BAD_VALUE;
        }
        startChange();
        int before = flat.value(person, room);
        flat.worths[person][room] = value;
        return before;
    }

    public int setRefusal(int person, int room, boolean refused) {
        if (!flat.isPerson(person) || !flat.isRoom(room)) {
            return NOT_FOUND;
        }
        boolean refusedBefore = flat.worth(person, room) == REFUSED;
        if (refusedBefore == refused) {
            return NOT_ALLOWED;
        }
        startChange();
        int before = flat.value(person, room);
        flat.worths[person][room] = refused ? REFUSED : 0;
        return before;
    }

    public int setIncome(int person, int income) {
        if (!flat.isPerson(person)) {
            return NOT_FOUND;
        }
        if (!isMoney(income)) {
            return BAD_VALUE;
        }
        startChange();
        int before = flat.incomes[person];
        flat.incomes[person] = income;
        return before;
    }

    public int setLease(int amount) {
        if (!isMoney(amount)) {
            return BAD_VALUE;
        }
        startChange();
        int before = flat.lease;
        flat.lease = amount;
        return before;
    }

    public int setDeposit(int amount) {
        if (!isMoney(amount)) {
            return BAD_VALUE;
        }
        startChange();
        int before = flat.deposit;
        flat.deposit = amount;
        return before;
    }

    public int setSetting(int setting, int value) {
        if (!isSetting(setting) || value < 0 || value > mostOfSetting(setting)) {
            return BAD_VALUE;
        }
        startChange();
        int before = flat.settings[setting];
        flat.settings[setting] = value;
        return before;
    }

    public int divide() {
        if (!currentProposal().exists()) {
            return NOT_FOUND;
        }
        startChange();
        return agreeOn(currentProposal());
    }

    /** Makes a proposal the division and returns how many people have another room than before. */
    private int agreeOn(Proposal agreed) {
        int moved = 0;
        for (int person = 0; person < flat.personCount; person++) {
            int room = agreed.roomFor(person);
            if (room != NOT_FOUND && room != flat.rooms[person]) {
                moved++;
            }
            flat.assign(person, room, agreed.paymentFor(person));
        }
        return moved;
    }

    public int swapRooms(int person, int other) {
        if (!flat.hasRoom(person) || !flat.hasRoom(other)) {
            return NOT_FOUND;
        }
        int room = flat.rooms[person];
        int otherRoom = flat.rooms[other];
        if (person == other || flat.worth(person, otherRoom) == REFUSED || flat.worth(other, room) == REFUSED) {
            return NOT_ALLOWED;
        }
        startChange();
        int payment = flat.payments[person];
        flat.assign(person, otherRoom, flat.payments[other]);
        flat.assign(other, room, payment);
        return flat.sumOfEnvy();
    }

    public int passMonths(int months) {
        if (months < 1 || months > MOST_MONTHS_A_CALL) {
            return BAD_VALUE;
        }
        if (flat.month + months > LAST_MONTH) {
            return FULL;
        }
        startChange();
        for (int passed = 0; passed < months; passed++) {
            passMonth();
        }
        return flat.month;
    }

    private void passMonth() {
        if (flat.doPlans(roster)) {
            proposalStands = false;
        }
        if (flat.settings[AUTO] == 1 && currentProposal().exists()) {
            agreeOn(currentProposal());
        }
        flat.collect();
        flat.month++;
    }

    public int settle() {
        settlement.make(flat);
        startChange();
        System.arraycopy(settlement.targets, 0, flat.stakes, 0, MOST_PEOPLE);
        return settlement.count;
    }

    public int undo() {
        if (!history.bringBack(flat)) {
            return NOT_FOUND;
        }
        proposalStands = false;
        return history.count;
    }

    private void startChange() {
        history.keep(flat);
        proposalStands = false;
    }

    // The text that is written

    public int write() {
        page.clear();
        for (int person = 0; person < flat.personCount; person++) {
            if (flat.hasRoom(person)) {
                page.addLine(roster.personName(person), roster.roomName(flat.rooms[person]), flat.payments[person]);
            }
        }
        return page.length;
    }

    public int outputAt(int index) {
        return page.charAt(index);
    }

    // What all of it uses

    private void checkPerson(int person) {
        if (!flat.isPerson(person)) {
            throw new IndexOutOfBoundsException("no such person");
        }
    }

    private void checkRoom(int room) {
        if (!flat.isRoom(room)) {
            throw new IndexOutOfBoundsException("no such room");
        }
    }

    private static boolean isSetting(int setting) {
        return setting >= 0 && setting < SETTINGS;
    }

    private static int mostOfSetting(int setting) {
        switch (setting) {
            case METHOD:
                return MIDDLE;
            case SHARE:
                return MOST_PERCENT;
            default:
                return 1;
        }
    }

    private static boolean isMoney(int amount) {
        return amount >= 0 && amount <= MOST_MONEY;
    }

    private static int incomePart(int lease, int share) {
        return lease * share / MOST_PERCENT;
    }

    /** The names and the plans: what only a load can change. */
    private static final class Roster {
        private final int[] roomNames;
        private final int[] personNames;
        // All plans by month, those of one month as declared: how many of them were done, the flat knows.
        private final int[] planPersons;
        private final int[] planMonths;
        private final int[] planIncomes;
        private int planCount;

        Roster() {
            roomNames = new int[MOST_ROOMS];
            personNames = new int[MOST_PEOPLE];
            planPersons = new int[MOST_PLANS];
            planMonths = new int[MOST_PLANS];
            planIncomes = new int[MOST_PLANS];
            planCount = 0;
        }

        void copy(Roster other) {
            if (other == null) {
                return;
            }
            System.arraycopy(other.roomNames, 0, roomNames, 0, MOST_ROOMS);
            System.arraycopy(other.personNames, 0, personNames, 0, MOST_PEOPLE);
            System.arraycopy(other.planPersons, 0, planPersons, 0, MOST_PLANS);
            System.arraycopy(other.planMonths, 0, planMonths, 0, MOST_PLANS);
            System.arraycopy(other.planIncomes, 0, planIncomes, 0, MOST_PLANS);
            planCount = other.planCount;
        }

        void nameRoom(int room, int letters) {
            if (room >= 0 && room < roomNames.length) {
                roomNames[room] = letters;
            }
        }

        void namePerson(int person, int letters) {
            if (person >= 0 && person < personNames.length) {
                personNames[person] = letters;
            }
        }

        int roomName(int room) {
            return room >= 0 && room < roomNames.length ? roomNames[room] : 0;
        }

        int personName(int person) {
            return person >= 0 && person < personNames.length ? personNames[person] : 0;
        }

        int findRoom(int letters, int roomCount) {
            for (int room = 0; room < roomCount && room < roomNames.length; room++) {
                if (roomNames[room] == letters) {
                    return room;
                }
            }
            return NOT_FOUND;
        }

        int findPerson(int letters, int personCount) {
            for (int person = 0; person < personCount && person < personNames.length; person++) {
                if (personNames[person] == letters) {
                    return person;
                }
            }
            return NOT_FOUND;
        }

        /** Puts a plan behind those of the same month and of the months ahead. */
        void addPlan(int person, int month, int income) {
            if (planCount >= MOST_PLANS) {
                return;
            }
            int place = planCount;
            while (place > 0 && planMonths[place - 1] > month) {
                planPersons[place] = planPersons[place - 1];
                planMonths[place] = planMonths[place - 1];
                planIncomes[place] = planIncomes[place - 1];
                place--;
            }
            planPersons[place] = person;
            planMonths[place] = month;
            planIncomes[place] = income;
            planCount++;
        }

        boolean hasPlan(int plan) {
            return plan >= 0 && plan < planCount && plan < MOST_PLANS;
        }

        int planNumber(int plan, int what) {
            if (!hasPlan(plan)) {
                return BAD_VALUE;
            }
            switch (what) {
                case 0:
                    return planPersons[plan];
                case 1:
                    return planMonths[plan];
                case 2:
                    return planIncomes[plan];
                default:
                    return BAD_VALUE;
            }
        }
    }

    /** Everything that a change can change, so that a copy of it is all that an undo needs. */
    private static final class Flat {
        private int roomCount;
        private int personCount;
        private int lease;
        private int deposit;
        private int arrears;
        private int month;
        private int plansDone;
        private final int[] settings;
        private final int[] states;
        private final int[] incomes;
        private final int[][] worths;
        private final int[] rooms;
        private final int[] payments;
        private final int[] paid;
        private final int[] stakes;
        private final int[] monthsPaid;

        Flat() {
            settings = new int[SETTINGS];
            states = new int[MOST_PEOPLE];
            incomes = new int[MOST_PEOPLE];
            worths = new int[MOST_PEOPLE][MOST_ROOMS];
            rooms = new int[MOST_PEOPLE];
            payments = new int[MOST_PEOPLE];
            paid = new int[MOST_PEOPLE];
            stakes = new int[MOST_PEOPLE];
            monthsPaid = new int[MOST_PEOPLE];
            empty();
        }

        void empty() {
            roomCount = 0;
            personCount = 0;
            lease = 0;
            deposit = 0;
            arrears = 0;
            month = 0;
            plansDone = 0;
            settings[METHOD] = MIDDLE;
            settings[SHARE] = 0;
            settings[AUTO] = 0;
            Arrays.fill(states, WAITING);
            Arrays.fill(incomes, 0);
            for (int person = 0; person < MOST_PEOPLE; person++) {
                Arrays.fill(worths[person], 0);
            }
            Arrays.fill(rooms, NOT_FOUND);
            Arrays.fill(payments, 0);
            Arrays.fill(paid, 0);
            Arrays.fill(stakes, 0);
            Arrays.fill(monthsPaid, 0);
        }

        void copy(Flat other) {
            if (other == null) {
                return;
            }
            roomCount = other.roomCount;
            personCount = other.personCount;
            lease = other.lease;
            deposit = other.deposit;
            arrears = other.arrears;
            month = other.month;
            plansDone = other.plansDone;
            System.arraycopy(other.settings, 0, settings, 0, SETTINGS);
            System.arraycopy(other.states, 0, states, 0, MOST_PEOPLE);
            System.arraycopy(other.incomes, 0, incomes, 0, MOST_PEOPLE);
            for (int person = 0; person < MOST_PEOPLE; person++) {
                System.arraycopy(other.worths[person], 0, worths[person], 0, MOST_ROOMS);
            }
            System.arraycopy(other.rooms, 0, rooms, 0, MOST_PEOPLE);
            System.arraycopy(other.payments, 0, payments, 0, MOST_PEOPLE);
            System.arraycopy(other.paid, 0, paid, 0, MOST_PEOPLE);
            System.arraycopy(other.stakes, 0, stakes, 0, MOST_PEOPLE);
            System.arraycopy(other.monthsPaid, 0, monthsPaid, 0, MOST_PEOPLE);
        }

        boolean isPerson(int person) {
            return person >= 0 && person < personCount && person < MOST_PEOPLE;
        }

        boolean isRoom(int room) {
            return room >= 0 && room < roomCount && room < MOST_ROOMS;
        }

        boolean isLiving(int person) {
            return isPerson(person) && states[person] == LIVING;
        }

        int countLiving() {
            int living = 0;
            for (int person = 0; person < personCount; person++) {
                if (isLiving(person)) {
                    living++;
                }
            }
            return living;
        }

        /** The value of a room for a person, or REFUSED. */
        int worth(int person, int room) {
            return isPerson(person) && isRoom(room) ? worths[person][room] : REFUSED;
        }

        /** The value of a room for a person, 0 if the person refuses it. */
        int value(int person, int room) {
            return Math.max(0, worth(person, room));
        }

        boolean hasRoom(int person) {
            return isPerson(person) && rooms[person] != NOT_FOUND;
        }

        void assign(int person, int room, int payment) {
            if (isPerson(person)) {
                rooms[person] = room;
                payments[person] = payment;
            }
        }

        int sumOfPayments() {
            int sum = 0;
            for (int person = 0; person < MOST_PEOPLE; person++) {
                sum += payments[person];
            }
            return sum;
        }

        /** By how much a person envies another one, 0 if one of them has no room. */
        int envy(int person, int other) {
            if (!hasRoom(person) || !hasRoom(other) || worth(person, rooms[other]) == REFUSED) {
                return 0;
            }
            int own = value(person, rooms[person]) - payments[person];
            int others = value(person, rooms[other]) - payments[other];
            return Math.max(0, others - own);
        }

        int sumOfEnvy() {
            int sum = 0;
            for (int person = 0; person < personCount; person++) {
                for (int other = 0; other < personCount; other++) {
                    sum += envy(person, other);
                }
            }
            return sum;
        }

        int enviersOf(int person) {
            int bits = 0;
            for (int other = 0; other < personCount; other++) {
                if (envy(other, person) > 0) {
                    bits |= 1 << other;
                }
            }
            return bits;
        }

        /** Does the plans for the month that passes and tells whether there were any. */
        boolean doPlans(Roster roster) {
            int doneBefore = plansDone;
            while (plansDone < MOST_PLANS && roster.hasPlan(plansDone) && roster.planMonths[plansDone] <= month) {
                int person = roster.planPersons[plansDone];
                if (isPerson(person)) {
                    incomes[person] = roster.planIncomes[plansDone];
                }
                plansDone++;
            }
            return plansDone > doneBefore;
        }

        void collect() {
            for (int person = 0; person < personCount; person++) {
                if (hasRoom(person)) {
                    paid[person] += payments[person];
                    monthsPaid[person]++;
                }
            }
            arrears += lease - sumOfPayments();
        }
    }

    /** The flat as it was ahead of each of the latest changes. */
    private static final class History {
        private final Flat[] kept;
        private int next;
        private int count;

        History() {
            kept = new Flat[MOST_UNDOS];
            for (int slot = 0; slot < MOST_UNDOS; slot++) {
                kept[slot] = new Flat();
            }
            next = 0;
            count = 0;
        }

        void forget() {
            count = 0;
        }

        void keep(Flat flat) {
            Flat slot = kept[next];
            if (slot != null) {
                slot.copy(flat);
            }
            next = (next + 1) % MOST_UNDOS;
            count = Math.min(count + 1, MOST_UNDOS);
        }

        boolean bringBack(Flat flat) {
            if (count == 0) {
                return false;
            }
            next = (next + MOST_UNDOS - 1) % MOST_UNDOS;
            count--;
            flat.copy(kept[next]);
            return true;
        }
    }

    /** The choice of rooms for the people who are LIVING, each of whom has a place here, in the order of their indices. */
    private static final class Choice {
        private static final int NONE = -1;
        /** More than what all rooms together can be worth else: who can get a room with this value does. */
        private static final int OUTWEIGHS = 1000000;

        private int people;
        private int roomCount;
        private final int[] persons;
        private final int[][] worths;
        private final int[] rooms;
        // The index is the set of the rooms that the first people have, as many as these: what is best for those behind.
        private final int[] best;
        private final int[] ways;

        Choice() {
            people = 0;
            roomCount = 0;
            persons = new int[MOST_ROOMS];
            worths = new int[MOST_ROOMS][MOST_ROOMS];
            rooms = new int[MOST_ROOMS];
            best = new int[1 << MOST_ROOMS];
            ways = new int[1 << MOST_ROOMS];
        }

        void take(Flat flat) {
            people = 0;
            roomCount = Math.min(flat.roomCount, MOST_ROOMS);
            for (int person = 0; person < flat.personCount; person++) {
                if (flat.isLiving(person) && people < MOST_ROOMS) {
                    persons[people] = person;
                    for (int room = 0; room < roomCount; room++) {
                        worths[people][room] = flat.worth(person, room);
                    }
                    people++;
                }
            }
        }

        int placeOf(int person) {
            for (int place = 0; place < people; place++) {
                if (persons[place] == person) {
                    return place;
                }
            }
            return NOT_FOUND;
        }

        int placeIn(int room) {
            for (int place = 0; place < people; place++) {
                if (rooms[place] == room) {
                    return place;
                }
            }
            return NOT_FOUND;
        }

        /** What the room of another place is worth for the person at a place, or REFUSED. */
        int worthOfRoom(int place, int other) {
            int room = rooms[other];
            return room >= 0 && room < roomCount ? worths[place][room] : REFUSED;
        }

        void solve() {
            for (int taken = (1 << roomCount) - 1; taken >= 0; taken--) {
                weigh(taken);
            }
            Arrays.fill(rooms, NOT_FOUND);
            int taken = 0;
            for (int place = 0; place < people; place++) {
                int room = lowestBest(taken, place);
                if (room == NOT_FOUND) {
                    return;
                }
                rooms[place] = room;
                taken |= 1 << room;
            }
        }

        boolean exists() {
            return people > 0 && best[0] != NONE;
        }

        int greatestSum() {
            return best[0];
        }

        int countGreatest() {
            return ways[0];
        }

        private void weigh(int taken) {
            int place = Integer.bitCount(taken);
            best[taken] = place == people ? 0 : NONE;
            ways[taken] = place == people ? 1 : 0;
            if (place >= people) {
                return;
            }
            for (int room = 0; room < roomCount; room++) {
                int sum = sumWith(taken, place, room);
                if (sum != NONE && sum > best[taken]) {
                    best[taken] = sum;
                    ways[taken] = ways[taken | 1 << room];
                } else if (sum != NONE && sum == best[taken]) {
                    ways[taken] += ways[taken | 1 << room];
                }
            }
        }

        /** The greatest sum of the people from a place on, if the first of them gets the room, or NONE. */
        private int sumWith(int taken, int place, int room) {
            int then = taken | 1 << room;
            if (then == taken || worths[place][room] == REFUSED || best[then] == NONE) {
                return NONE;
            }
            return worths[place][room] + best[then];
        }

        private int lowestBest(int taken, int place) {
            for (int room = 0; room < roomCount; room++) {
                int sum = sumWith(taken, place, room);
                if (sum != NONE && sum == best[taken]) {
                    return room;
                }
            }
            return NOT_FOUND;
        }

        /** The least value of a room with which the person at a place gets it; the value taken for it is lost. */
        int leastWorth(int place, int room) {
            int without = solvedWith(place, room, REFUSED);
            int others = solvedWith(place, room, OUTWEIGHS) - OUTWEIGHS;
            if (others < 0) {
                return NOT_FOUND;
            }
            if (without == NONE || others > without) {
                return 0;
            }
            // With this value both ways are worth the same, so that the order of the rooms decides.
            int even = without - others;
            if (even > MOST_VALUE) {
                return NOT_FOUND;
            }
            solvedWith(place, room, even);
            if (rooms[place] == room) {
                return even;
            }
            return even < MOST_VALUE ? even + 1 : NOT_FOUND;
        }

        private int solvedWith(int place, int room, int worth) {
            worths[place][room] = worth;
            solve();
            return best[0];
        }
    }

    /** Splits amounts so that the units left go to those with the greatest remainders. */
    private static final class Split {
        private final long[] remainders;

        Split() {
            remainders = new long[MOST_ROOMS];
        }

        void byWeights(int amount, int[] weights, int count, int[] parts) {
            long sum = 0;
            for (int place = 0; place < count; place++) {
                sum += weights[place];
            }
            boolean alike = sum == 0;
            long divisor = alike ? count : sum;
            if (divisor <= 0) {
                return;
            }
            int left = amount;
            for (int place = 0; place < count; place++) {
                long product = (long) amount * (alike ? 1 : weights[place]);
                parts[place] = (int) (product / divisor);
                remainders[place] = product % divisor;
                left -= parts[place];
            }
            giveLeft(left, count, parts);
        }

        void toUnits(int amount, int[] prices, int count, int[] units) {
            int left = amount;
            for (int place = 0; place < count; place++) {
                units[place] = Math.floorDiv(prices[place], PARTS);
                remainders[place] = Math.floorMod(prices[place], PARTS);
                left -= units[place];
            }
            giveLeft(left, count, units);
        }

        private void giveLeft(int left, int count, int[] parts) {
            for (int given = 0; given < left && given < count; given++) {
                int first = 0;
                for (int place = 1; place < count; place++) {
                    if (remainders[place] > remainders[first]) {
                        first = place;
                    }
                }
                parts[first]++;
                remainders[first] = -1;
            }
        }
    }

    /** What people pay with one SHARE, by their places in the choice. */
    private static final class Bill {
        private final int[] prices;
        private final int[] incomeParts;
        private final int[] payments;
        private final Split split;

        Bill() {
            prices = new int[MOST_ROOMS];
            incomeParts = new int[MOST_ROOMS];
            payments = new int[MOST_ROOMS];
            split = new Split();
        }

        void make(int people, int[] bases, int[] incomes, int lease, int share) {
            int incomePart = incomePart(lease, share);
            int pricePart = lease - incomePart;
            setPrices(people, bases, pricePart);
            split.toUnits(pricePart, prices, people, payments);
            split.byWeights(incomePart, incomes, people, incomeParts);
            for (int place = 0; place < people; place++) {
                payments[place] += incomeParts[place];
            }
        }

        private void setPrices(int people, int[] bases, int pricePart) {
            if (people <= 0) {
                return;
            }
            int rest = pricePart * PARTS;
            for (int place = 0; place < people; place++) {
                rest -= bases[place];
            }
            // Nothing is lost here: all bases are multiples of 60, which every number of people from 1 to 6 divides.
            int added = rest / people;
            for (int place = 0; place < people; place++) {
                prices[place] = bases[place] + added;
            }
        }
    }

    /** The proposal for a flat as it was when this was made. */
    private static final class Proposal {
        private final Choice choice;
        private final int[] lows;
        private final int[] highs;
        private final int[] bases;
        private final int[] incomes;
        private int lease;
        private final Bill bill;
        private final Bill trialBill;

        Proposal() {
            choice = new Choice();
            lows = new int[MOST_ROOMS];
            highs = new int[MOST_ROOMS];
            bases = new int[MOST_ROOMS];
            incomes = new int[MOST_ROOMS];
            lease = 0;
            bill = new Bill();
            trialBill = new Bill();
        }

        void make(Flat flat) {
            choice.take(flat);
            choice.solve();
            if (!exists()) {
                return;
            }
            lease = flat.lease;
            for (int place = 0; place < choice.people; place++) {
                int person = choice.persons[place];
                incomes[place] = flat.isPerson(person) ? flat.incomes[person] : 0;
            }
            findLows();
            findHighs();
            setBases(flat.settings[METHOD]);
            bill.make(choice.people, bases, incomes, lease, flat.settings[SHARE]);
        }

        boolean exists() {
            return choice.exists();
        }

        /** By how many parts the room of another place is worth more than the own one, or NO_NUMBER if it is refused. */
        private int gain(int place, int other) {
            int otherWorth = choice.worthOfRoom(place, other);
            return otherWorth == REFUSED ? NO_NUMBER : PARTS * (otherWorth - choice.worthOfRoom(place, place));
        }

        private void findLows() {
            Arrays.fill(lows, 0);
            boolean raised = true;
            for (int round = 0; round < MOST_ROOMS && raised; round++) {
                raised = raiseLows();
            }
        }

        private boolean raiseLows() {
            boolean raised = false;
            for (int place = 0; place < choice.people; place++) {
                for (int other = 0; other < choice.people; other++) {
                    int gain = gain(place, other);
                    if (gain != NO_NUMBER && lows[place] + gain > lows[other]) {
                        lows[other] = lows[place] + gain;
                        raised = true;
                    }
                }
            }
            return raised;
        }

        private void findHighs() {
            Arrays.fill(highs, 0);
            boolean lowered = true;
            for (int round = 0; round < MOST_ROOMS && lowered; round++) {
                lowered = lowerHighs();
            }
        }

        private boolean lowerHighs() {
            boolean lowered = false;
            for (int place = 0; place < choice.people; place++) {
                for (int other = 0; other < choice.people; other++) {
                    int gain = gain(place, other);
                    if (gain != NO_NUMBER && highs[place] > highs[other] - gain) {
                        highs[place] = highs[other] - gain;
                        lowered = true;
                    }
                }
            }
            return lowered;
        }

        private void setBases(int method) {
            for (int place = 0; place < choice.people; place++) {
                if (method == LOW) {
                    bases[place] = lows[place];
                } else if (method == HIGH) {
                    bases[place] = highs[place];
                } else {
                    bases[place] = (lows[place] + highs[place]) / 2;
                }
            }
        }

        int placeOfPerson(int person) {
            return exists() ? choice.placeOf(person) : NOT_FOUND;
        }

        int placeOfRoom(int room) {
            return exists() ? choice.placeIn(room) : NOT_FOUND;
        }

        int roomFor(int person) {
            int place = placeOfPerson(person);
            return place == NOT_FOUND ? NOT_FOUND : choice.rooms[place];
        }

        /** The payment of a person, 0 for those who get no room. */
        int paymentFor(int person) {
            int place = placeOfPerson(person);
            return place == NOT_FOUND ? 0 : bill.payments[place];
        }

        /** By how many parts the room of a place is worth more than its price. */
        int gainOver(int place) {
            return PARTS * choice.worthOfRoom(place, place) - bill.prices[place];
        }

        int leastGainer() {
            int least = 0;
            for (int place = 1; place < choice.people; place++) {
                if (gainOver(place) < gainOver(least)) {
                    least = place;
                }
            }
            return choice.persons[least];
        }

        int countAble(Bill asked, int percent) {
            int able = 0;
            for (int place = 0; place < choice.people; place++) {
                if (asked.payments[place] * 100 <= incomes[place] * percent) {
                    able++;
                }
            }
            return able;
        }

        int leastShareFor(int percent) {
            for (int share = 0; share <= MOST_PERCENT; share++) {
                trialBill.make(choice.people, bases, incomes, lease, share);
                if (countAble(trialBill, percent) == choice.people) {
                    return share;
                }
            }
            return NOT_FOUND;
        }
    }

    /** The targets of the deposit and the transfers that lead to them. */
    private static final class Settlement {
        private final int[] targets;
        private final int[] persons;
        private final int[] weights;
        private final int[] parts;
        // What everybody, with the landlord behind the people, must still pay; less than 0 for those who get.
        private final int[] due;
        private final int[][] transfers;
        private int count;
        private final Split split;

        Settlement() {
            targets = new int[MOST_PEOPLE];
            persons = new int[MOST_ROOMS];
            weights = new int[MOST_ROOMS];
            parts = new int[MOST_ROOMS];
            due = new int[MOST_PEOPLE + 1];
            transfers = new int[MOST_PEOPLE + 1][3];
            count = 0;
            split = new Split();
        }

        void aim(Flat flat) {
            Arrays.fill(targets, 0);
            int people = 0;
            for (int person = 0; person < flat.personCount; person++) {
                if (flat.isLiving(person) && people < MOST_ROOMS) {
                    persons[people] = person;
                    weights[people] = Math.max(0, flat.payments[person]);
                    people++;
                }
            }
            split.byWeights(flat.deposit, weights, people, parts);
            for (int place = 0; place < people; place++) {
                if (flat.isPerson(persons[place])) {
                    targets[persons[place]] = parts[place];
                }
            }
        }

        void make(Flat flat) {
            aim(flat);
            due[LANDLORD] = 0;
            for (int person = 0; person < MOST_PEOPLE; person++) {
                due[person] = targets[person] - flat.stakes[person];
                due[LANDLORD] -= due[person];
            }
            count = 0;
            boolean someonePays = true;
            for (int round = 0; round < transfers.length && someonePays; round++) {
                someonePays = payNext();
            }
        }

        /** Makes one transfer and tells whether there was one to make. */
        private boolean payNext() {
            int payer = 0;
            int getter = 0;
            for (int party = 1; party < due.length; party++) {
                if (due[party] > due[payer]) {
                    payer = party;
                }
                if (due[party] < due[getter]) {
                    getter = party;
                }
            }
            int amount = Math.min(due[payer], -due[getter]);
            if (amount <= 0 || count >= transfers.length) {
                return false;
            }
            due[payer] -= amount;
            due[getter] += amount;
            transfers[count][0] = payer;
            transfers[count][1] = getter;
            transfers[count][2] = amount;
            count++;
            return true;
        }

        int number(int transfer, int what) {
            if (transfer < 0 || transfer >= transfers.length || what < 0 || what > 2) {
                return BAD_VALUE;
            }
            return transfers[transfer][what];
        }
    }

    /** The input buffer and the tokens of its text, one at a time. */
    private static final class Tokens {
        private static final int END = 0, BLANK = 1, WORD = 2, NUMBER = 3, SEMICOLON = 4, OTHER = 5;
        /** Stands for all integers that are greater, which no range has in it. */
        private static final int TOO_MUCH = 1000000;

        private final byte[] text;
        private int held;
        private int length;
        private int start;
        private int end;
        private int kind;

        Tokens() {
            text = new byte[MOST_BYTES];
            held = 0;
            length = 0;
            start = 0;
            end = 0;
            kind = END;
        }

        void append(int fourBytes) {
            for (int shift = 24; shift >= 0 && held < text.length; shift -= 8) {
                text[held] = (byte) (fourBytes >>> shift);
                held++;
            }
        }

        void forget() {
            held = 0;
        }

        void open(int textLength) {
            length = Math.max(0, Math.min(textLength, held));
            end = 0;
            advance();
        }

        void advance() {
            start = end;
            while (start < length && kindAt(start) == BLANK) {
                start++;
            }
            kind = kindAt(start);
            end = Math.min(start + 1, length);
            if (kind == WORD || kind == NUMBER) {
                while (end < length && kindAt(end) == kind) {
                    end++;
                }
            }
        }

        private int kindAt(int place) {
            if (place < 0 || place >= length) {
                return END;
            }
            int sign = text[place];
            if (sign >= 'a' && sign <= 'z') {
                return WORD;
            }
            if (sign >= '0' && sign <= '9') {
                return NUMBER;
            }
            if (sign == ';') {
                return SEMICOLON;
            }
            return sign == ' ' || sign == '\n' ? BLANK : OTHER;
        }

        boolean isWord(String word) {
            if (kind != WORD || end - start != word.length()) {
                return false;
            }
            for (int letter = 0; letter < word.length(); letter++) {
                if (text[start + letter] != word.charAt(letter)) {
                    return false;
                }
            }
            return true;
        }

        /** The letters of a name as they are told for roomNamed, or 0 where no name stands. */
        int name() {
            if (kind != WORD || end - start > LONGEST_NAME) {
                return 0;
            }
            int letters = 0;
            for (int place = start; place < start + LONGEST_NAME; place++) {
                letters = letters << BITS_A_LETTER | (place < end ? text[place] - 'a' + 1 : 0);
            }
            return letters;
        }

        int number() {
            int number = 0;
            for (int place = start; place < end; place++) {
                number = Math.min(number * 10 + text[place] - '0', TOO_MUCH);
            }
            return number;
        }
    }

    /** Reads a text into a flat and a roster of its own, so that an error leaves the others as they are. */
    private static final class Loader {
        private final Tokens tokens;
        private final Flat flat;
        private final Roster roster;
        private boolean leaseGiven;
        private boolean depositGiven;
        private final boolean[] settingsGiven;
        private int name;
        private int number;
        private int error;
        private int errorPlace;

        Loader() {
            tokens = new Tokens();
            flat = new Flat();
            roster = new Roster();
            leaseGiven = false;
            depositGiven = false;
            settingsGiven = new boolean[SETTINGS];
            name = 0;
            number = 0;
            error = 0;
            errorPlace = NOT_FOUND;
        }

        /** Returns the number of statements or the error. */
        int read(int length) {
            flat.empty();
            roster.planCount = 0;
            leaseGiven = false;
            depositGiven = false;
            for (int setting = 0; setting < SETTINGS; setting++) {
                settingsGiven[setting] = false;
            }
            error = 0;
            errorPlace = NOT_FOUND;
            tokens.open(length);
            int statements = 0;
            while (statements < length && tokens.kind != Tokens.END) {
                if (!readStatement() || !readSemicolon()) {
                    return error;
                }
                statements++;
            }
            return statements;
        }

        private boolean fail(int code) {
            error = code;
            errorPlace = tokens.start;
            return false;
        }

        private boolean readStatement() {
            if (tokens.isWord("room")) {
                return readRoom();
            }
            if (tokens.isWord("person")) {
                return readPerson();
            }
            if (tokens.isWord("lease")) {
                return readLease();
            }
            if (tokens.isWord("deposit")) {
                return readDeposit();
            }
            if (tokens.isWord("plan")) {
                return readPlan();
            }
            if (tokens.isWord("set")) {
                return readSetting();
            }
            return fail(SYNTAX_ERROR);
        }

        private boolean readSemicolon() {
            if (tokens.kind != Tokens.SEMICOLON) {
                return fail(SYNTAX_ERROR);
            }
            tokens.advance();
            return true;
        }

        private boolean readNumber(int most) {
            if (tokens.kind != Tokens.NUMBER) {
                return fail(SYNTAX_ERROR);
            }
            number = tokens.number();
            if (number > most) {
                return fail(RANGE_ERROR);
            }
            tokens.advance();
            return true;
        }

        /** Takes the name behind the word that stands here, and stays at it. */
        private boolean readName() {
            tokens.advance();
            name = tokens.name();
            return name != 0 || fail(SYNTAX_ERROR);
        }

        private boolean readRoom() {
            int room = flat.roomCount;
            if (flat.personCount > 0) {
                return fail(SYNTAX_ERROR);
            }
            if (room >= MOST_ROOMS) {
                return fail(COUNT_ERROR);
            }
            if (!readName()) {
                return false;
            }
            if (roster.findRoom(name, room) != NOT_FOUND) {
                return fail(DUPLICATE_ERROR);
            }
            roster.nameRoom(room, name);
            flat.roomCount++;
            tokens.advance();
            return true;
        }

        private boolean readPerson() {
            int person = flat.personCount;
            if (person >= MOST_PEOPLE) {
                return fail(COUNT_ERROR);
            }
            if (!readName()) {
                return false;
            }
            if (roster.findPerson(name, person) != NOT_FOUND) {
                return fail(DUPLICATE_ERROR);
            }
            roster.namePerson(person, name);
            flat.personCount++;
            tokens.advance();
            if (!readNumber(MOST_MONEY)) {
                return false;
            }
            flat.incomes[person] = number;
            for (int room = 0; room < flat.roomCount; room++) {
                if (tokens.isWord("no")) {
                    flat.worths[person][room] = REFUSED;
                    tokens.advance();
                } else if (readNumber(MOST_VALUE)) {
                    flat.worths[person][room] = number;
                } else {
                    return false;
                }
            }
            return true;
        }

        private boolean readAmount(boolean given) {
            if (given) {
                return fail(DUPLICATE_ERROR);
            }
            tokens.advance();
            return readNumber(MOST_MONEY);
        }

        private boolean readLease() {
            if (!readAmount(leaseGiven)) {
                return false;
            }
            leaseGiven = true;
            flat.lease = number;
            return true;
        }

        private boolean readDeposit() {
            if (!readAmount(depositGiven)) {
                return false;
            }
            depositGiven = true;
            flat.deposit = number;
            return true;
        }

        private boolean readPlan() {
            if (roster.planCount >= MOST_PLANS) {
                return fail(COUNT_ERROR);
            }
            if (!readName()) {
                return false;
            }
            int person = roster.findPerson(name, flat.personCount);
            if (person == NOT_FOUND) {
                return fail(NAME_ERROR);
            }
            tokens.advance();
            if (!readNumber(LAST_MONTH)) {
                return false;
            }
            int month = number;
            if (!readNumber(MOST_MONEY)) {
                return false;
            }
            roster.addPlan(person, month, number);
            return true;
        }

        private boolean readSetting() {
            tokens.advance();
            int setting = settingHere();
            if (setting == NOT_FOUND) {
                return fail(SYNTAX_ERROR);
            }
            if (settingsGiven[setting]) {
                return fail(DUPLICATE_ERROR);
            }
            settingsGiven[setting] = true;
            tokens.advance();
            if (setting == METHOD) {
                return readMethod();
            }
            if (!readNumber(mostOfSetting(setting))) {
                return false;
            }
            flat.settings[setting] = number;
            return true;
        }

        private int settingHere() {
            if (tokens.isWord("method")) {
                return METHOD;
            }
            if (tokens.isWord("share")) {
                return SHARE;
            }
            return tokens.isWord("auto") ? AUTO : NOT_FOUND;
        }

        private boolean readMethod() {
            if (tokens.isWord("low")) {
                flat.settings[METHOD] = LOW;
            } else if (tokens.isWord("high")) {
                flat.settings[METHOD] = HIGH;
            } else if (tokens.isWord("middle")) {
                flat.settings[METHOD] = MIDDLE;
            } else {
                return fail(SYNTAX_ERROR);
            }
            tokens.advance();
            return true;
        }
    }

    /** The text that was written. */
    private static final class Page {
        /** Each room can have a person: two names, a payment and four signs between and behind them. */
        private static final int MOST_SIGNS = MOST_ROOMS * (2 * LONGEST_NAME + 11 + 4);

        private final char[] signs;
        private int length;

        Page() {
            signs = new char[MOST_SIGNS];
            length = 0;
        }

        void clear() {
            length = 0;
        }

        void addLine(int person, int room, int payment) {
            if (length > 0) {
                add(';');
            }
            addName(person);
            add(':');
            addName(room);
            add(' ');
            addNumber(payment);
        }

        private void add(int sign) {
            if (length < signs.length) {
                signs[length] = (char) sign;
                length++;
            }
        }

        private void addName(int letters) {
            for (int shift = BITS_A_LETTER * (LONGEST_NAME - 1); shift >= 0; shift -= BITS_A_LETTER) {
                int letter = letters >> shift & (1 << BITS_A_LETTER) - 1;
                if (letter > 0) {
                    add('a' + letter - 1);
                }
            }
        }

        private void addNumber(int number) {
            if (number < 0) {
                add('-');
            }
            int left = Math.abs(number);
            for (int power = 1000000000; power >= 1; power /= 10) {
                if (left >= power || power == 1) {
                    add('0' + left / power % 10);
                }
            }
        }

        int charAt(int index) {
            return index >= 0 && index < length ? signs[index] : NOT_FOUND;
        }
    }
}
