import java.util.ArrayDeque;
import java.util.ArrayList;
import java.util.Arrays;
import java.util.Comparator;
import java.util.Deque;
import java.util.LinkedHashSet;
import java.util.List;
import java.util.Set;

/**
 * The document once more, by other means (all choices are listed, texts are cut into tokens first, changes copy
 * everything): what RandomTest compares the program with.
 */
final class Model {
    static final class Person {
        String name;
        int state;
        int income;
        int[] value;
        boolean[] no;
        int room = -1;
        int pay;
        int paid;
        int stake;
        int months;

        Person copy() {
            Person other = new Person();
            other.name = name;
            other.state = state;
            other.income = income;
            other.value = value.clone();
            other.no = no.clone();
            other.room = room;
            other.pay = pay;
            other.paid = paid;
            other.stake = stake;
            other.months = months;
            return other;
        }
    }

    static final class State {
        List<String> rooms = new ArrayList<>();
        List<Person> people = new ArrayList<>();
        List<int[]> plans = new ArrayList<>();
        int lease;
        int deposit;
        int month;
        int arrears;
        int[] set = {2, 0, 0};

        State copy() {
            State other = new State();
            other.rooms.addAll(rooms);
            for (Person person : people) {
                other.people.add(person.copy());
            }
            other.plans.addAll(plans);
            other.lease = lease;
            other.deposit = deposit;
            other.month = month;
            other.arrears = arrears;
            other.set = set.clone();
            return other;
        }
    }

    static final class TextError extends RuntimeException {
        private static final long serialVersionUID = 1L;
        final int code;
        final int place;

        TextError(int code, int place) {
            this.code = code;
            this.place = place;
        }
    }

    State s = new State();
    private final Deque<State> before = new ArrayDeque<>();
    private final List<Integer> input = new ArrayList<>();
    private String output = "";
    private int errorPlace = -1;

    // Reading

    int feed(int[] words) {
        if (input.size() + 20 > 900) {
            return -3;
        }
        for (int word : words) {
            for (int i = 3; i >= 0; i--) {
                input.add((word >>> 8 * i) & 255);
            }
        }
        return input.size();
    }

    int load(int length) {
        if (length < 0 || length > input.size()) {
            return -2;
        }
        StringBuilder text = new StringBuilder();
        for (int i = 0; i < length; i++) {
            text.append((char) (int) input.get(i));
        }
        input.clear();
        try {
            Text reader = new Text(text.toString());
            int statements = reader.read();
            s = reader.made;
            before.clear();
            errorPlace = -1;
            return statements;
        } catch (TextError error) {
            errorPlace = error.place;
            return error.code;
        }
    }

    static final class Text {
        final List<String> tokens = new ArrayList<>();
        final List<Integer> places = new ArrayList<>();
        int at = 0;
        State made = new State();
        final Set<String> given = new LinkedHashSet<>();
        int plans = 0;

        Text(String text) {
            java.util.regex.Matcher m = java.util.regex.Pattern.compile("[a-z]+|[0-9]+|[^ \n]", java.util.regex.Pattern.DOTALL).matcher(text);
            while (m.find()) {
                tokens.add(m.group());
                places.add(m.start());
            }
            tokens.add("");
            places.add(text.length());
        }

        String token() {
            return tokens.get(at);
        }

        void fail(int code) {
            throw new TextError(code, places.get(at));
        }

        void failIf(boolean wrong, int code) {
            if (wrong) {
                fail(code);
            }
        }

        int read() {
            int statements = 0;
            while (!token().isEmpty()) {
                statement();
                failIf(!token().equals(";"), -11);
                at++;
                statements++;
            }
            made.plans.sort(Comparator.comparingInt(plan -> plan[1]));
            return statements;
        }

        String name() {
            failIf(!token().matches("[a-z]{1,6}"), -11);
            return token();
        }

        int integer(int most) {
            failIf(!token().matches("[0-9]+"), -11);
            java.math.BigInteger value = new java.math.BigInteger(token());
            failIf(value.compareTo(java.math.BigInteger.valueOf(most)) > 0, -12);
            at++;
            return value.intValue();
        }

        void once(String word) {
            failIf(!given.add(word), -14);
        }

        void statement() {
            String word = token();
            if (word.equals("room")) {
                failIf(!made.people.isEmpty(), -11);
                failIf(made.rooms.size() == 6, -15);
                at++;
                failIf(made.rooms.contains(name()), -14);
                made.rooms.add(name());
                at++;
            } else if (word.equals("person")) {
                person();
            } else if (word.equals("lease") || word.equals("deposit")) {
                once(word);
                at++;
                int amount = integer(99999);
                if (word.equals("lease")) {
                    made.lease = amount;
                } else {
                    made.deposit = amount;
                }
            } else if (word.equals("plan")) {
                failIf(plans == 20, -15);
                plans++;
                at++;
                String name = name();
                int who = -1;
                for (int p = 0; p < made.people.size(); p++) {
                    if (made.people.get(p).name.equals(name)) {
                        who = p;
                    }
                }
                failIf(who < 0, -13);
                at++;
                int month = integer(999);
                made.plans.add(new int[] {who, month, integer(99999)});
            } else if (word.equals("set")) {
                at++;
                setting();
            } else {
                fail(-11);
            }
        }

        void person() {
            failIf(made.people.size() == 10, -15);
            at++;
            Person person = new Person();
            person.name = name();
            for (Person other : made.people) {
                failIf(other.name.equals(person.name), -14);
            }
            at++;
            person.income = integer(99999);
            person.value = new int[made.rooms.size()];
            person.no = new boolean[made.rooms.size()];
            for (int room = 0; room < made.rooms.size(); room++) {
                if (token().equals("no")) {
                    person.no[room] = true;
                    at++;
                } else {
                    person.value[room] = integer(9999);
                }
            }
            made.people.add(person);
        }

        void setting() {
            int setting = Arrays.asList("method", "share", "auto").indexOf(token());
            failIf(setting < 0, -11);
            once("set " + token());
            at++;
            if (setting == 0) {
                int method = Arrays.asList("low", "high", "middle").indexOf(token());
                failIf(method < 0, -11);
                at++;
                made.set[0] = method;
            } else {
                made.set[setting] = integer(setting == 1 ? 100 : 1);
            }
        }
    }

    int errorPosition() {
        return errorPlace;
    }

    // The flat

    boolean noPerson(int person) {
        return person < 0 || person >= s.people.size();
    }

    boolean noRoom(int room) {
        return room < 0 || room >= s.rooms.size();
    }

    private Person person(int person) {
        if (noPerson(person)) {
            throw new IndexOutOfBoundsException();
        }
        return s.people.get(person);
    }

    private void room(int room) {
        if (noRoom(room)) {
            throw new IndexOutOfBoundsException();
        }
    }

    int roomNamed(int letters) {
        for (int r = 0; r < s.rooms.size(); r++) {
            if (Check.letters(s.rooms.get(r)) == letters) {
                return r;
            }
        }
        return -1;
    }

    int personNamed(int letters) {
        for (int p = 0; p < s.people.size(); p++) {
            if (Check.letters(s.people.get(p).name) == letters) {
                return p;
            }
        }
        return -1;
    }

    int undoCount() {
        return before.size();
    }

    int getSetting(int setting) {
        return setting < 0 || setting > 2 ? -2 : s.set[setting];
    }

    int stateOf(int person) {
        return person(person).state;
    }

    int incomeOf(int person) {
        return person(person).income;
    }

    int valueOf(int person, int room) {
        person(person);
        room(room);
        return person(person).value[room];
    }

    int refuses(int person, int room) {
        person(person);
        room(room);
        return person(person).no[room] ? 1 : 0;
    }

    List<Integer> living() {
        List<Integer> living = new ArrayList<>();
        for (int p = 0; p < s.people.size(); p++) {
            if (s.people.get(p).state == 1) {
                living.add(p);
            }
        }
        return living;
    }

    int plan(int plan, int what) {
        if (plan < 0 || plan >= s.plans.size()) {
            throw new IndexOutOfBoundsException();
        }
        return what < 0 || what > 2 ? -2 : s.plans.get(plan)[what];
    }

    // The proposal

    /** All choices of rooms in their order, each as a room for each of the people who are LIVING. */
    private void list(List<Integer> living, int[] so, int done, List<int[]> all) {
        if (done == living.size()) {
            all.add(so.clone());
            return;
        }
        for (int r = 0; r < s.rooms.size(); r++) {
            boolean free = !s.people.get(living.get(done)).no[r];
            for (int d = 0; d < done; d++) {
                free &= so[d] != r;
            }
            if (free) {
                so[done] = r;
                list(living, so, done + 1, all);
            }
        }
    }

    private int sum(List<Integer> living, int[] choice) {
        int sum = 0;
        for (int i = 0; i < choice.length; i++) {
            sum += s.people.get(living.get(i)).value[choice[i]];
        }
        return sum;
    }

    final class Proposal {
        final List<Integer> living = living();
        int[] choice;
        int sum = -1;
        int count = 0;
        long[] low;
        long[] high;
        long[] prices;
        int[] shares;
        int[] pays;

        Proposal(int share) {
            List<int[]> all = new ArrayList<>();
            if (!living.isEmpty()) {
                list(living, new int[living.size()], 0, all);
            }
            for (int[] one : all) {
                int worth = sum(living, one);
                if (worth > sum) {
                    sum = worth;
                    choice = one;
                    count = 0;
                }
                count += worth == sum ? 1 : 0;
            }
            if (choice != null) {
                extremes();
                pay(share);
            }
        }

        private void extremes() {
            int n = living.size();
            long never = Long.MIN_VALUE / 4;
            long[][] path = new long[n][n];
            for (int p = 0; p < n; p++) {
                Person person = s.people.get(living.get(p));
                for (int q = 0; q < n; q++) {
                    path[p][q] = person.no[choice[q]] ? never : 120L * (person.value[choice[q]] - person.value[choice[p]]);
                }
            }
            for (int k = 0; k < n; k++) {
                for (int p = 0; p < n; p++) {
                    for (int q = 0; q < n; q++) {
                        path[p][q] = Math.max(path[p][q], path[p][k] + path[k][q]);
                    }
                }
            }
            low = new long[n];
            high = new long[n];
            for (int p = 0; p < n; p++) {
                for (int q = 0; q < n; q++) {
                    low[q] = Math.max(low[q], path[p][q]);
                    high[p] = Math.min(high[p], -path[p][q]);
                }
            }
        }

        private void pay(int share) {
            int n = living.size();
            int incomePart = s.lease * share / 100;
            int pricePart = s.lease - incomePart;
            prices = new long[n];
            long sum = 0;
            for (int p = 0; p < n; p++) {
                prices[p] = s.set[0] == 0 ? low[p] : s.set[0] == 1 ? high[p] : (low[p] + high[p]) / 2;
                sum += prices[p];
            }
            if ((120L * pricePart - sum) % n != 0) {
                throw new IllegalStateException("the prices are not whole");
            }
            long[] rests = new long[n];
            pays = new int[n];
            int left = pricePart;
            long added = (120L * pricePart - sum) / n;
            for (int p = 0; p < n; p++) {
                prices[p] += added;
                pays[p] = (int) Math.floor(prices[p] / 120.0);
                rests[p] = prices[p] - 120L * pays[p];
                left -= pays[p];
            }
            give(left, rests, pays);
            long[] incomes = new long[n];
            for (int p = 0; p < n; p++) {
                incomes[p] = s.people.get(living.get(p)).income;
            }
            shares = split(incomePart, incomes);
            for (int p = 0; p < n; p++) {
                pays[p] += shares[p];
            }
        }

        int of(int person) {
            return choice == null ? -1 : living.indexOf(person);
        }

        int in(int room) {
            for (int p = 0; choice != null && p < choice.length; p++) {
                if (choice[p] == room) {
                    return p;
                }
            }
            return -1;
        }
    }

    private static void give(int left, long[] rests, int[] parts) {
        Integer[] order = new Integer[rests.length];
        Arrays.setAll(order, i -> i);
        Arrays.sort(order, (a, b) -> rests[a] != rests[b] ? Long.compare(rests[b], rests[a]) : a - b);
        for (int i = 0; i < left; i++) {
            parts[order[i]]++;
        }
    }

    private static int[] split(int amount, long[] weights) {
        long sum = Arrays.stream(weights).sum();
        if (sum == 0) {
            Arrays.fill(weights, 1);
            sum = weights.length;
        }
        int[] parts = new int[weights.length];
        long[] rests = new long[weights.length];
        int left = amount;
        for (int i = 0; i < parts.length; i++) {
            parts[i] = (int) (amount * weights[i] / sum);
            rests[i] = amount * weights[i] % sum;
            left -= parts[i];
        }
        give(left, rests, parts);
        return parts;
    }

    Proposal proposal() {
        return new Proposal(s.set[1]);
    }

    int hasProposal() {
        return proposal().choice != null ? 1 : 0;
    }

    int proposedRoom(int person) {
        person(person);
        Proposal p = proposal();
        return p.of(person) < 0 ? -1 : p.choice[p.of(person)];
    }

    int proposedValue() {
        return proposal().sum;
    }

    int choiceCount() {
        return proposal().count;
    }

    int extreme(int room, boolean high) {
        room(room);
        Proposal p = proposal();
        return p.in(room) < 0 ? -2000000000 : (int) (high ? p.high : p.low)[p.in(room)];
    }

    int price(int room) {
        room(room);
        Proposal p = proposal();
        return p.in(room) < 0 ? -2000000000 : (int) p.prices[p.in(room)];
    }

    int pricePart() {
        return s.lease - s.lease * s.set[1] / 100;
    }

    int incomeShare(int person) {
        person(person);
        Proposal p = proposal();
        return p.of(person) < 0 ? -2000000000 : p.shares[p.of(person)];
    }

    int proposedPayment(int person) {
        person(person);
        Proposal p = proposal();
        return p.of(person) < 0 ? -2000000000 : p.pays[p.of(person)];
    }

    int surplus(int person) {
        person(person);
        Proposal p = proposal();
        int i = p.of(person);
        return i < 0 ? -2000000000 : (int) (120L * person(person).value[p.choice[i]] - p.prices[i]);
    }

    int leastSurplus() {
        Proposal p = proposal();
        int least = -1;
        for (int person : p.choice == null ? List.<Integer>of() : p.living) {
            if (least < 0 || surplus(person) < surplus(least)) {
                least = person;
            }
        }
        return least;
    }

    private int able(Proposal p, int percent) {
        int able = 0;
        for (int i = 0; i < p.living.size(); i++) {
            able += p.pays[i] * 100L <= (long) s.people.get(p.living.get(i)).income * percent ? 1 : 0;
        }
        return able;
    }

    int affordable(int percent) {
        if (percent < 0 || percent > 100) {
            return -2;
        }
        Proposal p = proposal();
        return p.choice == null ? 0 : able(p, percent);
    }

    int leastShare(int percent) {
        if (percent < 0 || percent > 100) {
            return -2;
        }
        Proposal p = proposal();
        if (p.choice == null) {
            return -1;
        }
        for (int share = 0; share <= 100; share++) {
            p.pay(share);
            if (able(p, percent) == p.living.size()) {
                return share;
            }
        }
        return -1;
    }

    int leastValue(int person, int room) {
        person(person);
        room(room);
        if (person(person).state != 1) {
            return -1;
        }
        State kept = s;
        s = s.copy();
        person(person).no[room] = false;
        person(person).value[room] = 0;
        List<Integer> living = living();
        int place = living.indexOf(person);
        List<int[]> all = new ArrayList<>();
        list(living, new int[living.size()], 0, all);
        int[] sums = new int[all.size()];
        boolean[] gets = new boolean[all.size()];
        for (int i = 0; i < sums.length; i++) {
            sums[i] = sum(living, all.get(i));
            gets[i] = all.get(i)[place] == room;
        }
        s = kept;
        for (int value = 0; value <= 9999; value++) {
            int best = -1;
            boolean got = false;
            for (int i = 0; i < sums.length; i++) {
                int sum = sums[i] + (gets[i] ? value : 0);
                if (sum > best) {
                    best = sum;
                    got = gets[i];
                }
            }
            if (got) {
                return value;
            }
        }
        return -1;
    }

    // The division

    int roomOf(int person) {
        return person(person).room;
    }

    int personIn(int room) {
        room(room);
        for (int p = 0; p < s.people.size(); p++) {
            if (s.people.get(p).room == room) {
                return p;
            }
        }
        return -1;
    }

    int payment(int person) {
        return person(person).pay;
    }

    int isCurrent() {
        Proposal p = proposal();
        for (int i = 0; i < s.people.size(); i++) {
            Person person = s.people.get(i);
            int at = p.of(i);
            if (person.room != (at < 0 ? -1 : p.choice[at]) || person.pay != (at < 0 ? 0 : p.pays[at])) {
                return 0;
            }
        }
        return 1;
    }

    int envyOf(int person, int other) {
        Person p = person(person);
        Person q = person(other);
        if (p.room < 0 || q.room < 0) {
            return -1;
        }
        if (p == q || p.no[q.room]) {
            return 0;
        }
        return Math.max(0, p.value[q.room] - q.pay - (p.value[p.room] - p.pay));
    }

    int totalEnvy() {
        int total = 0;
        for (int p = 0; p < s.people.size(); p++) {
            for (int q = 0; q < s.people.size(); q++) {
                total += Math.max(0, envyOf(p, q));
            }
        }
        return total;
    }

    int enviers(int person) {
        person(person);
        int bits = 0;
        for (int p = 0; p < s.people.size(); p++) {
            bits += envyOf(p, person) > 0 ? 1 << p : 0;
        }
        return bits;
    }

    int mostEnvied() {
        int most = -1;
        for (int p = 0; p < s.people.size(); p++) {
            int bits = Integer.bitCount(enviers(p));
            if (bits > (most < 0 ? 0 : Integer.bitCount(enviers(most)))) {
                most = p;
            }
        }
        return most;
    }

    int wouldSwap(int person, int other) {
        return envyOf(person, other) > 0 && envyOf(other, person) > 0 ? 1 : 0;
    }

    int missing() {
        return s.lease - s.people.stream().mapToInt(person -> person.pay).sum();
    }

    double burden(int person) {
        Person p = person(person);
        return p.income == 0 ? 0 : (double) p.pay / p.income;
    }

    int paid(int person, int what) {
        Person p = person(person);
        return what == 0 ? p.paid : what == 1 ? p.stake : what == 2 ? p.months : -2;
    }

    int target(int person) {
        person(person);
        List<Integer> living = living();
        int at = living.indexOf(person);
        if (at < 0) {
            return 0;
        }
        long[] weights = living.stream().mapToLong(p -> Math.max(0, s.people.get(p).pay)).toArray();
        return split(s.deposit, weights)[at];
    }

    List<int[]> transfers() {
        int[] owes = new int[11];
        for (int p = 0; p < s.people.size(); p++) {
            owes[p] = target(p) - s.people.get(p).stake;
            owes[10] -= owes[p];
        }
        List<int[]> made = new ArrayList<>();
        while (true) {
            int most = Arrays.stream(owes).max().getAsInt();
            int least = Arrays.stream(owes).min().getAsInt();
            if (most <= 0) {
                return made;
            }
            int payer = first(owes, most);
            int getter = first(owes, least);
            int amount = Math.min(most, -least);
            owes[payer] -= amount;
            owes[getter] += amount;
            made.add(new int[] {payer, getter, amount});
        }
    }

    private static int first(int[] among, int wanted) {
        int at = 0;
        while (among[at] != wanted) {
            at++;
        }
        return at;
    }

    int transfer(int transfer, int what) {
        List<int[]> all = transfers();
        if (transfer < 0 || transfer >= all.size()) {
            throw new IndexOutOfBoundsException();
        }
        return what < 0 || what > 2 ? -2 : all.get(transfer)[what];
    }

    // Changes

    private void change() {
        before.addLast(s.copy());
        if (before.size() > 10) {
            before.removeFirst();
        }
    }

    int moveIn(int person) {
        if (noPerson(person)) {
            return -1;
        }
        if (person(person).state == 1) {
            return -4;
        }
        if (living().size() == s.rooms.size()) {
            return -3;
        }
        change();
        person(person).state = 1;
        return living().size();
    }

    int moveOut(int person) {
        if (noPerson(person)) {
            return -1;
        }
        if (person(person).state != 1) {
            return -4;
        }
        change();
        person(person).state = 2;
        person(person).room = -1;
        person(person).pay = 0;
        return living().size();
    }

    int setValue(int person, int room, int value) {
        if (noPerson(person) || noRoom(room)) {
            return -1;
        }
        if (value < 0 || value > 9999) {
            return -2;
        }
        change();
        int old = person(person).value[room];
        person(person).value[room] = value;
        person(person).no[room] = false;
        return old;
    }

    int setRefusal(int person, int room, boolean refused) {
        if (noPerson(person) || noRoom(room)) {
            return -1;
        }
        if (person(person).no[room] == refused) {
            return -4;
        }
        change();
        int old = person(person).value[room];
        person(person).value[room] = 0;
        person(person).no[room] = refused;
        return old;
    }

    int setIncome(int person, int income) {
        if (noPerson(person)) {
            return -1;
        }
        if (income < 0 || income > 99999) {
            return -2;
        }
        change();
        int old = person(person).income;
        person(person).income = income;
        return old;
    }

    int setLease(int amount) {
        if (amount < 0 || amount > 99999) {
            return -2;
        }
        change();
        int old = s.lease;
        s.lease = amount;
        return old;
    }

    int setDeposit(int amount) {
        if (amount < 0 || amount > 99999) {
            return -2;
        }
        change();
        int old = s.deposit;
        s.deposit = amount;
        return old;
    }

    int setSetting(int setting, int value) {
        if (setting < 0 || setting > 2 || value < 0 || value > new int[] {2, 100, 1}[setting]) {
            return -2;
        }
        change();
        int old = s.set[setting];
        s.set[setting] = value;
        return old;
    }

    int divide() {
        if (proposal().choice == null) {
            return -1;
        }
        change();
        return agree();
    }

    private int agree() {
        Proposal p = proposal();
        int moved = 0;
        for (int i = 0; i < s.people.size(); i++) {
            Person person = s.people.get(i);
            int old = person.room;
            int at = p.of(i);
            person.room = at < 0 ? -1 : p.choice[at];
            person.pay = at < 0 ? 0 : p.pays[at];
            moved += at >= 0 && old != person.room ? 1 : 0;
        }
        return moved;
    }

    int swapRooms(int person, int other) {
        if (noPerson(person) || noPerson(other) || person(person).room < 0 || person(other).room < 0) {
            return -1;
        }
        Person p = person(person);
        Person q = person(other);
        if (p == q || p.no[q.room] || q.no[p.room]) {
            return -4;
        }
        change();
        int room = p.room;
        int pay = p.pay;
        p.room = q.room;
        p.pay = q.pay;
        q.room = room;
        q.pay = pay;
        return totalEnvy();
    }

    int passMonths(int months) {
        if (months < 1 || months > 24) {
            return -2;
        }
        if (s.month + months > 999) {
            return -3;
        }
        change();
        for (int i = 0; i < months; i++) {
            List<int[]> later = new ArrayList<>();
            for (int[] plan : s.plans) {
                if (plan[1] == s.month) {
                    person(plan[0]).income = plan[2];
                } else {
                    later.add(plan);
                }
            }
            s.plans = later;
            if (s.set[2] == 1 && proposal().choice != null) {
                agree();
            }
            s.arrears += s.lease;
            for (Person person : s.people) {
                if (person.room >= 0) {
                    person.paid += person.pay;
                    person.months++;
                    s.arrears -= person.pay;
                }
            }
            s.month++;
        }
        return s.month;
    }

    int settle() {
        int count = transfers().size();
        change();
        int[] targets = new int[s.people.size()];
        for (int p = 0; p < targets.length; p++) {
            targets[p] = target(p);
        }
        for (int p = 0; p < targets.length; p++) {
            person(p).stake = targets[p];
        }
        return count;
    }

    int undo() {
        if (before.isEmpty()) {
            return -1;
        }
        s = before.removeLast();
        return before.size();
    }

    int write() {
        List<String> parts = new ArrayList<>();
        for (Person person : s.people) {
            if (person.room >= 0) {
                parts.add(person.name + ":" + s.rooms.get(person.room) + " " + person.pay);
            }
        }
        output = String.join(";", parts);
        return output.length();
    }

    int outputAt(int index) {
        return index < 0 || index >= output.length() ? -1 : output.charAt(index);
    }
}
