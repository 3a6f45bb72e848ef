import java.util.ArrayList;
import java.util.List;

/** Runs of calls from a fixed seed, each answer compared with that of Model. */
public final class RandomTest {
    private static final String SPOILERS = ";; x9\n\t\0.A\u00e9\u00ffno{";
    private static long seed;
    private static RentDivision x;
    private static Model m;
    /** Whether the run comes to the last months. */
    private static boolean late;

    private interface Two {
        long of(boolean model);
    }

    /** A number from 0 to the bound, without the bound. */
    private static int any(int bound) {
        seed = seed * 6364136223846793005L + 1442695040888963407L;
        return (int) ((seed >>> 33) % bound);
    }

    private static boolean chance(int percent) {
        return any(100) < percent;
    }

    private static int odd() {
        int[] odd = {Integer.MIN_VALUE, Integer.MIN_VALUE + 1, Integer.MAX_VALUE, Integer.MAX_VALUE - 1, -2, 1 << 16, 1 << 30};
        return odd[any(odd.length)];
    }

    private static int number(int most) {
        if (chance(1)) {
            return odd();
        }
        if (chance(4)) {
            return most + 1 + any(3);
        }
        if (chance(10)) {
            return most;
        }
        return chance(60) ? any(Math.min(most, 12) + 1) : any(most + 1);
    }

    private static long outcome(Two call, boolean model) {
        try {
            return call.of(model);
        } catch (IndexOutOfBoundsException e) {
            return model || e.getClass() == IndexOutOfBoundsException.class ? Long.MIN_VALUE : Long.MAX_VALUE;
        }
    }

    private static void same(String what, Two call) {
        Check.due(what, outcome(call, false), outcome(call, true));
    }

    // Texts

    private static String word() {
        String[] often = {"a", "b", "room", "no", "set", "ann", "kitchn", "zz", "person", "bedrooms"};
        if (chance(60)) {
            return often[any(chance(97) ? often.length - 1 : often.length)];
        }
        StringBuilder word = new StringBuilder();
        for (int i = 1 + any(6); i > 0; i--) {
            word.append((char) ('a' + any(26)));
        }
        return word.toString();
    }

    private static String digits(int most) {
        int value = chance(99) ? Math.max(0, Math.min(most, number(most))) : most + 1 + any(5);
        String text = Integer.toString(value);
        return chance(3) ? "000000000000000000000" + text : chance(1) && chance(30) ? text + "99999999999999999999" : text;
    }

    private static String space() {
        return chance(90) ? " " : chance(50) ? "\n" : "  ";
    }

    private static List<String> statements() {
        List<String> all = new ArrayList<>();
        int rooms = chance(2) ? 7 : any(7);
        int people = chance(2) ? 11 : Math.min(10, rooms + any(5));
        int level = chance(30) ? 3 : chance(50) ? 50 : 9999;
        for (int r = 0; r < rooms; r++) {
            all.add("room" + space() + (chance(95) ? "r" + (char) ('a' + r) : word()));
        }
        List<String> names = new ArrayList<>();
        for (int p = 0; p < people; p++) {
            StringBuilder text = new StringBuilder("person" + space());
            String name = chance(95) ? "p" + (char) ('a' + p) : word();
            names.add(name);
            text.append(name).append(space()).append(digits(chance(50) ? 99999 : 5000));
            int values = chance(99) ? rooms : any(8);
            int no = chance(70) ? 10 : 45;
            for (int r = 0; r < values; r++) {
                text.append(space()).append(chance(no) ? "no" : digits(level));
            }
            all.add(text.toString());
        }
        if (chance(80)) {
            all.add(any(all.size() + 1), "lease" + space() + digits(chance(50) ? 99999 : 3000));
        }
        if (chance(80)) {
            all.add("deposit" + space() + digits(chance(50) ? 99999 : 5000));
        }
        int plans = chance(3) ? 21 : any(chance(20) ? 20 : 5);
        for (int i = 0; i < plans; i++) {
            String name = names.isEmpty() || chance(1) ? word() : names.get(any(names.size()));
            all.add("plan" + space() + name + space() + digits(chance(80) ? 20 : 999) + space() + digits(99999));
        }
        if (chance(50)) {
            all.add("set method" + space() + new String[] {"low", "high", "middle"}[any(3)]);
        }
        if (chance(50)) {
            all.add(any(all.size() + 1), "set share" + space() + digits(100));
        }
        if (chance(50)) {
            all.add("set auto" + space() + digits(1));
        }
        if (chance(3)) {
            all.add(any(all.size() + 1), all.get(any(all.size())));
        }
        return all;
    }

    private static String text() {
        StringBuilder text = new StringBuilder(chance(90) ? "" : " \n ");
        for (String statement : statements()) {
            text.append(statement).append(chance(95) ? ";" : " ; ");
        }
        for (int i = chance(25) ? 1 + any(2) : 0; i > 0 && text.length() > 0; i--) {
            spoil(text);
        }
        if (text.length() > 900) {
            text.setLength(900);
        }
        return text.toString();
    }

    private static void spoil(StringBuilder text) {
        int place = any(text.length());
        switch (any(4)) {
            case 0:
                text.deleteCharAt(place);
                break;
            case 1:
                text.insert(place, SPOILERS.charAt(any(SPOILERS.length())));
                break;
            case 2:
                text.setCharAt(place, SPOILERS.charAt(any(SPOILERS.length())));
                break;
            default:
                text.setLength(place);
        }
    }

    private static int four(String text, int from) {
        int four = 0;
        for (int i = from; i < from + 4; i++) {
            four = four << 8 | (i < text.length() ? text.charAt(i) : 32);
        }
        return four;
    }

    private static void feed(String text) {
        for (int from = 0; from < text.length(); from += 20) {
            int at = from;
            int[] w = {four(text, at), four(text, at + 4), four(text, at + 8), four(text, at + 12), four(text, at + 16)};
            same("feed", model -> model ? m.feed(w) : x.feed(w[0], w[1], w[2], w[3], w[4]));
        }
    }

    private static void loadAny() {
        String text = text();
        feed(text);
        int length = chance(95) ? text.length() : chance(95) ? any(text.length() + 60) - 10 : odd();
        same("load of '" + text + "'", model -> model ? m.load(length) : x.load(length));
        same("errorPosition", model -> model ? m.errorPosition() : x.errorPosition());
    }

    // Calls

    private static void compareFlat() {
        same("roomCount", model -> model ? m.s.rooms.size() : x.roomCount());
        same("personCount", model -> model ? m.s.people.size() : x.personCount());
        same("month", model -> model ? m.s.month : x.month());
        same("undoCount", model -> model ? m.undoCount() : x.undoCount());
        same("lease", model -> model ? m.s.lease : x.lease());
        same("deposit", model -> model ? m.s.deposit : x.deposit());
        same("arrears", model -> model ? m.s.arrears : x.arrears());
        same("livingCount", model -> model ? m.living().size() : x.livingCount());
        same("planCount", model -> model ? m.s.plans.size() : x.planCount());
        same("hasProposal", model -> model ? m.hasProposal() : x.hasProposal() ? 1 : 0);
        same("proposedValue", model -> model ? m.proposedValue() : x.proposedValue());
        same("choiceCount", model -> model ? m.choiceCount() : x.choiceCount());
        same("pricePart", model -> model ? m.pricePart() : x.pricePart());
        same("leastSurplus", model -> model ? m.leastSurplus() : x.leastSurplus());
        same("isCurrent", model -> model ? m.isCurrent() : x.isCurrent() ? 1 : 0);
        same("totalEnvy", model -> model ? m.totalEnvy() : x.totalEnvy());
        same("mostEnvied", model -> model ? m.mostEnvied() : x.mostEnvied());
        same("missing", model -> model ? m.missing() : x.missing());
        same("transferCount", model -> model ? m.transfers().size() : x.transferCount());
        for (int setting = -1; setting <= 3; setting++) {
            int t = setting;
            same("getSetting", model -> model ? m.getSetting(t) : x.getSetting(t));
        }
    }

    private static void comparePerson(int p) {
        same("stateOf", model -> model ? m.stateOf(p) : x.stateOf(p));
        same("incomeOf", model -> model ? m.incomeOf(p) : x.incomeOf(p));
        same("proposedRoom", model -> model ? m.proposedRoom(p) : x.proposedRoom(p));
        same("incomeShare", model -> model ? m.incomeShare(p) : x.incomeShare(p));
        same("proposedPayment", model -> model ? m.proposedPayment(p) : x.proposedPayment(p));
        same("surplus", model -> model ? m.surplus(p) : x.surplus(p));
        same("roomOf", model -> model ? m.roomOf(p) : x.roomOf(p));
        same("payment", model -> model ? m.payment(p) : x.payment(p));
        same("enviers", model -> model ? m.enviers(p) : x.enviers(p));
        same("burden", model -> Double.doubleToLongBits(model ? m.burden(p) : x.burden(p)));
        same("target", model -> model ? m.target(p) : x.target(p));
        for (int what = -1; what <= 3; what++) {
            int w = what;
            same("paid", model -> model ? m.paid(p, w) : x.paid(p, w));
        }
    }

    private static void comparePairs(int p, int q) {
        same("valueOf", model -> model ? m.valueOf(p, q) : x.valueOf(p, q));
        same("refuses", model -> model ? m.refuses(p, q) : x.refuses(p, q) ? 1 : 0);
        int h = anyHoused();
        int g = anyHoused();
        same("envyOf", model -> model ? m.envyOf(h, g) : x.envyOf(h, g));
        same("wouldSwap", model -> model ? m.wouldSwap(h, g) : x.wouldSwap(h, g) ? 1 : 0);
        same("envyOf", model -> model ? m.envyOf(p, q) : x.envyOf(p, q));
        same("wouldSwap", model -> model ? m.wouldSwap(p, q) : x.wouldSwap(p, q) ? 1 : 0);
        int what = chance(95) ? q % 4 : odd();
        same("transfer", model -> model ? m.transfer(p, what) : x.transfer(p, what));
        same("plan", model -> model ? m.plan(p, what) : x.plan(p, what));
    }

    private static void compareRoom(int r) {
        same("extreme low", model -> model ? m.extreme(r, false) : x.extreme(r, false));
        same("extreme high", model -> model ? m.extreme(r, true) : x.extreme(r, true));
        same("price", model -> model ? m.price(r) : x.price(r));
        same("personIn", model -> model ? m.personIn(r) : x.personIn(r));
    }

    private static void compareSome() {
        compareFlat();
        for (int i = 0; i < 4; i++) {
            comparePerson(anyPerson());
            comparePairs(anyPerson(), chance(50) ? anyPerson() : anyRoom());
            compareRoom(anyRoom());
        }
        int percent = chance(98) ? any(103) - 1 : odd();
        same("affordable", model -> model ? m.affordable(percent) : x.affordable(percent));
        if (chance(20)) {
            same("leastShare", model -> model ? m.leastShare(percent) : x.leastShare(percent));
            int p = anyPerson();
            int r = anyRoom();
            same("leastValue", model -> model ? m.leastValue(p, r) : x.leastValue(p, r));
        }
        int letters = chance(50) ? Check.letters("r" + (char) ('a' + any(8))) : chance(80) ? Check.letters("p" + (char) ('a' + any(12))) : any(5) - 2;
        same("roomNamed", model -> model ? m.roomNamed(letters) : x.roomNamed(letters));
        same("personNamed", model -> model ? m.personNamed(letters) : x.personNamed(letters));
    }

    private static void writeAll() {
        same("write", model -> model ? m.write() : x.write());
        for (int i = -1; i < 140; i++) {
            int at = i;
            same("outputAt", model -> model ? m.outputAt(at) : x.outputAt(at));
        }
    }

    private static int anyPerson() {
        int people = m.s.people.size();
        return people > 0 && chance(90) ? any(people) : chance(95) ? any(13) - 1 : odd();
    }

    private static int anyRoom() {
        int rooms = m.s.rooms.size();
        return rooms > 0 && chance(90) ? any(rooms) : chance(95) ? any(9) - 1 : odd();
    }

    /** A person with a room in the division, mostly, if there is one. */
    private static int anyHoused() {
        int person = anyPerson();
        for (int tries = 0; tries < 10 && chance(95); tries++) {
            if (!m.noPerson(person) && m.s.people.get(person).room >= 0) {
                return person;
            }
            person = anyPerson();
        }
        return person;
    }

    private static void change() {
        int p = anyPerson();
        int h = anyHoused();
        int q = anyHoused();
        int r = anyRoom();
        boolean yes = chance(50);
        int value = chance(96) ? number(9999) : -1;
        int money = chance(96) ? number(99999) : -1;
        switch (any(21)) {
            case 0: case 1: case 2: case 3: case 4:
                same("moveIn", model -> model ? m.moveIn(p) : x.moveIn(p));
                break;
            case 5:
                same("moveOut", model -> model ? m.moveOut(p) : x.moveOut(p));
                break;
            case 6: case 7:
                same("setValue", model -> model ? m.setValue(p, r, value) : x.setValue(p, r, value));
                break;
            case 8:
                same("setRefusal", model -> model ? m.setRefusal(p, r, yes) : x.setRefusal(p, r, yes));
                break;
            case 9:
                same("setIncome", model -> model ? m.setIncome(p, money) : x.setIncome(p, money));
                break;
            case 10:
                same("setLease", model -> model ? m.setLease(money) : x.setLease(money));
                break;
            case 11:
                same("setDeposit", model -> model ? m.setDeposit(money) : x.setDeposit(money));
                break;
            case 12: {
                int setting = chance(95) ? any(3) : chance(90) ? any(6) - 2 : odd();
                int to = setting == 1 ? any(103) - 1 : any(4) - (chance(90) ? 0 : 1);
                same("setSetting", model -> model ? m.setSetting(setting, to) : x.setSetting(setting, to));
                break;
            }
            case 13: case 14:
                same("divide", model -> model ? m.divide() : x.divide());
                break;
            case 15: case 19:
                same("swapRooms", model -> model ? m.swapRooms(h, q) : x.swapRooms(h, q));
                break;
            case 16: {
                int months = late ? 24 : chance(90) ? 1 + any(4) : chance(95) ? any(27) - 1 : odd();
                same("passMonths", model -> model ? m.passMonths(months) : x.passMonths(months));
                break;
            }
            case 17:
                same("settle", model -> model ? m.settle() : x.settle());
                break;
            case 18:
                same("undo", model -> model ? m.undo() : x.undo());
                break;
            default:
                writeAll();
        }
    }

    private static void run() {
        x = new RentDivision();
        m = new Model();
        for (int tries = 0; tries < 4 && m.s.people.isEmpty(); tries++) {
            loadAny();
        }
        late = chance(3);
        for (int i = 0; i < m.s.people.size(); i++) {
            int person = i;
            if (chance(70)) {
                same("moveIn", model -> model ? m.moveIn(person) : x.moveIn(person));
            }
        }
        for (int i = 0; late && i < 41; i++) {
            same("passMonths", model -> model ? m.passMonths(24) : x.passMonths(24));
        }
        for (int i = 0; i < 60; i++) {
            change();
            if (chance(30)) {
                compareSome();
            }
            if (chance(2)) {
                loadAny();
            }
        }
        compareSome();
    }

    /** Reads texts alone, since most faults of texts end a run early. */
    private static void texts() {
        x = new RentDivision();
        m = new Model();
        for (int i = 0; i < 20; i++) {
            loadAny();
            compareFlat();
        }
    }

    public static void main(String[] args) {
        int runs = args.length > 0 ? Integer.parseInt(args[0]) : 1500;
        for (int i = 0; i < runs; i++) {
            seed = 977L * i + (args.length > 1 ? Long.parseLong(args[1]) : 0);
            run();
            texts();
        }
        Check.end("RandomTest");
    }
}
