/** What the parts of BoundsTest share: the scenes, and the forms of their tests. */
abstract class Bounds {
    static final int NONE = RentDivision.NOT_FOUND, BAD = RentDivision.BAD_VALUE;
    static final int FULL = RentDivision.FULL, NOT = RentDivision.NOT_ALLOWED, NO_NUMBER = RentDivision.NO_NUMBER;
    static final int SYNTAX = RentDivision.SYNTAX_ERROR, RANGE = RentDivision.RANGE_ERROR, NAME = RentDivision.NAME_ERROR;
    static final int TWICE = RentDivision.DUPLICATE_ERROR, COUNT = RentDivision.COUNT_ERROR;
    static final int METHOD = RentDivision.METHOD, SHARE = RentDivision.SHARE, AUTO = RentDivision.AUTO;
    static final int LOW = RentDivision.LOW, HIGH = RentDivision.HIGH, MIDDLE = RentDivision.MIDDLE;
    static final int WAITING = RentDivision.WAITING, LIVING = RentDivision.LIVING, GONE = RentDivision.GONE;
    static final int LANDLORD = RentDivision.LANDLORD;
    static final int LEAST = Integer.MIN_VALUE, MOST = Integer.MAX_VALUE;
    static final int ANN = 0, BOB = 1, CID = 2, DOT = 3;
    static final int BIG = 0, MID = 1, TOP = 2;
    static final String FLAT = "room big;room mid;room top;"
            + "person ann 3000 600 200 200;person bob 1000 500 400 no;person cid 500 330 10 300;person dot 500 100 no no;"
            + "lease 1000;deposit 601;plan bob 2 4000;plan ann 0 3100;plan bob 0 1100;plan ann 2 5;";

    private static final String NO_PERSON = "Throws `IndexOutOfBoundsException` if person is not a valid index";
    private static final String NO_OTHER = "Throws `IndexOutOfBoundsException` if person or other is not a valid index";
    private static final String NO_ROOM = "Throws `IndexOutOfBoundsException` if room is not a valid index";
    private static final String NEITHER = "Throws `IndexOutOfBoundsException` if person or room is not a valid index";

    interface Ask {
        long of(RentDivision x);
    }

    interface AskOne {
        long of(RentDivision x, int index);
    }

    interface AskTwo {
        long of(RentDivision x, int first, int second);
    }

    // Scenes

    static RentDivision flat() {
        return Check.loaded(FLAT);
    }

    /** Ann, bob and cid are LIVING and there is no room for dot. */
    static RentDivision lived() {
        RentDivision x = flat();
        x.moveIn(CID);
        x.moveIn(ANN);
        x.moveIn(BOB);
        return x;
    }

    /** Ann pays 389 for big, bob 288 for mid and cid 323 for top. */
    static RentDivision divided() {
        RentDivision x = lived();
        x.divide();
        return x;
    }

    /** Divided, with envy, stakes, arrears, two plans left, a text in the output and as many undos as are kept. */
    static RentDivision rich() {
        RentDivision x = divided();
        Check.load(x, "lease x;");
        x.settle();
        x.passMonths(1);
        x.setLease(1010);
        x.passMonths(1);
        x.setSetting(SHARE, 10);
        x.setValue(BOB, BIG, 600);
        x.setValue(CID, BIG, 500);
        x.setValue(ANN, MID, 500);
        x.setDeposit(700);
        x.write();
        return x;
    }

    /** Six rooms, ten people, twenty plans and the last six people LIVING, who take the rooms in their order. */
    static RentDivision full() {
        RentDivision x = Check.loaded(times("room #;", 6) + times("person # 9 1 1 1 1 1 1;", 10) + times("plan # 1 2;", 10)
                + times("plan # 998 3;", 9) + "plan j 999 4;lease 600;deposit 600;");
        for (int p = 4; p < 10; p++) {
            x.moveIn(p);
        }
        x.divide();
        return x;
    }

    static RentDivision loaded(String text, int... living) {
        RentDivision x = Check.loaded(text);
        for (int person : living) {
            x.moveIn(person);
        }
        return x;
    }

    /** The statement as often as told, with a letter of its own each time where the sign # stands. */
    static String times(String statement, int times) {
        StringBuilder text = new StringBuilder();
        for (int i = 0; i < times; i++) {
            text.append(statement.replace('#', (char) ('a' + i)));
        }
        return text.toString();
    }

    // Forms of tests

    static void holds(String section, String quote, Runnable test) {
        Sentences.holds(section, quote, test);
    }

    static void due(String what, long got, long want) {
        Check.due(what, got, want);
    }

    static void due(String what, boolean got, boolean want) {
        Check.due(what, got, want);
    }

    static void same(String what, String got, String want) {
        Check.due(what + " " + Picture.difference(got, want), got.equals(want), true);
    }

    /** Bytes wait in the input, so that a call that must not touch them shows it. */
    private static RentDivision withInput(Picture.Make make) {
        RentDivision x = make.object();
        Check.feed(x, "lease 77;room seven;");
        return x;
    }

    private static RentDivision after(Picture.Make make, Ask call) {
        RentDivision x = withInput(make);
        try {
            call.of(x);
        } catch (IndexOutOfBoundsException e) {
            return x;
        }
        return x;
    }

    /** The call changes nothing. */
    static void leaves(String what, Picture.Make make, Ask call) {
        same(what + " leaves all as it was", Picture.of(() -> after(make, call)), Picture.of(() -> withInput(make)));
        due(what + " leaves the error position", after(make, call).errorPosition(), make.object().errorPosition());
    }

    static void refused(String what, Picture.Make make, Ask call, long code) {
        due(what, call.of(withInput(make)), code);
        leaves(what, make, call);
    }

    static void thrown(String what, Picture.Make make, Ask call) {
        Check.dueThrow(what, () -> call.of(withInput(make)));
        leaves(what, make, call);
    }

    // Indices that are just too small and just too large, and the outermost ones that are allowed

    private static void index(String what, Picture.Make make, int count, AskOne call) {
        for (int index : new int[] {-1, count, count + 1, LEAST, MOST}) {
            thrown(what + " " + index + " of " + count, make, x -> call.of(x, index));
        }
        for (int index = 0; index < count; index++) {
            call.of(make.object(), index);
            due(what + " " + index + " of " + count + " does not throw", true, true);
        }
    }

    private static void indexOfPerson(AskOne call) {
        index("person", Bounds::full, 10, call);
        index("person", Bounds::rich, 4, call);
        index("person", RentDivision::new, 0, call);
    }

    private static void indexOfRoom(AskOne call) {
        index("room", Bounds::full, 6, call);
        index("room", Bounds::rich, 3, call);
        index("room", RentDivision::new, 0, call);
    }

    static void checksPerson(String promise, AskOne call) {
        holds(promise, NO_PERSON, () -> indexOfPerson(call));
    }

    static void checksPersonFirst(String promise, AskOne call) {
        holds(promise, NO_PERSON + " (checked first)", () -> indexOfPerson(call));
    }

    static void checksOther(String promise, AskTwo call) {
        holds(promise, NO_OTHER, () -> {
            indexOfPerson((x, p) -> call.of(x, p, x.personCount() - 1));
            indexOfPerson((x, p) -> call.of(x, x.personCount() - 1, p));
            thrown("both", Bounds::rich, x -> call.of(x, 4, 4));
            thrown("the other for one without room", Bounds::rich, x -> call.of(x, DOT, 4));
        });
    }

    static void checksRoom(String promise, AskOne call) {
        holds(promise, NO_ROOM, () -> indexOfRoom(call));
    }

    static void checksPersonAndRoom(String promise, AskTwo call) {
        holds(promise, NEITHER, () -> {
            indexOfPerson((x, p) -> call.of(x, p, x.roomCount() - 1));
            index("room", Bounds::full, 6, (x, r) -> call.of(x, 9, r));
            index("room", Bounds::rich, 3, (x, r) -> call.of(x, DOT, r));
            index("room", () -> Check.loaded("person a 1;"), 0, (x, r) -> call.of(x, 0, r));
            thrown("both", Bounds::rich, x -> call.of(x, 4, 3));
        });
    }
}
