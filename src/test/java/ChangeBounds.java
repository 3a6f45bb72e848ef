/** The months, the changes, the constants, and promises 51 to 65. */
final class ChangeBounds extends Bounds {
    private static final String TWO = "room a;room b;person p 100 5 5;person q 100 5 5;lease 100;set share 100;";
    private static final int[] NO_MONEY = {-1, 100000, LEAST, MOST};

    private ChangeBounds() {
    }

    static void run() {
        constants();
        months();
        changes();
        moves();
        values();
        amounts();
        settings();
        divide();
        swapRooms();
        passMonths();
        settleAndUndo();
        output();
    }

    private static void constants() {
        holds("The constants", "`METHOD = 0, SHARE = 1, AUTO = 2`: Settings.", () -> {
            int[] all = {RentDivision.METHOD, RentDivision.SHARE, RentDivision.AUTO};
            for (int i = 0; i < 3; i++) {
                due("setting " + i, all[i], i);
            }
        });
        holds("The constants", "`LOW = 0, HIGH = 1, MIDDLE = 2`: Methods.", () -> {
            int[] all = {RentDivision.LOW, RentDivision.HIGH, RentDivision.MIDDLE};
            for (int i = 0; i < 3; i++) {
                due("method " + i, all[i], i);
            }
        });
        holds("The constants", "`WAITING = 0, LIVING = 1, GONE = 2`: States of people.", () -> {
            int[] all = {RentDivision.WAITING, RentDivision.LIVING, RentDivision.GONE};
            for (int i = 0; i < 3; i++) {
                due("state " + i, all[i], i);
            }
        });
        holds("The constants", "`LANDLORD = 10`: The landlord in transfers.", () -> due("LANDLORD", RentDivision.LANDLORD, 10));
        holds("The constants", "`NOT_FOUND = -1`: Error code: there is no such thing.", () -> due("NOT_FOUND", RentDivision.NOT_FOUND, -1));
        holds("The constants", "`BAD_VALUE = -2`: Error code: a parameter is out of range.", () -> due("BAD_VALUE", RentDivision.BAD_VALUE, -2));
        holds("The constants", "`FULL = -3`: Error code: a limit is reached.", () -> due("FULL", RentDivision.FULL, -3));
        holds("The constants", "`NOT_ALLOWED = -4`: Error code: this is not allowed.", () -> due("NOT_ALLOWED", RentDivision.NOT_ALLOWED, -4));
        holds("The constants", "`NO_NUMBER = -2000000000`: Result where there is no such number.", () -> due("NO_NUMBER", RentDivision.NO_NUMBER, -2000000000));
        holds("The constants", "`SYNTAX_ERROR = -11, RANGE_ERROR = -12, NAME_ERROR = -13, DUPLICATE_ERROR = -14, COUNT_ERROR = -15`: Error codes of load.", () -> {
            int[] all = {RentDivision.SYNTAX_ERROR, RentDivision.RANGE_ERROR, RentDivision.NAME_ERROR, RentDivision.DUPLICATE_ERROR, RentDivision.COUNT_ERROR};
            for (int i = 0; i < 5; i++) {
                due("error " + i, all[i], -11 - i);
            }
        });
    }

    private static RentDivision at(RentDivision x, int month) {
        while (x.month() < month) {
            x.passMonths(Math.min(24, month - x.month()));
        }
        return x;
    }

    private static void months() {
        holds("MONTHS", "When a month passes, these things happen, in this order.", () -> {
            RentDivision x = loaded(TWO + "set auto 1;plan p 0 300;plan p 1 900;", 0, 1);
            due("two months", x.passMonths(2), 2);
            due("plans, then the proposal, then payments, each month", x.paid(0, 0), 75 + 90);
            due("the other pays the rest", x.paid(1, 0), 25 + 10);
        });
        holds("MONTHS", "1. The plans for this month, which is the one that passes (for the first one 0), in their order: "
                + "the income of a person becomes another one; they are taken away.", () -> {
            RentDivision x = Check.loaded("person p 1;plan p 1 4;plan p 0 2;plan p 0 3;plan p 998 5;plan p 999 6;");
            x.passMonths(1);
            due("the last plan for month 0", x.incomeOf(0), 3);
            due("two are taken away", x.planCount(), 3);
            x.setIncome(0, 77);
            x.passMonths(1);
            due("the plan for month 1", x.incomeOf(0), 4);
            at(x, 998);
            due("none between", x.incomeOf(0), 4);
            due("two are left", x.planCount(), 2);
            x.passMonths(1);
            due("the plan for month 998", x.incomeOf(0), 5);
            due("month 999 never passes", x.planCount(), 1);
            RentDivision y = loaded("room r;person p 1 1;person q 1 1;plan p 0 0;plan q 0 99999;", 0);
            y.moveOut(0);
            y.passMonths(1);
            due("GONE, the least income", y.incomeOf(0), 0);
            due("WAITING, the greatest income", y.incomeOf(1), 99999);
        });
        holds("MONTHS", "2. If AUTO is 1 and there is a proposal, it becomes the division.", () -> {
            RentDivision x = loaded(TWO, 0);
            x.passMonths(1);
            due("AUTO 0", x.roomOf(0), NONE);
            x.setSetting(AUTO, 1);
            x.passMonths(1);
            due("AUTO 1", x.roomOf(0), 0);
            x.moveIn(1);
            x.setRefusal(1, 0, true);
            x.setRefusal(1, 1, true);
            x.passMonths(1);
            due("no such choice: the division stays", x.payment(0), 100);
            due("and is paid", x.paid(0, 0), 200);
            x.setRefusal(1, 1, false);
            x.passMonths(1);
            due("a proposal again", x.roomOf(1), 1);
            RentDivision y = Check.loaded(TWO + "set auto 1;");
            y.passMonths(24);
            due("nobody is LIVING", y.personIn(0), NONE);
        });
        holds("MONTHS", "3. Each person with a room in the division pays; the arrears grow by the lease minus the sum of these payments "
                + "(they shrink if this is negative).", () -> {
            RentDivision x = full();
            x.passMonths(1);
            due("the first with a room", x.paid(4, 0), 100);
            due("the last with a room", x.paid(9, 0), 100);
            due("one without", x.paid(3, 0), 0);
            due("months of one without", x.paid(3, 2), 0);
            due("nothing is missing", x.arrears(), 0);
            x.setLease(601);
            x.passMonths(1);
            due("they grow", x.arrears(), 1);
            x.setLease(598);
            x.passMonths(1);
            due("they shrink", x.arrears(), -1);
            x.moveOut(9);
            x.passMonths(1);
            due("one who is GONE pays no more", x.paid(9, 0), 300);
            due("and is missed", x.arrears(), 97);
        });
        holds("MONTHS", "4. The month is one more.", () -> {
            RentDivision x = new RentDivision();
            due("the first", x.passMonths(1), 1);
            due("the second", x.passMonths(1), 2);
            due("24 at once", x.passMonths(24), 26);
        });
    }

    /** Rich, but cid is GONE, so that each of CHANGES can be made. */
    private static RentDivision open() {
        RentDivision x = rich();
        x.moveOut(CID);
        return x;
    }

    private static final Ask[] CHANGES = {x -> x.moveIn(DOT), x -> x.moveIn(CID), x -> x.moveOut(ANN), x -> x.setValue(BOB, TOP, 7),
        x -> x.setValue(ANN, BIG, 9999), x -> x.setRefusal(ANN, BIG, true), x -> x.setRefusal(BOB, TOP, false), x -> x.setIncome(BOB, 0),
        x -> x.setLease(99999), x -> x.setDeposit(0), x -> x.setSetting(METHOD, LOW), x -> x.setSetting(SHARE, 100),
        x -> x.setSetting(AUTO, 1), RentDivision::divide, x -> x.swapRooms(ANN, BOB), x -> x.passMonths(1), x -> x.passMonths(24),
        RentDivision::settle};

    /** What makes nothing different in rich. */
    private static final Ask[] SAME = {x -> x.setValue(ANN, BIG, 600), x -> x.setIncome(ANN, 3100), x -> x.setLease(1010),
        x -> x.setDeposit(700), x -> x.setSetting(METHOD, MIDDLE), x -> x.setSetting(SHARE, 10), x -> x.setSetting(AUTO, 0)};

    private static RentDivision behind(RentDivision x, Ask... calls) {
        for (Ask call : calls) {
            call.of(x);
        }
        return x;
    }

    private static void changes() {
        holds("CHANGES", "The methods moveIn, moveOut, setValue, setRefusal, setIncome, setLease, setDeposit, setSetting, divide, swapRooms, "
                + "passMonths and settle make changes; each call is one change.", () -> {
            for (int i = 0; i < CHANGES.length; i++) {
                RentDivision x = divided();
                x.moveOut(CID);
                due("change " + i + " has no error", CHANGES[i].of(x) >= 0, true);
                due("change " + i + " is one, behind five", x.undoCount(), 6);
            }
            RentDivision x = rich();
            for (int undos = 0; undos < 5; undos++) {
                x.undo();
            }
            Check.load(x, "lease x;");
            x.write();
            x.affordable(100);
            x.leastShare(50);
            x.leastValue(ANN, BIG);
            due("no other method makes one", x.undoCount(), 5);
        });
        holds("CHANGES", "A change can be undone; everything but the buffers and the error position (which stays that of the latest load) "
                + "is then as before it.", () -> {
            String before = Picture.ofState(ChangeBounds::open);
            for (int i = 0; i < CHANGES.length; i++) {
                Ask change = CHANGES[i];
                Picture.Make undone = () -> behind(open(), change, RentDivision::undo);
                same("change " + i + " undone", Picture.ofState(undone), before);
                same("change " + i + " undone leaves the buffers", Picture.ofBuffers(undone), Picture.ofBuffers(ChangeBounds::open));
            }
            undoLeavesBuffers();
            undoOfTheLast();
        });
        holds("CHANGES", "At most the 10 latest changes are kept.", () -> {
            for (int made : new int[] {1, 9, 10, 11, 12, 20, 25}) {
                latestTen(made);
            }
        });
        holds("CHANGES", "A call that returns an error code or throws an exception changes nothing, except where its description says otherwise.",
                () -> leaves("all calls that are refused", Bounds::rich, ChangeBounds::refuseAll));
        holds("CHANGES", "If a change makes nothing different, it is a change all the same.", () -> {
            for (int i = 0; i < SAME.length; i++) {
                Ask change = SAME[i];
                same("change " + i + " makes nothing different", Picture.ofState(() -> behind(rich(), change)), Picture.ofState(Bounds::rich));
                nothingDifferent("change " + i, change);
            }
            nothingDifferent("the same division", RentDivision::divide);
            nothingDifferent("nothing to settle", RentDivision::settle);
        });
    }

    /** Makes so many changes and undoes all that are kept. */
    private static void latestTen(int made) {
        RentDivision x = new RentDivision();
        for (int lease = 1; lease <= made; lease++) {
            x.setLease(lease);
        }
        int kept = Math.min(made, 10);
        due("kept of " + made, x.undoCount(), kept);
        for (int left = kept - 1; left >= 0; left--) {
            due("undo", x.undo(), left);
            due("the lease", x.lease(), made - kept + left);
        }
        due("no undo is left of " + made, x.undo(), NONE);
        due("the lease stays", x.lease(), made - kept);
        x.setLease(500);
        due("a change then", x.undoCount(), 1);
        due("its undo", x.undo(), 0);
        due("the lease of then", x.lease(), made - kept);
    }

    /** What the last of ten people has comes back as well. */
    private static void undoOfTheLast() {
        String before = Picture.ofState(ChangeBounds::withStakes);
        Ask[] changes = {x -> x.moveOut(9), x -> x.moveIn(3), x -> x.setIncome(9, 0), x -> x.setValue(9, 5, 9999), x -> x.setRefusal(9, 5, true),
            x -> x.swapRooms(8, 9), x -> x.passMonths(2), RentDivision::divide, RentDivision::settle};
        for (int i = 0; i < changes.length; i++) {
            Ask change = changes[i];
            due("change " + i + " has no error", change.of(withStakes()) >= 0, true);
            same("change " + i + " of the last undone", Picture.ofState(() -> behind(withStakes(), change, RentDivision::undo)), before);
        }
    }

    /** Full, with stakes and a month that was paid, and person 4 GONE, so that there is something to settle. */
    private static RentDivision withStakes() {
        RentDivision x = full();
        x.settle();
        x.passMonths(1);
        x.moveOut(4);
        return x;
    }

    private static void undoLeavesBuffers() {
        RentDivision x = divided();
        x.moveOut(BOB);
        int length = x.write();
        Check.load(x, "deposit x;");
        due("feed", Check.feed(x, "lease 5;"), 20);
        x.undo();
        due("the error position", x.errorPosition(), 8);
        Check.dueText("the output", Check.output(x, length), "ann:big 389;cid:top 323");
        due("the end of the output", x.outputAt(length), NONE);
        due("the input", x.load(8), 1);
        due("the lease of the input", x.lease(), 5);
    }

    private static long refuseAll(RentDivision x) {
        int errors = 0;
        int[] answers = {x.moveIn(4), x.moveIn(ANN), x.moveIn(DOT), x.moveOut(-1), x.moveOut(DOT), x.setValue(ANN, 3, 5), x.setValue(ANN, BIG, 10000),
            x.setRefusal(4, BIG, true), x.setRefusal(BOB, TOP, true), x.setIncome(4, 1), x.setIncome(ANN, -1), x.setLease(100000), x.setDeposit(-1),
            x.setSetting(3, 0), x.setSetting(AUTO, 2), x.swapRooms(DOT, ANN), x.swapRooms(BOB, CID), x.passMonths(0), x.passMonths(25), x.load(21),
            x.load(-1), x.affordable(101), x.leastShare(-1), x.getSetting(3), x.plan(0, 3), x.paid(ANN, 3), x.transfer(0, 3), x.outputAt(-1)};
        for (int answer : answers) {
            errors += answer < 0 ? 1 : 0;
        }
        due("all are refused", errors, answers.length);
        Check.dueThrow("stateOf", () -> x.stateOf(4));
        Check.dueThrow("plan", () -> x.plan(2, 0));
        Check.dueThrow("leastValue", () -> x.leastValue(DOT, 3));
        Check.dueThrow("transfer", () -> x.transfer(99, 0));
        return 0;
    }

    private static void nothingDifferent(String what, Ask change) {
        RentDivision x = divided();
        x.setDeposit(0);
        x.setDeposit(0);
        int before = x.undoCount();
        change.of(x);
        due(what + " is a change", x.undoCount(), before + 1);
        due(what + " can be undone", x.undo(), before);
    }

    private static void moves() {
        holds("Promise 51", "Returns the number of people who are LIVING then; NOT_FOUND if person is not a valid index; NOT_ALLOWED if it is LIVING "
                + "(one that is GONE can move in again); FULL if as many people are LIVING as there are rooms; checked in this order.", () -> {
            RentDivision x = Check.loaded(times("room #;", 6) + times("person # 1 1 1 1 1 1 1;", 10));
            for (int person = 9; person >= 4; person--) {
                due("person " + person, x.moveIn(person), 10 - person);
            }
            due("a seventh", x.moveIn(3), FULL);
            due("one moves out", x.moveOut(9), 5);
            due("GONE moves in again", x.moveIn(9), 6);
            due("LIVING then", x.stateOf(9), LIVING);
            for (int person : new int[] {-1, 4, LEAST, MOST}) {
                refused("no person " + person, Bounds::rich, y -> y.moveIn(person), NONE);
            }
            refused("nobody in a new flat", RentDivision::new, y -> y.moveIn(0), NONE);
            refused("10 of 10", Bounds::full, y -> y.moveIn(10), NONE);
            refused("LIVING, though it is full", Bounds::rich, y -> y.moveIn(ANN), NOT);
            refused("LIVING", () -> loaded("room a;room b;person p 1 1 1;", 0), y -> y.moveIn(0), NOT);
            refused("full", Bounds::rich, y -> y.moveIn(DOT), FULL);
            refused("full with six", Bounds::full, y -> y.moveIn(0), FULL);
            refused("no rooms", () -> Check.loaded("person p 1;"), y -> y.moveIn(0), FULL);
        });
        holds("Promise 52", "Returns the number of people who are LIVING then; NOT_FOUND if person is not a valid index; NOT_ALLOWED if it is not LIVING; "
                + "checked in this order.", () -> {
            RentDivision x = divided();
            due("ann", x.moveOut(ANN), 2);
            due("GONE", x.stateOf(ANN), GONE);
            due("no room", x.roomOf(ANN), NONE);
            due("no payment", x.payment(ANN), 0);
            due("bob", x.moveOut(BOB), 1);
            due("the last one", x.moveOut(CID), 0);
            for (int person : new int[] {-1, 4, LEAST, MOST}) {
                refused("no person " + person, Bounds::rich, y -> y.moveOut(person), NONE);
            }
            refused("nobody in a new flat", RentDivision::new, y -> y.moveOut(0), NONE);
            refused("WAITING", Bounds::rich, y -> y.moveOut(DOT), NOT);
            refused("GONE", ChangeBounds::open, y -> y.moveOut(CID), NOT);
        });
    }

    private static void values() {
        int[][] nowhere = {{-1, 0}, {4, 0}, {0, -1}, {0, 3}, {LEAST, 0}, {MOST, 0}, {0, LEAST}, {0, MOST}, {4, 3}};
        holds("Promise 53", "0 to 9999", () -> {
            RentDivision x = flat();
            due("0", x.setValue(ANN, BIG, 0), 600);
            due("9999", x.setValue(ANN, BIG, 9999), 0);
            due("then", x.valueOf(ANN, BIG), 9999);
            for (int value : new int[] {-1, 10000, LEAST, MOST}) {
                refused("value " + value, Bounds::rich, y -> y.setValue(ANN, BIG, value), BAD);
                refused("value " + value + " of a room refused", Bounds::rich, y -> y.setValue(BOB, TOP, value), BAD);
            }
        });
        holds("Promise 53", "Returns the previous value (0 if it was refused); NOT_FOUND if person or room is not a valid index; BAD_VALUE if value is out of range; "
                + "checked in this order.", () -> {
            RentDivision x = flat();
            due("refused before", x.setValue(BOB, TOP, 0), 0);
            due("not refused then", x.refuses(BOB, TOP), false);
            due("the previous value", x.setValue(CID, TOP, 5), 300);
            for (int[] one : nowhere) {
                refused("nowhere", Bounds::rich, y -> y.setValue(one[0], one[1], 5), NONE);
                refused("nowhere and out of range", Bounds::rich, y -> y.setValue(one[0], one[1], -1), NONE);
            }
            refused("a new flat", RentDivision::new, y -> y.setValue(0, 0, 10000), NONE);
        });
        holds("Promise 54", "Lets a person refuse a room, or not refuse it any more (its value is 0 then in both cases).", () -> {
            RentDivision x = flat();
            x.setRefusal(ANN, BIG, true);
            due("refused", x.refuses(ANN, BIG), true);
            due("its value", x.valueOf(ANN, BIG), 0);
            x.setRefusal(ANN, BIG, false);
            due("not refused", x.refuses(ANN, BIG), false);
            due("its value then", x.valueOf(ANN, BIG), 0);
        });
        holds("Promise 54", "Returns the previous value; NOT_FOUND if person or room is not a valid index; NOT_ALLOWED if it is so already; checked in this order.", () -> {
            RentDivision x = flat();
            due("the previous value", x.setRefusal(ANN, BIG, true), 600);
            due("the value of a room refused", x.setRefusal(ANN, BIG, false), 0);
            for (int[] one : nowhere) {
                refused("nowhere", Bounds::rich, y -> y.setRefusal(one[0], one[1], true), NONE);
                refused("nowhere, not any more", Bounds::rich, y -> y.setRefusal(one[0], one[1], false), NONE);
            }
            refused("a new flat", RentDivision::new, y -> y.setRefusal(0, 0, true), NONE);
            refused("refused already", Bounds::rich, y -> y.setRefusal(BOB, TOP, true), NOT);
            refused("not refused anyway", Bounds::rich, y -> y.setRefusal(ANN, BIG, false), NOT);
            refused("a value of 0 is no refusal", () -> loaded("room a;person p 1 0;", 0), y -> y.setRefusal(0, 0, false), NOT);
        });
    }

    private static void amounts() {
        holds("Promise 55", "0 to 99999", () -> {
            RentDivision x = flat();
            due("0", x.setIncome(DOT, 0), 500);
            due("99999", x.setIncome(DOT, 99999), 0);
            due("then", x.incomeOf(DOT), 99999);
            for (int income : NO_MONEY) {
                refused("income " + income, Bounds::rich, y -> y.setIncome(DOT, income), BAD);
            }
        });
        holds("Promise 55", "Returns the previous income; NOT_FOUND if person is not a valid index; BAD_VALUE if income is out of range; checked in this order.", () -> {
            due("the previous income", flat().setIncome(ANN, 5), 3000);
            for (int person : new int[] {-1, 4, LEAST, MOST}) {
                refused("no person " + person, Bounds::rich, x -> x.setIncome(person, 5), NONE);
                refused("no person " + person + " and out of range", Bounds::rich, x -> x.setIncome(person, 100000), NONE);
            }
            refused("a new flat", RentDivision::new, x -> x.setIncome(0, -1), NONE);
            refused("out of range", Bounds::rich, x -> x.setIncome(ANN, -1), BAD);
        });
        holds("Promise 56", "0 to 99999", () -> {
            RentDivision x = flat();
            x.setLease(0);
            due("0", x.lease(), 0);
            x.setLease(99999);
            due("99999", x.lease(), 99999);
        });
        holds("Promise 56", "Returns the previous lease; BAD_VALUE if amount is out of range.", () -> {
            RentDivision x = flat();
            due("before", x.setLease(99999), 1000);
            due("before 0", x.setLease(0), 99999);
            due("behind 0", x.setLease(0), 0);
            for (int amount : NO_MONEY) {
                refused("lease " + amount, Bounds::rich, y -> y.setLease(amount), BAD);
            }
        });
        holds("Promise 57", "0 to 99999", () -> {
            RentDivision x = flat();
            x.setDeposit(0);
            due("0", x.deposit(), 0);
            x.setDeposit(99999);
            due("99999", x.deposit(), 99999);
        });
        holds("Promise 57", "Returns the previous deposit; BAD_VALUE if amount is out of range.", () -> {
            RentDivision x = flat();
            due("before", x.setDeposit(99999), 601);
            due("before 0", x.setDeposit(0), 99999);
            due("behind 0", x.setDeposit(0), 0);
            for (int amount : NO_MONEY) {
                refused("deposit " + amount, Bounds::rich, y -> y.setDeposit(amount), BAD);
            }
        });
    }

    private static void settings() {
        holds("Promise 58", "Returns the previous value; BAD_VALUE if setting is none of these or value is out of its range.", () -> {
            int[] most = {2, 100, 1};
            int[] initial = {MIDDLE, 0, 0};
            for (int setting = 0; setting < 3; setting++) {
                int one = setting;
                RentDivision x = new RentDivision();
                due("the initial value of " + one, x.setSetting(one, 0), initial[one]);
                due("the least value of " + one, x.setSetting(one, most[one]), 0);
                due("the greatest value of " + one, x.setSetting(one, 0), most[one]);
                for (int value : new int[] {-1, most[one] + 1, LEAST, MOST}) {
                    refused("setting " + one + ", value " + value, Bounds::rich, y -> y.setSetting(one, value), BAD);
                }
            }
            for (int setting : new int[] {-1, 3, LEAST, MOST}) {
                refused("no setting " + setting, Bounds::rich, y -> y.setSetting(setting, 0), BAD);
            }
        });
    }

    private static void divide() {
        holds("Promise 59", "Returns the number of people who have a room in it and had another one or none before; NOT_FOUND if there is no proposal.", () -> {
            RentDivision x = lived();
            due("all had none", x.divide(), 3);
            due("none has another", x.divide(), 0);
            x.setLease(2000);
            due("other payments alone", x.divide(), 0);
            due("one pays more then", x.payment(ANN), 722);
            x.swapRooms(ANN, BOB);
            due("two had others", x.divide(), 2);
            x.moveOut(CID);
            due("one has no room any more", x.divide(), 0);
            x.moveIn(CID);
            due("one had none", x.divide(), 1);
            due("six had none", behind(full(), RentDivision::undo).divide(), 6);
            refused("nobody is LIVING", Bounds::flat, RentDivision::divide, NONE);
            refused("a new flat", RentDivision::new, RentDivision::divide, NONE);
            refused("no such choice, with a division", () -> {
                RentDivision y = divided();
                y.setRefusal(CID, TOP, true);
                y.setRefusal(CID, MID, true);
                y.setRefusal(ANN, TOP, true);
                return y;
            }, RentDivision::divide, NONE);
        });
    }

    private static void swapRooms() {
        holds("Promise 60", "Returns the total envy then; NOT_FOUND if person or other is not a valid index or has no room in the division; "
                + "NOT_ALLOWED if they are the same, or one of them refuses the room of the other; checked in this order.", () -> {
            RentDivision x = full();
            due("no envy then", x.swapRooms(4, 9), 0);
            due("the first room", x.roomOf(9), 0);
            due("the last room", x.roomOf(4), 5);
            x.setValue(4, 0, 3);
            due("the room it would like", x.swapRooms(9, 4), 0);
            due("envy then", x.swapRooms(9, 4), 2);
            for (int person : new int[] {-1, 4, DOT, LEAST, MOST}) {
                refused("no room, person " + person, Bounds::rich, y -> y.swapRooms(person, ANN), NONE);
                refused("no room, other " + person, Bounds::rich, y -> y.swapRooms(ANN, person), NONE);
                refused("no room, both " + person, Bounds::rich, y -> y.swapRooms(person, person), NONE);
            }
            refused("no division", Bounds::lived, y -> y.swapRooms(ANN, BOB), NONE);
            refused("a new flat", RentDivision::new, y -> y.swapRooms(0, 0), NONE);
            refused("the same", Bounds::rich, y -> y.swapRooms(ANN, ANN), NOT);
            refused("the person refuses", Bounds::rich, y -> y.swapRooms(BOB, CID), NOT);
            refused("the other refuses", Bounds::rich, y -> y.swapRooms(CID, BOB), NOT);
        });
        holds("Promise 60", "Lets two people exchange their rooms in the division; the payments stay with the rooms.", () -> {
            RentDivision x = divided();
            x.swapRooms(BOB, ANN);
            due("ann's room", x.roomOf(ANN), MID);
            due("ann's payment", x.payment(ANN), 288);
            due("bob's room", x.roomOf(BOB), BIG);
            due("bob's payment", x.payment(BOB), 389);
            due("cid's payment", x.payment(CID), 323);
            RentDivision y = divided();
            y.setRefusal(ANN, BIG, true);
            due("the own room can be refused", y.swapRooms(ANN, BOB) >= 0, true);
        });
    }

    private static void passMonths() {
        holds("Promise 61", "1 to 24", () -> {
            due("1", new RentDivision().passMonths(1), 1);
            due("24", new RentDivision().passMonths(24), 24);
        });
        holds("Promise 61", "Returns the month then; BAD_VALUE if months is out of range; FULL if the month would be more than 999; checked in this order.", () -> {
            for (int months : new int[] {0, -1, 25, LEAST, MOST}) {
                refused("months " + months, Bounds::rich, x -> x.passMonths(months), BAD);
                refused("months " + months + " behind the last", () -> at(full(), 999), x -> x.passMonths(months), BAD);
            }
            due("up to 999", at(full(), 975).passMonths(24), 999);
            refused("24 up to 1000", () -> at(full(), 976), x -> x.passMonths(24), FULL);
            due("23 up to 999", at(full(), 976).passMonths(23), 999);
            due("1 up to 999", at(full(), 998).passMonths(1), 999);
            refused("2 up to 1000", () -> at(full(), 998), x -> x.passMonths(2), FULL);
            refused("1 up to 1000", () -> at(full(), 999), x -> x.passMonths(1), FULL);
        });
        holds("Promise 61", "Lets months pass (see MONTHS), as one change.", () -> {
            RentDivision x = at(full(), 24);
            due("moves, a division and months", x.undoCount(), 8);
            due("undo", x.undo(), 7);
            due("the month", x.month(), 0);
            due("all plans", x.planCount(), 20);
            due("nothing is paid", x.paid(9, 0) + x.paid(9, 2), 0);
        });
    }

    private static void settleAndUndo() {
        holds("Promise 62", "Makes all transfers (see DEPOSITS): each stake is its target then.", () -> {
            RentDivision x = divided();
            due("three", x.settle(), 3);
            for (int person = 0; person < 4; person++) {
                due("stake of " + person, x.paid(person, 1), x.target(person));
            }
            due("ann", x.paid(ANN, 1), 234);
            x.moveOut(ANN);
            due("two", x.settle(), 2);
            due("GONE", x.paid(ANN, 1), 0);
            due("none is left", x.transferCount(), 0);
        });
        holds("Promise 62", "Returns the number of transfers.", () -> {
            due("a new flat", new RentDivision().settle(), 0);
            due("six", full().settle(), 6);
            due("none behind it", behind(full(), RentDivision::settle).settle(), 0);
        });
        holds("Promise 63", "Returns the number of changes that can still be undone; NOT_FOUND if there is none to undo.", () -> {
            RentDivision x = rich();
            for (int left = 9; left >= 0; left--) {
                due("undo", x.undo(), left);
            }
            due("none is left", x.undo(), NONE);
            due("none is left again", x.undo(), NONE);
            refused("a new flat", RentDivision::new, RentDivision::undo, NONE);
            refused("behind a load", Bounds::flat, RentDivision::undo, NONE);
            refused("all undone", () -> {
                RentDivision y = rich();
                for (int undos = 0; undos < 10; undos++) {
                    y.undo();
                }
                return y;
            }, RentDivision::undo, NONE);
        });
    }

    private static void written(RentDivision x, String text) {
        due("write", x.write(), text.length());
        Check.dueText("text", Check.output(x, text.length()), text);
        due("its end", x.outputAt(text.length()), NONE);
    }

    private static void output() {
        holds("Promise 64", "Writes the division to the output buffer, replacing its content: for each person with a room in it, by index, its name, a colon, "
                + "the name of the room, a space and the payment (with a - ahead if it is negative), with a semicolon between each two people.", () -> {
            RentDivision x = divided();
            written(lived(), "");
            written(x, "ann:big 389;bob:mid 288;cid:top 323");
            x.swapRooms(ANN, BOB);
            x.moveOut(CID);
            written(x, "ann:mid 288;bob:big 389");
            x.moveOut(ANN);
            written(x, "bob:big 389");
            x.moveOut(BOB);
            written(x, "");
            written(new RentDivision(), "");
            written(behind(loaded("room a;room b;person p 5 99 0;person q 5 50 1;lease 1;", 0, 1), RentDivision::divide), "p:a 25;q:b -24");
            written(behind(loaded("room a;room b;person p 1 9 0;person q 1 7 5;set method low;", 0, 1), RentDivision::divide), "p:a 1;q:b -1");
            written(longest(), "aaaaaa:aaaaaz 24998;bbbbbb:bbbbbz 14999;cccccc:cccccz 5000;dddddd:dddddz -5000;eeeeee:eeeeez -14999;ffffff:fffffz -24998");
            for (int lease : new int[] {0, 1, 9, 10, 99, 100, 999, 1000, 9999, 10000, 99999}) {
                written(behind(loaded("room a;person p 5 1;lease " + lease + ";", 0), RentDivision::divide), "p:a " + lease);
            }
        });
        holds("Promise 65", "Returns the character; NOT_FOUND if there is none with that index.", () -> {
            RentDivision x = rich();
            due("the first", x.outputAt(0), 'a');
            due("the last", x.outputAt(34), '3');
            for (int index : new int[] {-1, 35, 36, 900, LEAST, MOST}) {
                refused("index " + index, Bounds::rich, y -> y.outputAt(index), NONE);
            }
            refused("nothing is written yet", Bounds::divided, y -> y.outputAt(0), NONE);
            x.moveOut(CID);
            due("a change leaves the output", x.outputAt(34), '3');
            due("a shorter text", x.write(), 23);
            due("its last", x.outputAt(22), '8');
            due("the old one is gone", x.outputAt(23), NONE);
        });
    }

    /** Six people and rooms with names of six letters; each person has one room and would like the one ahead by 9999. */
    private static RentDivision longest() {
        StringBuilder text = new StringBuilder(times("room #####z;", 6));
        for (int person = 0; person < 6; person++) {
            text.append("person ").append(String.valueOf((char) ('a' + person)).repeat(6)).append(" 1");
            for (int room = 0; room < 6; room++) {
                text.append(room == person ? " 0" : room == person - 1 ? " 9999" : " no");
            }
            text.append(';');
        }
        return behind(loaded(text.toString(), 0, 1, 2, 3, 4, 5), RentDivision::divide);
    }
}
