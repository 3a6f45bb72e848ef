/** The flat, and promises 5, 6 and 9 to 20. */
final class FlatBounds extends Bounds {
    private FlatBounds() {
    }

    static void run() {
        calls();
        sizes();
        settings();
        counts();
        people();
        values();
        plans();
    }

    private static void calls() {
        holds("What it is", "An object is used for at most 512 calls after it has been made; what later calls answer is free.", () -> {
            RentDivision x = new RentDivision();
            for (int call = 1; call <= 510; call++) {
                x.setLease(call);
            }
            due("the 511th call", x.undo(), 9);
            due("the 512th call", x.lease(), 509);
        });
    }

    private static void sizes() {
        holds("FLAT", "There are at most 6 rooms and 10 people, indexed from 0 in the order in which they are declared, "
                + "a lease (the rent of a month) and a deposit (0 to 99999 each, initially 0).", () -> {
            RentDivision x = full();
            due("rooms", x.roomCount(), 6);
            due("people", x.personCount(), 10);
            for (int room = 0; room < 6; room++) {
                due("room " + room, x.roomNamed(room + 1 << 25), room);
            }
            for (int person = 0; person < 10; person++) {
                due("person " + person, x.personNamed(person + 1 << 25), person);
            }
            due("a seventh room", Check.load(x, times("room #;", 7)), COUNT);
            due("an 11th person", Check.load(x, times("person # 1;", 11)), COUNT);
            due("initial lease", new RentDivision().lease(), 0);
            due("initial deposit", new RentDivision().deposit(), 0);
            due("the greatest lease", Check.loaded("lease 99999;").lease(), 99999);
            due("the greatest deposit", Check.loaded("deposit 99999;").deposit(), 99999);
        });
        holds("FLAT", "A person has an income (0 to 99999), for each room a value (0 to 9999), or refuses it (its value is 0 then), "
                + "and a state: WAITING (initially), LIVING or GONE.", () -> {
            RentDivision x = Check.loaded("room a;room b;room c;person p 0 0 9999 no;person q 99999 no 1 2;");
            due("the least income", x.incomeOf(0), 0);
            due("the greatest income", x.incomeOf(1), 99999);
            due("the least value", x.valueOf(0, 0), 0);
            due("it is not refused", x.refuses(0, 0), false);
            due("the greatest value", x.valueOf(0, 1), 9999);
            due("the value of a room refused", x.valueOf(0, 2), 0);
            due("a room refused", x.refuses(0, 2), true);
            due("initially", x.stateOf(1), WAITING);
            x.moveIn(1);
            due("in", x.stateOf(1), LIVING);
            x.moveOut(1);
            due("out", x.stateOf(1), GONE);
        });
        holds("FLAT", "At most as many people are LIVING as there are rooms.", () -> {
            due("no rooms", loaded("person a 1;", 0).livingCount(), 0);
            due("one room", loaded("room r;" + times("person # 1 1;", 2), 0, 1).livingCount(), 1);
            due("six rooms", loaded(times("room #;", 6) + times("person # 1 1 1 1 1 1 1;", 7), 0, 1, 2, 3, 4, 5, 6).livingCount(), 6);
        });
        holds("FLAT", "The settings, with their ranges and initial values, are METHOD (LOW, HIGH or MIDDLE, initially MIDDLE), "
                + "SHARE (0 to 100, initially 0) and AUTO (0 to 1, initially 0).", () -> {
            RentDivision x = new RentDivision();
            due("METHOD", x.getSetting(METHOD), MIDDLE);
            due("SHARE", x.getSetting(SHARE), 0);
            due("AUTO", x.getSetting(AUTO), 0);
            due("the greatest METHOD", x.setSetting(METHOD, 2), 2);
            due("the greatest SHARE", x.setSetting(SHARE, 100), 0);
            due("the greatest AUTO", x.setSetting(AUTO, 1), 0);
            due("METHOD too great", x.setSetting(METHOD, 3), BAD);
            due("SHARE too great", x.setSetting(SHARE, 101), BAD);
            due("AUTO too great", x.setSetting(AUTO, 2), BAD);
            due("METHOD stays", x.setSetting(METHOD, 0), 2);
            due("SHARE stays", x.setSetting(SHARE, 0), 100);
            due("AUTO stays", x.setSetting(AUTO, 0), 1);
        });
    }

    private static void settings() {
        holds("Promise 11", "Returns the value; BAD_VALUE if setting is none of these.", () -> {
            RentDivision x = Check.loaded("set method low;set share 100;set auto 1;");
            due("METHOD", x.getSetting(0), LOW);
            due("SHARE", x.getSetting(1), 100);
            due("AUTO", x.getSetting(2), 1);
            due("METHOD high", Check.loaded("set method high;").getSetting(METHOD), HIGH);
            due("METHOD middle", Check.loaded("set method middle;").getSetting(METHOD), MIDDLE);
            for (int setting : new int[] {-1, 3, LEAST, MOST}) {
                refused("setting " + setting, Bounds::rich, y -> y.getSetting(setting), BAD);
            }
        });
        holds("Promise 12", "Returns 0 to 99999.", () -> {
            RentDivision x = new RentDivision();
            due("a new flat", x.lease(), 0);
            x.setLease(99999);
            due("the greatest", x.lease(), 99999);
            x.setLease(100000);
            x.setLease(-1);
            due("none above and none below", x.lease(), 99999);
            x.setLease(0);
            due("the least", x.lease(), 0);
            due("the deposit is another", Check.loaded("deposit 7;").lease(), 0);
        });
        holds("Promise 13", "Returns 0 to 99999.", () -> {
            RentDivision x = new RentDivision();
            due("a new flat", x.deposit(), 0);
            x.setDeposit(99999);
            due("the greatest", x.deposit(), 99999);
            x.setDeposit(100000);
            x.setDeposit(-1);
            due("none above and none below", x.deposit(), 99999);
            x.setDeposit(0);
            due("the least", x.deposit(), 0);
            due("the lease is another", Check.loaded("lease 7;").deposit(), 0);
        });
    }

    private static void counts() {
        holds("Promise 5", "Returns 0 to 6.", () -> {
            for (int rooms = 0; rooms <= 6; rooms++) {
                due("roomCount", Check.loaded(times("room #;", rooms)).roomCount(), rooms);
            }
        });
        holds("Promise 6", "Returns 0 to 10.", () -> {
            for (int people = 0; people <= 10; people++) {
                due("personCount", Check.loaded(times("person # 1;", people)).personCount(), people);
            }
            RentDivision x = full();
            x.moveOut(9);
            due("whatever their state is", x.personCount(), 10);
        });
        holds("Promise 9", "Returns 0 to 999.", () -> {
            RentDivision x = new RentDivision();
            due("the first month", x.month(), 0);
            for (int month = 24; month <= 984; month += 24) {
                x.passMonths(24);
                due("month", x.month(), month);
            }
            x.passMonths(15);
            due("the last month", x.month(), 999);
            due("no month behind it", x.passMonths(1), FULL);
            due("it stays", x.month(), 999);
        });
        holds("Promise 10", "Returns 0 to 10.", () -> {
            RentDivision x = new RentDivision();
            for (int changes = 0; changes <= 12; changes++) {
                due("behind " + changes + " changes", x.undoCount(), Math.min(changes, 10));
                x.setLease(changes);
            }
            for (int left = 9; left >= 0; left--) {
                x.undo();
                due("behind an undo", x.undoCount(), left);
            }
            x.undo();
            due("none left", x.undoCount(), 0);
        });
        holds("Promise 18", "Returns 0 to the number of rooms.", () -> {
            RentDivision x = Check.loaded(times("room #;", 6) + times("person # 1 1 1 1 1 1 1;", 10));
            for (int person = 0; person < 10; person++) {
                due("LIVING", x.livingCount(), Math.min(person, 6));
                x.moveIn(person);
            }
            for (int person = 0; person < 10; person++) {
                x.moveOut(person);
                due("LIVING then", x.livingCount(), Math.max(0, 5 - person));
            }
        });
    }

    private static void people() {
        holds("Promise 14", "Returns WAITING, LIVING or GONE.", () -> {
            RentDivision x = full();
            due("not yet", x.stateOf(0), WAITING);
            due("the first to live there", x.stateOf(4), LIVING);
            due("the last to live there", x.stateOf(9), LIVING);
            x.moveOut(9);
            due("the last is away", x.stateOf(9), GONE);
            x.moveIn(9);
            due("back again", x.stateOf(9), LIVING);
        });
        checksPerson("Promise 14", RentDivision::stateOf);
        checksPerson("Promise 15", RentDivision::incomeOf);
        holds("Promise 15", "Returns 0 to 99999.", () -> {
            RentDivision x = Check.loaded("person a 0;person b 99999;");
            due("the least", x.incomeOf(0), 0);
            due("the greatest", x.incomeOf(1), 99999);
        });
    }

    private static void values() {
        checksPersonAndRoom("Promise 16", RentDivision::valueOf);
        holds("Promise 16", "Returns the value, 0 if the person refuses the room.", () -> {
            RentDivision x = flat();
            due("ann, big", x.valueOf(ANN, BIG), 600);
            due("cid, top", x.valueOf(CID, TOP), 300);
            due("bob refuses top", x.valueOf(BOB, TOP), 0);
            x.setRefusal(ANN, BIG, true);
            due("ann refuses big", x.valueOf(ANN, BIG), 0);
            x.setRefusal(ANN, BIG, false);
            due("ann refuses it no more", x.valueOf(ANN, BIG), 0);
        });
        checksPersonAndRoom("Promise 17", (x, p, r) -> x.refuses(p, r) ? 1 : 0);
        holds("Promise 17", "Returns true if so.", () -> {
            RentDivision x = Check.loaded("room a;room b;person p 1 no 0;");
            due("refused", x.refuses(0, 0), true);
            due("worth 0, but not refused", x.refuses(0, 1), false);
        });
    }

    private static void plans() {
        holds("Promise 19", "Returns 0 to 20.", () -> {
            due("a new flat", new RentDivision().planCount(), 0);
            due("without plans", Check.loaded("person a 1;").planCount(), 0);
            RentDivision x = full();
            due("all plans", x.planCount(), 20);
            x.passMonths(1);
            due("none for month 0", x.planCount(), 20);
            x.passMonths(1);
            due("ten for month 1 were done", x.planCount(), 10);
            x.undo();
            due("ten undone", x.planCount(), 20);
        });
        holds("Promise 20", "These are indexed from 0 by month, those of one month in the order in which they were declared.", () -> {
            RentDivision x = Check.loaded("person a 1;person b 1;plan b 2 5;plan a 2 4;plan b 0 3;plan b 2 2;plan a 1 1;plan a 999 0;plan a 0 99999;");
            int[][] due = {{1, 0, 3}, {0, 0, 99999}, {0, 1, 1}, {1, 2, 5}, {0, 2, 4}, {1, 2, 2}, {0, 999, 0}};
            plans(x, due, 0);
            x.passMonths(1);
            plans(x, due, 2);
            x.passMonths(1);
            plans(x, due, 3);
            x.passMonths(1);
            plans(x, due, 6);
        });
        holds("Promise 20", "Returns the number; BAD_VALUE for any other what.", () -> {
            for (int what : new int[] {-1, 3, 4, LEAST, MOST}) {
                refused("what " + what, Bounds::flat, x -> x.plan(3, what), BAD);
            }
        });
        holds("Promise 20", "Throws `IndexOutOfBoundsException` if plan is not a valid index (checked first)", () -> {
            for (int what : new int[] {0, 2, 3, -1}) {
                for (int plan : new int[] {-1, 20, LEAST, MOST}) {
                    thrown("plan " + plan + " of 20", Bounds::full, x -> x.plan(plan, what));
                }
                thrown("plan 2 of 2", Bounds::rich, x -> x.plan(2, what));
                thrown("the first that was done", Bounds::rich, x -> x.plan(-1, what));
                thrown("plan 0 of 0", RentDivision::new, x -> x.plan(0, what));
            }
            due("the last of 20", full().plan(19, 1), 999);
            due("the last of 2", rich().plan(1, 2), 5);
        });
    }

    private static void plans(RentDivision x, int[][] due, int done) {
        due("plans left", x.planCount(), due.length - done);
        for (int plan = done; plan < due.length; plan++) {
            for (int what = 0; what < 3; what++) {
                due("plan " + plan + " behind " + done + ", " + what, x.plan(plan - done, what), due[plan][what]);
            }
        }
    }
}
