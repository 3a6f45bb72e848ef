/** The proposal, the split, and promises 21 to 34. */
final class ProposalBounds extends Bounds {
    /** Nobody can be anywhere but in the room of the own index, and each next person would like the one ahead by 9999. */
    private static final String CHAIN = times("room #;", 6) + "person a 1 0 no no no no no;person b 1 9999 0 no no no no;"
            + "person c 1 no 9999 0 no no no;person d 1 no no 9999 0 no no;person e 1 no no no 9999 0 no;person f 1 no no no no 9999 0;";
    /** The same the other way round: each person would like the room behind. */
    private static final String BACK = times("room #;", 6) + "person a 1 0 9999 no no no no;person b 1 no 0 9999 no no no;"
            + "person c 1 no no 0 9999 no no;person d 1 no no no 0 9999 no;person e 1 no no no no 0 9999;person f 1 no no no no no 0;";

    private ProposalBounds() {
    }

    static void run() {
        choice();
        prices();
        payments();
        split();
        choicePromises();
        pricePromises();
        paymentPromises();
        affordable();
        leastValue();
    }

    private static RentDivision alike(int people, String settings) {
        RentDivision x = Check.loaded(times("room #;", people) + times("person # 1" + " 5".repeat(people) + ";", people) + settings);
        for (int person = 0; person < people; person++) {
            x.moveIn(person);
        }
        return x;
    }

    private static RentDivision six(String text) {
        return loaded(text, 0, 1, 2, 3, 4, 5);
    }

    /** Two people who both have one and the same room left. */
    private static RentDivision without() {
        return loaded("room a;room b;person p 1 5 no;person q 1 6 no;person r 1 1 1;lease 10;", 0, 1);
    }

    private static void rooms(RentDivision x, int... due) {
        for (int person = 0; person < due.length; person++) {
            due("room of " + person, x.proposedRoom(person), due[person]);
        }
    }

    private static void payments(RentDivision x, int... due) {
        for (int person = 0; person < due.length; person++) {
            due("payment of " + person, x.proposedPayment(person), due[person]);
        }
    }

    private static void shares(RentDivision x, int... due) {
        for (int person = 0; person < due.length; person++) {
            due("income share of " + person, x.incomeShare(person), due[person]);
        }
    }

    private static void prices(RentDivision x, int... due) {
        for (int room = 0; room < due.length; room++) {
            due("price of " + room, x.price(room), due[room]);
        }
    }

    private static void choice() {
        holds("PROPOSAL", "It is made for the people who are LIVING.", () -> {
            RentDivision x = lived();
            rooms(x, BIG, MID, TOP, NONE);
            x.moveOut(ANN);
            rooms(x, NONE, BIG, TOP, NONE);
            x.moveIn(DOT);
            rooms(x, NONE, MID, TOP, BIG);
        });
        holds("PROPOSAL", "Each of them gets a room that it does not refuse, no two the same one, such that the sum of their values is greatest", () -> {
            rooms(loaded("room a;room b;person p 1 10 9;person q 1 8 1;", 0, 1), 1, 0);
            rooms(loaded("room a;room b;person p 1 10 9;person q 1 8 8;", 0, 1), 0, 1);
            rooms(loaded("room a;room b;person p 1 no 0;person q 1 9 9;", 0, 1), 1, 0);
            rooms(loaded("room a;room b;person p 1 9 0;person q 1 9 no;", 0, 1), 1, 0);
            due("six times 9999", six(times("room #;", 6) + times("person # 1 9999 9999 9999 9999 9999 9999;", 6)).proposedValue(), 59994);
        });
        holds("PROPOSAL", "if there are several such choices, the one that gives the person with the lowest index the lowest room, "
                + "then the next person, and so on.", () -> {
            rooms(alike(6, ""), 0, 1, 2, 3, 4, 5);
            RentDivision x = loaded("room a;room b;room c;person p 1 1 1 1;person q 1 1 1 1;", 1, 0);
            rooms(x, 0, 1);
            x.setRefusal(0, 0, true);
            rooms(x, 1, 0);
            x.setRefusal(1, 0, true);
            rooms(x, 1, 2);
            rooms(loaded("room a;room b;room c;person p 1 3 2 3;person q 1 2 1 2;person r 1 9 9 9;", 0, 1, 2), 0, 2, 1);
            rooms(loaded("room a;room b;person p 1 5 5;person q 1 6 5;", 0, 1), 1, 0);
        });
        holds("PROPOSAL", "There is no proposal if there is no such choice, or if nobody is LIVING.", () -> {
            due("two for one room", without().hasProposal(), false);
            due("one who refuses all", loaded("room a;person p 1 no;", 0).hasProposal(), false);
            due("three for two rooms", loaded("room a;room b;room c;person p 1 1 1 no;person q 1 1 1 no;person r 1 1 1 no;", 0, 1, 2).hasProposal(), false);
            due("just a choice", loaded("room a;room b;room c;person p 1 1 1 no;person q 1 1 no no;person r 1 no no 0;", 0, 1, 2).hasProposal(), true);
            String last = "person f 1 1 1 1 1 1 no;";
            due("six for five of six rooms", six(times("room #;", 6) + times("person # 1 1 1 1 1 1 no;", 5) + last).hasProposal(), false);
            due("six for six rooms", six(times("room #;", 6) + times("person # 1 1 1 1 1 1 0;", 5) + last).hasProposal(), true);
            due("no rooms", Check.loaded("person a 1;").hasProposal(), false);
            due("all are WAITING", flat().hasProposal(), false);
            RentDivision x = loaded("room a;person p 1 0;", 0);
            due("one for one room", x.hasProposal(), true);
            x.moveOut(0);
            due("all are GONE", x.hasProposal(), false);
        });
    }

    private static void prices() {
        holds("PROPOSAL", "Prices are told in parts, 120 to a unit of money.", () -> {
            prices(loaded("room a;person p 1 5;lease 1;", 0), 120);
            prices(loaded("room a;person p 1 5;lease 99999;", 0), 11999880);
            prices(loaded("room a;person p 1 5;", 0), 0);
        });
        holds("PROPOSAL", "Person p would envy person q if p does not refuse the room of q, and 120 times the value that this room has for p, "
                + "minus its price, is greater than 120 times the value that the own room has for p, minus the own price.", () -> {
            due("as much as the own one", loaded("room a;room b;person p 1 5 3;person q 1 4 4;", 0, 1).extreme(0, false), 0);
            due("one more", loaded("room a;room b;person p 1 5 3;person q 1 5 4;", 0, 1).extreme(0, false), 120);
            due("refused", loaded("room a;room b;person p 1 5 3;person q 1 no 4;", 0, 1).extreme(0, false), 0);
            due("one less", loaded("room a;room b;person p 1 5 3;person q 1 3 4;", 0, 1).extreme(0, false), 0);
            due("HIGH as much", loaded("room a;room b;person p 1 5 3;person q 1 4 4;", 0, 1).extreme(1, true), 0);
            due("HIGH one more", loaded("room a;room b;person p 1 5 3;person q 1 5 4;", 0, 1).extreme(1, true), -120);
            due("HIGH refused", loaded("room a;room b;person p 1 5 3;person q 1 no 4;", 0, 1).extreme(1, true), 0);
        });
        holds("PROPOSAL", "The LOW prices are the least numbers, none below 0, with which nobody would envy; the HIGH prices are the greatest numbers, "
                + "none above 0, with which nobody would.", () -> {
            RentDivision x = six(CHAIN);
            RentDivision y = six(BACK);
            for (int room = 0; room < 6; room++) {
                due("LOW of " + room, x.extreme(room, false), (5 - room) * 1199880);
                due("HIGH of " + room, x.extreme(room, true), -room * 1199880);
                due("LOW back of " + room, y.extreme(room, false), room * 1199880);
                due("HIGH back of " + room, y.extreme(room, true), (room - 5) * 1199880);
                due("LOW without envy", alike(6, "lease 99;").extreme(room, false), 0);
                due("HIGH without envy", alike(6, "lease 99;").extreme(room, true), 0);
            }
        });
        holds("PROPOSAL", "The prices of the proposal are those by METHOD, where MIDDLE stands for half the sum of the LOW and HIGH ones, "
                + "each plus the same number, such that their sum is 120 times the price part.", () -> {
            int[][] due = {{48000, 36000, 36000}, {45200, 33200, 41600}, {46600, 34600, 38800}};
            RentDivision x = lived();
            for (int method = 0; method < 3; method++) {
                x.setSetting(METHOD, method);
                prices(x, due[method]);
            }
            prices(loaded("room a;room b;room c;person p 1 9 0 0;person q 1 0 9 0;person r 1 0 10 9;lease 1;", 0, 1, 2), 40, 100, -20);
            for (int people = 1; people <= 6; people++) {
                for (int lease : new int[] {0, 1, 7, 99999}) {
                    sumOfPrices(alike(people, "lease " + lease + ";"), people, lease);
                }
            }
            for (int method = 0; method < 3; method++) {
                RentDivision y = six(CHAIN + "lease 1001;set share 10;");
                y.setSetting(METHOD, method);
                sumOfPrices(y, 6, 901);
            }
        });
    }

    private static void sumOfPrices(RentDivision x, int people, int pricePart) {
        long sum = 0;
        for (int room = 0; room < people; room++) {
            sum += x.price(room);
        }
        due("sum of the prices of " + people, sum, 120L * pricePart);
    }

    private static void payments() {
        holds("PROPOSAL", "The income part is the lease times SHARE / 100, rounded down; the price part is the lease minus this.", () -> {
            int[][] due = {{99, 33, 67}, {1, 99, 1}, {1, 100, 0}, {99999, 0, 99999}, {99999, 1, 99000}, {99999, 99, 1000}, {99999, 100, 0},
                {0, 50, 0}, {3, 50, 2}, {100, 1, 99}};
            for (int[] one : due) {
                RentDivision x = loaded("room a;person p 1 1;lease " + one[0] + ";set share " + one[1] + ";", 0);
                due("price part of " + one[0] + " with " + one[1], x.pricePart(), one[2]);
                due("income part of " + one[0] + " with " + one[1], x.incomeShare(0), one[0] - one[2]);
            }
        });
        holds("PROPOSAL", "The first one: the price in units, rounded down (also if it is negative); the units that are missing from the price part "
                + "then are added one by one to those with the greatest remainders (0 to 119 parts), ties broken by lower index.", () -> {
            payments(alike(2, "lease 1;"), 1, 0);
            payments(alike(2, "lease 2;"), 1, 1);
            payments(alike(6, "lease 5;"), 1, 1, 1, 1, 1, 0);
            payments(alike(6, "lease 6;"), 1, 1, 1, 1, 1, 1);
            payments(alike(6, "lease 7;"), 2, 1, 1, 1, 1, 1);
            RentDivision x = loaded("room a;room b;room c;person p 1 9 0 0;person q 1 0 9 0;person r 1 0 10 9;lease 1;", 0, 1, 2);
            payments(x, 0, 1, 0);
            x.setLease(0);
            prices(x, 0, 60, -60);
            payments(x, 0, 1, -1);
            x.setSetting(METHOD, HIGH);
            prices(x, 40, 40, -80);
            payments(x, 1, 0, -1);
            x.setSetting(METHOD, LOW);
            x.setLease(2);
            prices(x, 40, 160, 40);
            payments(x, 1, 1, 0);
            payments(loaded("room a;room b;person p 1 9 0;person q 1 7 5;set method low;", 0, 1), 1, -1);
        });
        holds("PROPOSAL", "The second one: the income part is split by incomes among the people who are LIVING (see SPLIT).", () -> {
            RentDivision x = loaded("room a;room b;person p 30 5 5;person q 70 5 5;person r 900 5 5;lease 10;set share 100;", 0, 1);
            payments(x, 3, 7, NO_NUMBER);
            x.setSetting(SHARE, 50);
            payments(x, 5, 5, NO_NUMBER);
            shares(x, 2, 3, NO_NUMBER);
        });
    }

    private static RentDivision incomes(int lease, int... incomes) {
        RentDivision x = alike(incomes.length, "set share 100;lease " + lease + ";");
        for (int person = 0; person < incomes.length; person++) {
            x.setIncome(person, incomes[person]);
        }
        return x;
    }

    private static void split() {
        holds("SPLIT", "each gets the amount times its weight divided by the sum of the weights, rounded down; the units that are left then are added "
                + "one by one to those with the greatest remainders of these divisions, ties broken by lower index.", () -> {
            shares(incomes(9, 5, 3, 1), 5, 3, 1);
            shares(incomes(10, 5, 3, 1), 6, 3, 1);
            shares(incomes(100, 1, 1, 1), 34, 33, 33);
            shares(incomes(101, 1, 1, 1), 34, 34, 33);
            shares(incomes(2, 1, 1, 1), 1, 1, 0);
            shares(incomes(1, 1, 2, 2), 0, 1, 0);
            shares(incomes(1, 1, 5), 0, 1);
            shares(incomes(3, 1, 1, 1, 1, 1, 1), 1, 1, 1, 0, 0, 0);
            shares(incomes(0, 4, 5), 0, 0);
            shares(incomes(99999, 99999), 99999);
            shares(incomes(99999, 99999, 1), 99998, 1);
            shares(incomes(99999, 99999, 99999, 99999, 99999, 99999, 99999), 16667, 16667, 16667, 16666, 16666, 16666);
        });
        holds("SPLIT", "If all weights are 0, all count as 1.", () -> {
            shares(incomes(10, 0, 0), 5, 5);
            shares(incomes(11, 0, 0, 0), 4, 4, 3);
            shares(incomes(99999, 0), 99999);
            shares(incomes(10, 0, 7), 0, 10);
            shares(incomes(1, 0, 0, 1), 0, 0, 1);
            shares(incomes(0, 0, 0), 0, 0);
        });
    }

    private static void choicePromises() {
        holds("Promise 21", "Returns true if there is.", () -> {
            due("there is", lived().hasProposal(), true);
            due("there is none", without().hasProposal(), false);
            due("there is none in a new flat", new RentDivision().hasProposal(), false);
        });
        holds("Promise 22", "Returns the index of the room; NOT_FOUND if there is no proposal, or the person is not LIVING.", () -> {
            rooms(full(), NONE, NONE, NONE, NONE, 0, 1, 2, 3, 4, 5);
            refused("no such choice", ProposalBounds::without, x -> x.proposedRoom(0), NONE);
            refused("nobody is LIVING", Bounds::flat, x -> x.proposedRoom(ANN), NONE);
            refused("WAITING", Bounds::rich, x -> x.proposedRoom(DOT), NONE);
            RentDivision y = lived();
            y.moveOut(BOB);
            due("GONE", y.proposedRoom(BOB), NONE);
        });
        checksPerson("Promise 22", RentDivision::proposedRoom);
        holds("Promise 23", "Returns the sum; NOT_FOUND if there is no proposal.", () -> {
            due("a sum of 0", loaded("room a;person p 1 0;", 0).proposedValue(), 0);
            due("lived", lived().proposedValue(), 1300);
            refused("no such choice", ProposalBounds::without, RentDivision::proposedValue, NONE);
            refused("a new flat", RentDivision::new, RentDivision::proposedValue, NONE);
        });
        holds("Promise 24", "Returns how many choices of rooms have the greatest sum of values (see PROPOSAL).", () -> {
            due("just one", lived().choiceCount(), 1);
            int[] all = {1, 2, 6, 24, 120, 720};
            for (int people = 1; people <= 6; people++) {
                due("all are alike, " + people, alike(people, "").choiceCount(), all[people - 1]);
            }
            due("one person in six rooms", loaded(times("room #;", 6) + "person p 1 2 2 1 2 no 2;", 0).choiceCount(), 4);
            RentDivision x = alike(6, "");
            x.setValue(0, 0, 6);
            due("the first room is worth more", x.choiceCount(), 120);
        });
        holds("Promise 24", "Returns the number of choices, 0 if there is no proposal.", () -> {
            due("no such choice", without().choiceCount(), 0);
            due("a new flat", new RentDivision().choiceCount(), 0);
            due("nobody is LIVING", flat().choiceCount(), 0);
        });
    }

    private static void pricePromises() {
        String noPrice = "Returns the price in parts; NO_NUMBER if there is no proposal, or nobody gets the room in it.";
        holds("Promise 25", "Returns a LOW or HIGH price of a room, before the same number is added to all.", () -> {
            RentDivision x = lived();
            for (int lease : new int[] {0, 1, 99999}) {
                x.setLease(lease);
                due("LOW of big", x.extreme(BIG, false), 12000);
                due("HIGH of mid", x.extreme(MID, true), -12000);
            }
            x.setValue(BOB, BIG, 450);
            due("LOW of big then", x.extreme(BIG, false), 6000);
            due("HIGH of mid then", x.extreme(MID, true), -6000);
            x.setValue(BOB, BIG, 400);
            x.setValue(CID, BIG, 300);
            due("LOW of big without envy", x.extreme(BIG, false), 0);
            due("HIGH of mid without envy", x.extreme(MID, true), 0);
            due("HIGH of top without envy", x.extreme(TOP, true), 0);
        });
        holds("Promise 25", noPrice, () -> {
            refused("no such choice, LOW", ProposalBounds::without, x -> x.extreme(0, false), NO_NUMBER);
            refused("no such choice, HIGH", ProposalBounds::without, x -> x.extreme(0, true), NO_NUMBER);
            refused("nobody is LIVING", Bounds::flat, x -> x.extreme(BIG, false), NO_NUMBER);
            RentDivision y = lived();
            y.moveOut(CID);
            due("nobody gets top, LOW", y.extreme(TOP, false), NO_NUMBER);
            due("nobody gets top, HIGH", y.extreme(TOP, true), NO_NUMBER);
            due("ann gets big", y.extreme(BIG, false), 12000);
        });
        checksRoom("Promise 25", (x, r) -> x.extreme(r, false));
        checksRoom("Promise 25", (x, r) -> x.extreme(r, true));
        holds("Promise 26", noPrice, () -> {
            refused("no such choice", ProposalBounds::without, x -> x.price(0), NO_NUMBER);
            refused("nobody is LIVING", Bounds::flat, x -> x.price(BIG), NO_NUMBER);
            RentDivision y = lived();
            y.moveOut(CID);
            due("nobody gets top", y.price(TOP), NO_NUMBER);
            due("ann gets big", y.price(BIG), 66000);
            RentDivision z = six(CHAIN + "lease 99999;");
            prices(z, 4999680, 3799800, 2599920, 1400040, 200160, -999720);
        });
        checksRoom("Promise 26", RentDivision::price);
        holds("Promise 27", "Returns 0 to 99999.", () -> {
            due("a new flat", new RentDivision().pricePart(), 0);
            due("the greatest", Check.loaded("lease 99999;").pricePart(), 99999);
            due("the greatest with SHARE 100", Check.loaded("lease 99999;set share 100;").pricePart(), 0);
            due("the greatest with SHARE 99", Check.loaded("lease 99999;set share 99;").pricePart(), 1000);
            due("without proposal", without().pricePart(), 10);
        });
    }

    private static void paymentPromises() {
        String noAmount = "Returns the amount; NO_NUMBER if there is no proposal, or the person is not LIVING.";
        holds("Promise 28", noAmount, () -> noNumber(RentDivision::incomeShare));
        checksPerson("Promise 28", RentDivision::incomeShare);
        holds("Promise 29", noAmount, () -> {
            noNumber(RentDivision::proposedPayment);
            payments(six(CHAIN + "lease 99999;"), 41664, 31665, 21666, 11667, 1668, -8331);
            payments(six(CHAIN), 24998, 14999, 5000, -5000, -14999, -24998);
        });
        checksPerson("Promise 29", RentDivision::proposedPayment);
        holds("Promise 30", "Returns the surplus in parts; NO_NUMBER if there is no proposal, or the person is not LIVING.", () -> {
            noNumber(RentDivision::surplus);
            RentDivision x = lived();
            due("ann", x.surplus(ANN), 25400);
            due("below 0", x.surplus(CID), -2800);
            due("0", loaded("room a;person p 1 9;lease 9;", 0).surplus(0), 0);
            due("the least", loaded("room a;person p 1 0;lease 99999;", 0).surplus(0), -11999880);
            due("the greatest of one", loaded("room a;person p 1 9999;", 0).surplus(0), 1199880);
        });
        checksPerson("Promise 30", RentDivision::surplus);
        holds("Promise 31", "Returns the person who is LIVING with the least surplus (see surplus). Ties are broken by lower index.", () -> {
            due("all are alike", alike(6, "lease 9;").leastSurplus(), 0);
            due("the first is WAITING", full().leastSurplus(), 4);
            due("cid", lived().leastSurplus(), CID);
            RentDivision x = alike(3, "");
            x.setValue(0, 0, 6);
            due("the second and the third", x.leastSurplus(), 1);
            x.setValue(0, 0, 4);
            x.setRefusal(0, 1, true);
            x.setRefusal(0, 2, true);
            due("the first alone", x.leastSurplus(), 0);
        });
        holds("Promise 31", "Returns the index of the person; NOT_FOUND if there is no proposal.", () -> {
            refused("no such choice", ProposalBounds::without, RentDivision::leastSurplus, NONE);
            refused("nobody is LIVING", Bounds::flat, RentDivision::leastSurplus, NONE);
            due("one person", loaded("room a;person p 1 0;person q 1 0;", 1).leastSurplus(), 1);
        });
    }

    private static void noNumber(AskOne call) {
        refused("no such choice", ProposalBounds::without, x -> call.of(x, 0), NO_NUMBER);
        refused("nobody is LIVING", Bounds::flat, x -> call.of(x, ANN), NO_NUMBER);
        refused("WAITING", Bounds::rich, x -> call.of(x, DOT), NO_NUMBER);
        RentDivision y = lived();
        y.moveOut(BOB);
        due("GONE", call.of(y, BOB), NO_NUMBER);
        due("LIVING", call.of(y, ANN) == NO_NUMBER, false);
    }

    private static void affordable() {
        holds("Promise 32", "Returns the number of people who are LIVING whose payment by the proposal times 100 is at most their income times some percent.", () -> {
            RentDivision x = loaded("room a;room b;person p 100 5 5;person q 200 5 5;person r 9999 5 5;lease 100;", 0, 1);
            int[] percents = {0, 24, 25, 49, 50, 100};
            int[] people = {0, 0, 1, 1, 2, 2};
            for (int i = 0; i < percents.length; i++) {
                due("with " + percents[i], x.affordable(percents[i]), people[i]);
            }
            RentDivision y = loaded("room a;person p 99999 5;lease 99999;", 0);
            due("all the income", y.affordable(100), 1);
            due("not all of it", y.affordable(99), 0);
            due("a payment of 0 without income", loaded("room a;person p 0 5;", 0).affordable(0), 1);
            due("a payment of 1 without income", loaded("room a;person p 0 5;lease 1;", 0).affordable(100), 0);
            due("a payment below 0 without income", loaded("room a;room b;person p 0 99 0;person q 0 50 1;", 0, 1).affordable(0), 1);
        });
        holds("Promise 32", "0 to 100", () -> {
            due("0", lived().affordable(0), 0);
            due("100", lived().affordable(100), 3);
        });
        holds("Promise 32", "Returns the number of people, 0 if there is no proposal; BAD_VALUE if percent is out of range.", () -> {
            due("no such choice", without().affordable(100), 0);
            due("nobody is LIVING", flat().affordable(0), 0);
            outOfRange(RentDivision::affordable);
        });
        holds("Promise 33", "Returns the least SHARE with which that would be all people who are LIVING (see affordable).", () -> {
            due("SHARE 0", lived().leastShare(65), 0);
            due("SHARE 2", lived().leastShare(64), 2);
            due("none", lived().leastShare(22), NONE);
            RentDivision x = lived();
            x.setSetting(SHARE, 100);
            due("whatever SHARE is", x.leastShare(65), 0);
            due("p pays 1 of the price part of 2", loaded("room a;room b;person p 1 5 5;person q 999 5 5;lease 10;", 0, 1).leastShare(100), 80);
        });
        holds("Promise 33", "0 to 100", () -> {
            due("0", loaded("room a;person p 9 5;", 0).leastShare(0), 0);
            due("100", loaded("room a;person p 9 5;lease 9;", 0).leastShare(100), 0);
        });
        holds("Promise 33", "Returns the share, 0 to 100; BAD_VALUE if percent is out of range; NOT_FOUND if there is no proposal or no such share.", () -> {
            RentDivision x = loaded("room a;room b;person p 0 9 9;person q 100 9 9;lease 100;", 0, 1);
            due("the greatest share", x.leastShare(100), 100);
            due("no such share", x.leastShare(99), NONE);
            due("the least share", alike(2, "").leastShare(0), 0);
            refused("no such choice", ProposalBounds::without, y -> y.leastShare(100), NONE);
            refused("nobody is LIVING", Bounds::flat, y -> y.leastShare(100), NONE);
            refused("no share in a rich flat", Bounds::rich, y -> y.leastShare(0), NONE);
            outOfRange(RentDivision::leastShare);
        });
    }

    private static void outOfRange(AskOne call) {
        for (int percent : new int[] {-1, 101, LEAST, MOST}) {
            refused("percent " + percent, Bounds::rich, x -> call.of(x, percent), BAD);
            refused("percent " + percent + " without proposal", ProposalBounds::without, x -> call.of(x, percent), BAD);
        }
    }

    private static void leastValue() {
        holds("Promise 34", "Returns the least value of a room for a person with which the proposal would give the room to this person, all else as it is "
                + "(if the person refuses the room now, it would not then).", () -> {
            RentDivision x = loaded("room a;room b;person p 1 5 5;person q 1 7 4;person r 1 2 2;", 0, 1);
            due("one more than the tie", loaded("room a;room b;person p 1 7 4;person q 1 5 5;", 0, 1).leastValue(1, 0), 9);
            due("the tie, by the lower index", x.leastValue(0, 0), 8);
            due("the room it has", x.leastValue(1, 0), 5);
            due("the other room, which a tie does not give", x.leastValue(0, 1), 3);
            x.setRefusal(0, 0, true);
            due("refused now", x.leastValue(0, 0), 8);
            due("it stays refused", x.refuses(0, 0), true);
            due("the only choice, since the other room is refused", x.leastValue(0, 1), 0);
            x.setRefusal(0, 1, true);
            due("no proposal now", x.hasProposal(), false);
            due("all are refused now, a", x.leastValue(0, 0), 0);
            due("all are refused now, b", x.leastValue(0, 1), 0);
            leaves("leastValue", ProposalBounds::mustShare, y -> y.leastValue(0, 0));
        });
        holds("Promise 34", "Returns 0 to 9999; NOT_FOUND if the person is not LIVING, or with no value.", () -> {
            RentDivision x = loaded("room a;room b;person p 1 no 0;person q 1 9999 0;person r 1 1 1;person s 1 1 1;", 0, 1, 3);
            due("0", x.leastValue(1, 0), 0);
            due("0, though there is another choice", loaded("room a;room b;person p 1 0 0;person q 1 0 2;", 0, 1).leastValue(0, 0), 0);
            due("as much as the other room, by the lower index", loaded("room a;room b;person p 1 9 9;person q 1 9 9;", 0, 1).leastValue(1, 1), 9);
            due("0 is a tie, by the lower index", loaded("room a;room b;person p 1 0 0;person q 1 0 0;", 0, 1).leastValue(0, 0), 0);
            due("0 is a tie that does not give it", loaded("room a;room b;person p 1 0 0;person q 1 0 0;", 0, 1).leastValue(0, 1), 1);
            due("9999, by the lower index", x.leastValue(0, 0), 9999);
            x.setValue(0, 1, 1);
            due("10000 by the lower index", x.leastValue(0, 0), NONE);
            due("10000 by the higher index", loaded("room a;room b;person p 1 9999 0;person q 1 0 0;", 0, 1).leastValue(1, 0), NONE);
            due("9999 by the higher index", loaded("room a;room b;person p 1 9998 0;person q 1 0 0;", 0, 1).leastValue(1, 0), 9999);
            due("the other needs it", loaded("room a;room b;person p 1 5 no;person q 1 5 5;", 0, 1).leastValue(1, 0), NONE);
            due("no choice with any value", loaded("room a;room b;room c;person p 1 1 no no;person q 1 1 no no;person r 1 0 0 0;", 0, 1, 2).leastValue(2, 2), NONE);
            refused("WAITING", Bounds::rich, y -> y.leastValue(DOT, BIG), NONE);
            refused("no value", ProposalBounds::mustShare, y -> y.leastValue(1, 1), NONE);
            x.moveOut(0);
            due("GONE", x.leastValue(0, 0), NONE);
            due("WAITING, though nobody else is there", loaded("room a;person p 1 1;").leastValue(0, 0), NONE);
        });
        checksPersonAndRoom("Promise 34", RentDivision::leastValue);
    }

    /** Q must have room a, so that no value gives it room b, but any value gives that to p. */
    private static RentDivision mustShare() {
        return loaded("room a;room b;person p 1 no 5;person q 1 9 no;", 0, 1);
    }
}
