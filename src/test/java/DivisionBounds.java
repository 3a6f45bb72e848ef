/** The division, the deposits, and promises 35 to 50. */
final class DivisionBounds extends Bounds {
    private static final String BELOW_0 = "room a;room b;person p 5 99 0;person q 5 50 1;lease 1;deposit 40;";

    private DivisionBounds() {
    }

    static void run() {
        division();
        envy();
        whoEnvies();
        money();
        deposits();
        transfers();
    }

    /** Q pays -24 for b and p 25 for a. */
    private static RentDivision below0() {
        RentDivision x = loaded(BELOW_0, 0, 1);
        x.divide();
        return x;
    }

    /** Full, and the last two of those who are LIVING envy each other by 1. */
    private static RentDivision mutual() {
        RentDivision x = full();
        x.setValue(9, 4, 2);
        x.setValue(8, 5, 2);
        return x;
    }

    private static RentDivision rentOf99999() {
        RentDivision x = loaded("room a;person p 7 5;lease 99999;", 0);
        x.divide();
        return x;
    }

    private static void division() {
        holds("DIVISION", "What was agreed on: a room and a payment for some people who are LIVING; nothing at first.", () -> {
            RentDivision x = lived();
            due("no room", x.roomOf(ANN), NONE);
            due("no payment", x.payment(ANN), 0);
            due("nobody there", x.personIn(BIG), NONE);
            x.divide();
            x.moveOut(ANN);
            due("GONE, the room", x.roomOf(ANN), NONE);
            due("GONE, the payment", x.payment(ANN), 0);
            due("the other stays", x.roomOf(BOB), MID);
            x.moveIn(DOT);
            due("LIVING, but not agreed on", x.roomOf(DOT), NONE);
        });
        holds("Promise 35", "Returns the index of the room; NOT_FOUND if there is none.", () -> {
            due("the first room", full().roomOf(4), 0);
            due("the last room", full().roomOf(9), 5);
            due("one who is WAITING", full().roomOf(3), NONE);
            due("no division", lived().roomOf(CID), NONE);
        });
        checksPerson("Promise 35", RentDivision::roomOf);
        holds("Promise 36", "Returns the index of the person; NOT_FOUND if nobody has it.", () -> {
            due("the first room", full().personIn(0), 4);
            due("the last room", full().personIn(5), 9);
            due("the first person", divided().personIn(BIG), ANN);
            due("no division", lived().personIn(TOP), NONE);
            RentDivision x = full();
            x.moveOut(9);
            due("it is free then", x.personIn(5), NONE);
        });
        checksRoom("Promise 36", RentDivision::personIn);
        holds("Promise 37", "Returns the amount; 0 if the person has no room in it.", () -> {
            due("ann", divided().payment(ANN), 389);
            due("below 0", below0().payment(1), -24);
            due("dot", divided().payment(DOT), 0);
            due("no division", lived().payment(ANN), 0);
            due("the greatest rent of one", rentOf99999().payment(0), 99999);
        });
        checksPerson("Promise 37", RentDivision::payment);
        current();
    }

    private static void current() {
        holds("Promise 38", "Tells whether the division is the same as the proposal: the same people with the same rooms and payments.", () -> {
            RentDivision x = divided();
            due("the same", x.isCurrent(), true);
            x.setLease(1001);
            due("other payments", x.isCurrent(), false);
            x.setLease(1000);
            due("the same again", x.isCurrent(), true);
            x.setValue(ANN, BIG, 601);
            due("another value, the same payments", x.isCurrent(), true);
            x.swapRooms(ANN, BOB);
            due("other rooms", x.isCurrent(), false);
            RentDivision y = loaded("room a;room b;person p 1 5 5;person q 1 5 5;", 0);
            due("a proposal, but no division", y.isCurrent(), false);
            y.divide();
            due("divided", y.isCurrent(), true);
            y.moveIn(1);
            due("one person more in the proposal", y.isCurrent(), false);
        });
        holds("Promise 38", "Returns true if so; without a proposal, true if there is nobody with a room in the division.", () -> {
            due("a new flat", new RentDivision().isCurrent(), true);
            due("nobody is LIVING", flat().isCurrent(), true);
            RentDivision x = loaded("room a;person p 1 5;", 0);
            x.divide();
            x.setRefusal(0, 0, true);
            due("no such choice, but a room in the division", x.isCurrent(), false);
            x.moveOut(0);
            due("nobody with a room", x.isCurrent(), true);
            x.moveIn(0);
            due("no such choice and nobody with a room", x.isCurrent(), true);
        });
    }

    private static void envy() {
        holds("DIVISION", "Person p envies person q, who both have a room in the division, by the amount by which the value of the room of q for p "
                + "minus the payment of q is greater than the value of the own room for p minus the own payment, or by 0 if it is not greater, "
                + "or if p refuses the room of q.", () -> {
            RentDivision x = divided();
            due("less by 1", x.envyOf(BOB, ANN), 0);
            x.setValue(BOB, BIG, 501);
            due("as much", x.envyOf(BOB, ANN), 0);
            x.setValue(BOB, BIG, 502);
            due("more by 1", x.envyOf(BOB, ANN), 1);
            x.setValue(BOB, BIG, 9999);
            due("much more", x.envyOf(BOB, ANN), 9498);
            x.setRefusal(BOB, BIG, true);
            due("refused", x.envyOf(BOB, ANN), 0);
            x.setRefusal(ANN, BIG, true);
            due("the own room is worth 0 then", x.envyOf(ANN, BOB), 301);
            x.setRefusal(ANN, MID, true);
            due("a room that costs less, refused", x.envyOf(ANN, BOB), 0);
            x.setRefusal(ANN, MID, false);
            due("a room that costs less, worth as little", x.envyOf(ANN, BOB), 101);
            due("payments below 0", below0().envyOf(0, 1), 0);
        });
        holds("Promise 39", "Returns the amount; NOT_FOUND if one of them has no room in the division (checked first); 0 if both are the same.", () -> {
            due("both have rooms", mutual().envyOf(9, 8), 1);
            due("the same", mutual().envyOf(9, 9), 0);
            refused("the person has none", Bounds::rich, x -> x.envyOf(DOT, ANN), NONE);
            refused("the other has none", Bounds::rich, x -> x.envyOf(ANN, DOT), NONE);
            refused("the same without room", Bounds::rich, x -> x.envyOf(DOT, DOT), NONE);
            refused("two without room", Bounds::full, x -> x.envyOf(0, 3), NONE);
            refused("no division", Bounds::lived, x -> x.envyOf(ANN, ANN), NONE);
        });
        checksOther("Promise 39", RentDivision::envyOf);
        holds("Promise 40", "Returns the sum of all envy of people with rooms in the division.", () -> {
            due("a new flat", new RentDivision().totalEnvy(), 0);
            due("no division", lived().totalEnvy(), 0);
            due("nobody envies", divided().totalEnvy(), 0);
            due("two envy", mutual().totalEnvy(), 2);
            RentDivision y = divided();
            y.setValue(ANN, MID, 502);
            due("the first envies", y.totalEnvy(), 3);
            y.setValue(BOB, BIG, 502);
            due("the first is envied", y.totalEnvy(), 4);
            y.moveOut(CID);
            y.moveIn(DOT);
            y.setValue(DOT, BIG, 9999);
            due("one without room envies nobody", y.totalEnvy(), 4);
            RentDivision x = full();
            for (int person = 4; person < 10; person++) {
                for (int room = 0; room < 6; room++) {
                    x.setValue(person, room, room == person - 4 ? 0 : 9999);
                }
            }
            due("all envy all", x.totalEnvy(), 30 * 9999);
        });
    }

    private static void whoEnvies() {
        holds("Promise 41", "Returns the people as a bit set: bit p is 1 for person p; 0 if the person has no room in the division.", () -> {
            due("nobody envies", full().enviers(9), 0);
            due("bit 9", mutual().enviers(8), 512);
            due("bit 8", mutual().enviers(9), 256);
            due("no room", mutual().enviers(0), 0);
            due("no division", lived().enviers(ANN), 0);
            RentDivision x = loaded("room a;room b;room c;person p 1 5 5 5;person q 1 5 5 5;person r 1 5 5 5;", 0, 1, 2);
            x.divide();
            x.setValue(0, 2, 6);
            due("bit 0", x.enviers(2), 1);
            x.setValue(1, 2, 6);
            due("bits 0 and 1", x.enviers(2), 3);
            x.setValue(0, 2, 5);
            due("as much is no envy", x.enviers(2), 2);
            RentDivision y = full();
            y.setValue(3, 0, 9999);
            due("one without room envies nobody", y.enviers(4), 0);
        });
        checksPerson("Promise 41", RentDivision::enviers);
        holds("Promise 42", "Returns the person who is envied by the most people in the division. Ties are broken by lower index.", () -> {
            due("a tie", mutual().mostEnvied(), 8);
            RentDivision x = mutual();
            x.setValue(4, 5, 2);
            due("two envy the last", x.mostEnvied(), 9);
            x.setValue(9, 4, 9);
            due("more people count, not more envy", x.mostEnvied(), 9);
            x.setValue(4, 5, 1);
            due("the last is envied by one", x.mostEnvied(), 8);
            x.setRefusal(8, 5, true);
            due("one envies", x.mostEnvied(), 8);
            RentDivision y = divided();
            y.setValue(CID, BIG, 500);
            due("the first of all", y.mostEnvied(), ANN);
        });
        holds("Promise 42", "Returns the index of the person; NOT_FOUND if nobody envies.", () -> {
            due("nobody envies", divided().mostEnvied(), NONE);
            due("a new flat", new RentDivision().mostEnvied(), NONE);
            due("no division", lived().mostEnvied(), NONE);
            RentDivision x = full();
            x.setValue(5, 0, 2);
            due("the first with a room", x.mostEnvied(), 4);
        });
        holds("Promise 43", "Returns true if both envies are greater than 0; false if one of them has no room in the division, too.", () -> {
            due("both envy", mutual().wouldSwap(8, 9), true);
            due("the other way round", mutual().wouldSwap(9, 8), true);
            RentDivision x = mutual();
            x.setValue(9, 4, 1);
            due("one envies", x.wouldSwap(8, 9), false);
            due("the other envies", x.wouldSwap(9, 8), false);
            due("nobody envies", full().wouldSwap(8, 9), false);
            due("the same", mutual().wouldSwap(9, 9), false);
            due("the person has no room", mutual().wouldSwap(0, 9), false);
            due("the other has no room", mutual().wouldSwap(9, 0), false);
            due("both have no room", mutual().wouldSwap(0, 1), false);
        });
        checksOther("Promise 43", (x, p, q) -> x.wouldSwap(p, q) ? 1 : 0);
    }

    private static void money() {
        holds("Promise 44", "Returns the amount, possibly negative.", () -> {
            RentDivision x = full();
            due("divided", x.missing(), 0);
            x.setLease(599);
            due("one too much", x.missing(), -1);
            x.setLease(601);
            due("one too few", x.missing(), 1);
            x.moveOut(9);
            due("one is GONE", x.missing(), 101);
            due("no division", Check.loaded("lease 99999;").missing(), 99999);
            RentDivision y = rentOf99999();
            y.setLease(0);
            due("the least", y.missing(), -99999);
        });
        holds("Promise 45", "Returns the quotient; 0 if the income is 0.", () -> {
            RentDivision x = divided();
            Check.dueDouble("ann", x.burden(ANN), 389.0 / 3000.0);
            x.setIncome(ANN, 1);
            Check.dueDouble("an income of 1", x.burden(ANN), 389.0);
            x.setIncome(ANN, 0);
            Check.dueDouble("no income", x.burden(ANN), 0.0);
            Check.dueDouble("no room", x.burden(DOT), 0.0);
            Check.dueDouble("below 0", below0().burden(1), -4.8);
            RentDivision y = below0();
            y.setIncome(1, 0);
            Check.dueDouble("below 0 without income", y.burden(1), 0.0);
        });
        checksPerson("Promise 45", (x, p) -> (long) x.burden(p));
        holds("Promise 46", "Returns the number; BAD_VALUE for any other what.", () -> {
            for (int what : new int[] {-1, 3, LEAST, MOST}) {
                refused("what " + what, Bounds::rich, x -> x.paid(ANN, what), BAD);
                refused("what " + what + " of one without room", Bounds::rich, x -> x.paid(DOT, what), BAD);
            }
            RentDivision x = rich();
            due("payments", x.paid(ANN, 0), 2 * 389);
            due("stake", x.paid(ANN, 1), 234);
            due("months", x.paid(ANN, 2), 2);
            due("payments of one without room", x.paid(DOT, 0), 0);
            due("months of one without room", x.paid(DOT, 2), 0);
        });
        checksPersonFirst("Promise 46", (x, p) -> x.paid(p, 0));
        holds("Promise 46", "(checked first)", () -> {
            thrown("no person and no what", Bounds::rich, x -> x.paid(4, 3));
            thrown("no person and no what in a new flat", RentDivision::new, x -> x.paid(0, -1));
        });
        holds("Promise 47", "Returns the amount, possibly negative.", () -> {
            due("a new flat", new RentDivision().arrears(), 0);
            due("they grow", rich().arrears(), 10);
            RentDivision x = full();
            x.passMonths(1);
            due("nothing is missing", x.arrears(), 0);
            x.setLease(599);
            x.passMonths(1);
            due("below 0", x.arrears(), -1);
            due("the greatest", all999Months(Check.loaded("lease 99999;")).arrears(), 999 * 99999);
            RentDivision y = rentOf99999();
            y.setLease(0);
            due("the least", all999Months(y).arrears(), -999 * 99999);
            due("all payments", y.paid(0, 0), 999 * 99999);
            due("all months", y.paid(0, 2), 999);
        });
    }

    private static RentDivision all999Months(RentDivision x) {
        for (int month = 24; month <= 984; month += 24) {
            x.passMonths(24);
        }
        x.passMonths(15);
        return x;
    }

    private static void targets(RentDivision x, int... due) {
        for (int person = 0; person < due.length; person++) {
            due("target of " + person, x.target(person), due[person]);
        }
    }

    private static void deposits() {
        holds("DEPOSITS", "A person has a stake, 0 at first.", () -> {
            due("a stake", lived().paid(ANN, 1), 0);
            due("a stake of one with a room", divided().paid(ANN, 1), 0);
        });
        holds("DEPOSITS", "The target of a person who is LIVING is its part of the deposit, split among the people who are LIVING by the payments of the division "
                + "(0 for those without; negative ones count as 0; see SPLIT); the target of all others is 0, also that of all, if nobody is LIVING.", () -> {
            targets(divided(), 234, 173, 194, 0);
            targets(lived(), 201, 200, 200, 0);
            targets(flat(), 0, 0, 0, 0);
            targets(below0(), 40, 0);
            RentDivision x = below0();
            x.moveOut(0);
            targets(x, 0, 40);
            RentDivision y = divided();
            y.moveOut(CID);
            targets(y, 345, 256, 0, 0);
            y.moveIn(DOT);
            targets(y, 345, 256, 0, 0);
            y.moveOut(ANN);
            y.moveOut(BOB);
            targets(y, 0, 0, 0, 601);
            y.moveOut(DOT);
            targets(y, 0, 0, 0, 0);
            RentDivision z = full();
            z.setDeposit(99999);
            targets(z, 0, 0, 0, 0, 16667, 16667, 16667, 16666, 16666, 16666);
            z.setDeposit(0);
            targets(z, 0, 0, 0, 0, 0, 0, 0, 0, 0, 0);
        });
        checksPerson("Promise 48", RentDivision::target);
        holds("DEPOSITS", "A person whose stake is less than its target must pay the difference, one whose stake is greater gets the difference; "
                + "the landlord, with the index 10, gets or pays what makes both sums equal.", () -> {
            RentDivision x = divided();
            transfers(x, new int[][] {{ANN, 10, 234}, {CID, 10, 194}, {BOB, 10, 173}});
            x.settle();
            transfers(x, new int[][] {});
            x.setDeposit(0);
            transfers(x, new int[][] {{10, ANN, 234}, {10, CID, 194}, {10, BOB, 173}});
            x.setDeposit(602);
            transfers(x, new int[][] {{CID, 10, 1}});
            x.setDeposit(600);
            transfers(x, new int[][] {{10, ANN, 1}});
        });
    }

    private static void transfers(RentDivision x, int[][] due) {
        due("transfers", x.transferCount(), due.length);
        for (int i = 0; i < due.length; i++) {
            for (int what = 0; what < 3; what++) {
                due("transfer " + i + ", " + what, x.transfer(i, what), due[i][what]);
            }
        }
        Check.dueThrow("no transfer behind the last", () -> x.transfer(due.length, 0));
    }

    private static RentDivision settled(int deposit) {
        RentDivision x = loaded("room a;room b;person p 1 1 1;person q 1 1 1;person r 1 1 1;deposit " + deposit + ";", 0, 1);
        x.settle();
        return x;
    }

    /** All people take part in the transfers: four have gone with stakes of 11, 19, 33 and 37, six must pay. */
    private static RentDivision ten() {
        int[] incomes = {5, 7, 11, 13, 18, 46, 11, 19, 33, 37};
        StringBuilder text = new StringBuilder(times("room #;", 6));
        for (int person = 0; person < 10; person++) {
            text.append("person ").append((char) ('a' + person)).append(' ').append(incomes[person]).append(" 1 1 1 1 1 1;");
        }
        RentDivision x = loaded(text + "set share 100;lease 100;deposit 100;", 6, 7, 8, 9);
        x.divide();
        x.settle();
        for (int person = 9; person >= 0; person--) {
            due("out and in", person > 5 ? x.moveOut(person) : x.moveIn(person), person > 5 ? person - 6 : 6 - person);
        }
        x.divide();
        x.setDeposit(200);
        return x;
    }

    private static void transfers() {
        holds("DEPOSITS", "The transfers: as long as someone must pay, the one who must pay the most pays the one who gets the most, "
                + "each less what they have paid or got, the lesser one of both amounts; ties are broken by lower index.", () -> {
            transfers(lived(), new int[][] {{ANN, 10, 201}, {BOB, 10, 200}, {CID, 10, 200}});
            RentDivision x = settled(100);
            x.moveOut(0);
            transfers(x, new int[][] {{1, 0, 50}});
            x.setDeposit(150);
            transfers(x, new int[][] {{1, 0, 50}, {1, 10, 50}});
            x.setDeposit(151);
            transfers(x, new int[][] {{1, 10, 51}, {1, 0, 50}});
            RentDivision y = settled(120);
            y.moveOut(0);
            y.moveIn(2);
            y.setDeposit(80);
            transfers(y, new int[][] {{2, 0, 40}, {10, 0, 20}, {10, 1, 20}});
            y.setDeposit(78);
            transfers(y, new int[][] {{10, 0, 42}, {2, 1, 21}, {2, 0, 18}});
        });
        holds("Promise 49", "Returns the number of transfers.", () -> {
            transfers(ten(), new int[][] {{5, 10, 92}, {4, 9, 36}, {3, 8, 26}, {2, 7, 19}, {1, 6, 11}, {0, 10, 8}, {1, 8, 3}, {2, 8, 3}, {0, 8, 1}, {0, 9, 1}});
            due("a new flat", new RentDivision().transferCount(), 0);
            due("a deposit, but nobody is LIVING", flat().transferCount(), 0);
            due("people, but no deposit", loaded("room a;person p 1 1;", 0).transferCount(), 0);
            due("six pay", full().transferCount(), 6);
            RentDivision x = full();
            x.settle();
            for (int person = 9; person >= 4; person--) {
                x.moveOut(person);
            }
            due("the landlord pays six", x.transferCount(), 6);
            for (int person = 0; person < 4; person++) {
                x.moveIn(person);
            }
            transfers(x, new int[][] {{0, 4, 100}, {1, 5, 100}, {2, 6, 100}, {3, 7, 100}, {0, 8, 50}, {1, 9, 50}, {2, 8, 50}, {3, 9, 50}});
        });
        holds("Promise 50", "Returns the number; BAD_VALUE for any other what.", () -> {
            for (int what : new int[] {-1, 3, LEAST, MOST}) {
                refused("what " + what, Bounds::divided, x -> x.transfer(2, what), BAD);
            }
        });
        holds("Promise 50", "Throws `IndexOutOfBoundsException` if there is no such transfer (checked first)", () -> {
            for (int what : new int[] {0, 2, 3, -1}) {
                for (int transfer : new int[] {-1, 3, 10, 11, LEAST, MOST}) {
                    thrown("transfer " + transfer + " of 3", Bounds::divided, x -> x.transfer(transfer, what));
                }
                thrown("transfer 6 of 6", Bounds::full, x -> x.transfer(6, what));
                thrown("transfer 0 of 0", RentDivision::new, x -> x.transfer(0, what));
            }
            due("the last of 6", full().transfer(5, 0), 9);
            due("the first of 6", full().transfer(0, 0), 4);
            due("the last of 10", ten().transfer(9, 2), 1);
            thrown("transfer 10 of 10", DivisionBounds::ten, x -> x.transfer(10, 0));
        });
    }
}
