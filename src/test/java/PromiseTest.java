/**
 * Each promise by its number, with answers worked out by hand from the document. FLAT is the flat of most of them:
 * with ann, bob and cid LIVING they get big, mid and top, worth 1300 together; in units the LOW prices are 100, 0, 0
 * and the HIGH ones 0, -100, -30.
 */
public final class PromiseTest {
    private static final int ANN = 0, BOB = 1, CID = 2, DOT = 3;
    private static final int BIG = 0, MID = 1, TOP = 2;
    private static final int NONE = RentDivision.NOT_FOUND, BAD = RentDivision.BAD_VALUE;
    private static final int FULL = RentDivision.FULL, NOT = RentDivision.NOT_ALLOWED;
    private static final int NO_NUMBER = RentDivision.NO_NUMBER;
    private static final String FLAT = "room big;room mid;room top;"
            + "person ann 3000 600 200 200;person bob 1000 500 400 no;person cid 500 330 10 300;person dot 500 100 no no;"
            + "lease 1000;deposit 601;plan bob 2 4000;plan ann 0 3100;plan bob 0 1100;plan ann 2 5;";

    private static void due(String what, long got, long want) {
        Check.due(what, got, want);
    }

    private static void due(String what, boolean got, boolean want) {
        Check.due(what, got, want);
    }

    private static RentDivision flat() {
        return Check.loaded(FLAT);
    }

    private static RentDivision lived() {
        RentDivision x = flat();
        due("moveIn(CID)", x.moveIn(CID), 1);
        due("moveIn(ANN)", x.moveIn(ANN), 2);
        due("moveIn(BOB)", x.moveIn(BOB), 3);
        return x;
    }

    private static RentDivision divided() {
        RentDivision x = lived();
        due("divide", x.divide(), 3);
        return x;
    }

    private static void promise1NewObject() {
        RentDivision x = new RentDivision();
        due("1 roomCount", x.roomCount(), 0);
        due("1 personCount", x.personCount(), 0);
        due("1 METHOD", x.getSetting(RentDivision.METHOD), RentDivision.MIDDLE);
        due("1 SHARE", x.getSetting(RentDivision.SHARE), 0);
        due("1 AUTO", x.getSetting(RentDivision.AUTO), 0);
        due("1 undoCount", x.undoCount(), 0);
        due("1 undo", x.undo(), NONE);
        due("1 outputAt", x.outputAt(0), NONE);
        due("1 errorPosition", x.errorPosition(), NONE);
        due("1 load(1) of an empty buffer", x.load(1), BAD);
        due("1 lease", x.lease(), 0);
        due("1 deposit", x.deposit(), 0);
        due("1 month", x.month(), 0);
        due("1 planCount", x.planCount(), 0);
        due("1 arrears", x.arrears(), 0);
        due("1 missing", x.missing(), 0);
        due("1 pricePart", x.pricePart(), 0);
        due("1 write", x.write(), 0);
        RentDivision other = new RentDivision();
        other.setLease(7);
        due("1 objects are apart", x.lease(), 0);
    }

    private static void promise2Feed() {
        RentDivision x = new RentDivision();
        for (int bytes = 20; bytes <= 900; bytes += 20) {
            due("2 feed up to " + bytes, x.feed(0x20202020, 0x20202020, 0x20202020, 0x20202020, 0x20202020), bytes);
        }
        due("2 feed above 900", x.feed(0x41414141, 0, 0, 0, 0), FULL);
        due("2 feed above 900 again", x.feed(0x41414141, 0, 0, 0, 0), FULL);
        due("2 load of 901", x.load(901), BAD);
        due("2 load of 900 spaces", x.load(900), 0);
        due("2 feed behind a load", x.feed(0x726f6f6d, 0x20616263, 0x0a203b6c, 0x65617365, 0x30373b20), 20);
        due("2 order of the bytes", x.load(20), 2);
        due("2 the name fed", x.roomNamed(Check.letters("abc")), 0);
        due("2 the lease fed", x.lease(), 7);
        due("2 signed bytes", x.feed(-1, -1, -1, -1, -1), 20);
        due("2 signed bytes are no tokens", x.load(20), RentDivision.SYNTAX_ERROR);
    }

    private static void promise3LoadReplaces() {
        RentDivision x = divided();
        x.setSetting(RentDivision.SHARE, 9);
        x.settle();
        x.passMonths(1);
        int written = x.write();
        due("3 two statements", Check.load(x, "room q;person z 5 7;"), 2);
        due("3 rooms", x.roomCount(), 1);
        due("3 people", x.personCount(), 1);
        due("3 settings are initial", x.getSetting(RentDivision.SHARE), 0);
        due("3 lease is initial", x.lease(), 0);
        due("3 deposit is initial", x.deposit(), 0);
        due("3 month", x.month(), 0);
        due("3 state", x.stateOf(0), RentDivision.WAITING);
        due("3 no division", x.roomOf(0), NONE);
        due("3 no payment", x.payment(0), 0);
        due("3 stake", x.paid(0, 1), 0);
        due("3 paid", x.paid(0, 0), 0);
        due("3 months", x.paid(0, 2), 0);
        due("3 arrears", x.arrears(), 0);
        due("3 plans", x.planCount(), 0);
        due("3 nothing to undo", x.undoCount(), 0);
        due("3 undo", x.undo(), NONE);
        Check.dueText("3 the output stays", Check.output(x, written), "ann:big 389;bob:mid 288;cid:top 323");
        due("3 the output ends there", x.outputAt(written), NONE);
        due("3 old names are gone", x.roomNamed(Check.letters("big")), NONE);
        x.moveIn(0);
        due("3 values are new", x.proposedValue(), 7);
        due("21 a proposal", x.hasProposal(), true);
        Check.load(x, "room q;person z 5 7;set share 8;set auto 1;set method low;");
        due("21 nobody lives there", x.hasProposal(), false);
        Check.load(x, "person z 5;");
        due("3 initial settings behind others, METHOD", x.getSetting(RentDivision.METHOD), RentDivision.MIDDLE);
        due("3 initial settings behind others, SHARE", x.getSetting(RentDivision.SHARE), 0);
        due("3 initial settings behind others, AUTO", x.getSetting(RentDivision.AUTO), 0);
        due("3 settings can be given again", Check.load(x, "set share 8;set auto 1;set method low;lease 1;deposit 1;"), 5);
    }

    private static void promise3LoadKeeps() {
        RentDivision x = divided();
        due("3 error", Check.load(x, "room q;person z 5 7;lease 5;deposit 6;set share 7;x"), RentDivision.SYNTAX_ERROR);
        due("3 rooms stay", x.roomCount(), 3);
        due("3 lease stays", x.lease(), 1000);
        due("3 deposit stays", x.deposit(), 601);
        due("3 settings stay", x.getSetting(RentDivision.SHARE), 0);
        due("3 names stay", x.personNamed(Check.letters("ann")), ANN);
        due("3 values stay", x.valueOf(ANN, BIG), 600);
        due("3 division stays", x.payment(ANN), 389);
        due("3 changes stay", x.undoCount(), 4);
        due("3 the buffer is empty", x.load(1), BAD);
        Check.feed(x, "lease 5;lease 6;");
        due("3 length below 0", x.load(-1), BAD);
        due("3 length above the buffer", x.load(21), BAD);
        due("3 the buffer is unchanged", x.load(8), 1);
        due("3 only the first bytes", x.lease(), 5);
        due("3 all of the buffer is emptied", x.load(1), BAD);
        due("3 an empty text", x.load(0), 0);
        due("3 an empty text replaces", x.lease(), 0);
        Check.feed(x, "room a;");
        due("3 length 0 empties", x.load(0), 0);
        due("3 it is empty then", x.load(1), BAD);
    }

    private static void text(String text, int answer, int place) {
        RentDivision x = new RentDivision();
        due("3 load of '" + text + "'", Check.load(x, text), answer);
        due("4 errorPosition of '" + text + "'", x.errorPosition(), place);
    }

    private static void promise3Tokens() {
        int syntax = RentDivision.SYNTAX_ERROR;
        text(" \n room\na\n;\n", 1, NONE);
        text("lease5;deposit6;", 2, NONE);
        text("lease 000000000000000000000000000000099999;", 1, NONE);
        text("lease 99999999999999999999999999999999999999;", RentDivision.RANGE_ERROR, 6);
        text("lease 4294967296;", RentDivision.RANGE_ERROR, 6);
        text("lease -1;", syntax, 6);
        text("lease 5\t;", syntax, 7);
        text("lease 5\r;", syntax, 7);
        text("Lease 5;", syntax, 0);
        text("lease 5;\u00e9", syntax, 8);
        text("lease 5;\0", syntax, 8);
        text("lease 5", syntax, 7);
        text("lease 5  ", syntax, 9);
        text("lease", syntax, 5);
        text("le", syntax, 0);
        text(";", syntax, 0);
        text("lease 5;;", syntax, 8);
        text("7;", syntax, 0);
        text("leases 5;", syntax, 0);
        text("lease 5 6;", syntax, 8);
        text("lease five;", syntax, 6);
        text("lease 5;room", syntax, 12);
    }

    private static void promise3Names() {
        int syntax = RentDivision.SYNTAX_ERROR;
        int twice = RentDivision.DUPLICATE_ERROR;
        text("room room;room person;room no;room set;person person 1 1 2 3 4;", 5, NONE);
        text("room abcdef;", 1, NONE);
        text("room abcdefg;", syntax, 5);
        text("room a b;", syntax, 7);
        text("room 5;", syntax, 5);
        text("room ;", syntax, 5);
        text("room a5;", syntax, 6);
        text("room a;room a;", twice, 12);
        text("room a;room ab;room b;", 3, NONE);
        text("room a;person a 1 2;", 2, NONE);
        text("room a;person b 1 2;person b 1 2;", twice, 27);
        text("person abcdefg 1;", syntax, 7);
        text("person a 1;plan abcdefg 1 1;", syntax, 16);
        text("person a 1;plan b 1 1;", RentDivision.NAME_ERROR, 16);
        text("room b;person a 1 1;plan b 1 1;", RentDivision.NAME_ERROR, 25);
        text("plan a 1 1;person a 1;", RentDivision.NAME_ERROR, 5);
        text("person a 1;plan a 1 1;", 2, NONE);
        text("person a 1;plan 3 1 1;", syntax, 16);
    }

    private static void promise3Statements() {
        int syntax = RentDivision.SYNTAX_ERROR;
        int range = RentDivision.RANGE_ERROR;
        int twice = RentDivision.DUPLICATE_ERROR;
        text("person a 99999;", 1, NONE);
        text("person a 100000;", range, 9);
        text("person a no;", syntax, 9);
        text("person a;", syntax, 8);
        text("room r;person a 1 9999;", 2, NONE);
        text("room r;person a 1 10000;", range, 18);
        text("room r;person a 1 no;", 2, NONE);
        text("room r;person a 1 none;", syntax, 18);
        text("room r;person a 1;", syntax, 17);
        text("room r;person a 1 2 3;", syntax, 20);
        text("room r;person a 1 2 10000;", syntax, 20);
        text("room r;person a 1 2 no;", syntax, 20);
        text("person a 1;room r;", syntax, 11);
        text("person a 1;lease 1;room r;", syntax, 19);
        text("lease 1;room r;deposit 2;person a 1 1;", 4, NONE);
        text("lease 99999;deposit 99999;", 2, NONE);
        text("lease 100000;", range, 6);
        text("deposit 100000;", range, 8);
        text("lease 1;deposit 1;lease 1;", twice, 18);
        text("lease 1;deposit 1;deposit x", twice, 18);
        text("person a 1;plan a 999 99999;", 2, NONE);
        text("person a 1;plan a 1000 1;", range, 18);
        text("person a 1;plan a 1 100000;", range, 20);
        text("person a 1;plan a 1;", syntax, 19);
        text("person a 1;plan a no 1;", syntax, 18);
        text("set method low;set share 100;set auto 1;", 3, NONE);
        text("set method high;", 1, NONE);
        text("set method middle;", 1, NONE);
        text("set share 101;", range, 10);
        text("set auto 2;", range, 9);
        text("set method 1;", syntax, 11);
        text("set method lower;", syntax, 11);
        text("set share low;", syntax, 10);
        text("set lease 1;", syntax, 4);
        text("set;", syntax, 3);
        text("set share 1;set share 1;", twice, 16);
        text("set auto 1;set auto 7;", twice, 15);
        text("set method low;set method low;", twice, 19);
    }

    private static String times(String statement, int times) {
        StringBuilder text = new StringBuilder();
        for (int i = 0; i < times; i++) {
            text.append(statement.replace('#', (char) ('a' + i)));
        }
        return text.toString();
    }

    private static void promise3Counts() {
        int count = RentDivision.COUNT_ERROR;
        text(times("room #;", 6), 6, NONE);
        text(times("room #;", 7), count, 42);
        text(times("room #;", 6) + "room a;", count, 42);
        text(times("room #;", 6) + "person a 1 1 1 1 1 1 1;room g;", RentDivision.SYNTAX_ERROR, 65);
        text(times("person # 1;", 10), 10, NONE);
        text(times("person # 1;", 11), count, 110);
        text("person a 1;" + times("plan a 1 1;", 20), 21, NONE);
        text("person a 1;" + times("plan a 1 1;", 21), count, 231);
        text("person a 1;" + times("plan a 1 1;", 20) + "plan", count, 231);
    }

    private static void promise4ErrorPosition() {
        RentDivision x = new RentDivision();
        due("4 no load", x.errorPosition(), NONE);
        Check.load(x, "lease x;");
        due("4 an error", x.errorPosition(), 6);
        due("4 a load out of range", x.load(1), BAD);
        due("4 it stays", x.errorPosition(), 6);
        x.setLease(3);
        x.undo();
        due("4 an undo leaves it", x.errorPosition(), 6);
        Check.load(x, "lease 5;");
        due("4 no error", x.errorPosition(), NONE);
        Check.load(x, "x");
        due("4 at the start", x.errorPosition(), 0);
    }

    private static void promises5to8() {
        RentDivision x = flat();
        due("5 roomCount", x.roomCount(), 3);
        due("6 personCount", x.personCount(), 4);
        x.moveIn(ANN);
        x.moveOut(ANN);
        due("6 personCount whatever the state", x.personCount(), 4);
        due("7 big", x.roomNamed(2 << 25 | 9 << 20 | 7 << 15), BIG);
        due("7 top", x.roomNamed(Check.letters("top")), TOP);
        due("7 a person's name", x.roomNamed(Check.letters("ann")), NONE);
        due("7 a part of a name", x.roomNamed(Check.letters("bi")), NONE);
        due("7 0", x.roomNamed(0), NONE);
        due("7 more bits", x.roomNamed(Check.letters("big") | 1 << 30), NONE);
        due("7 -1", x.roomNamed(-1), NONE);
        due("8 cid", x.personNamed(Check.letters("cid")), CID);
        due("8 dot", x.personNamed(4 << 25 | 15 << 20 | 20 << 15), DOT);
        due("8 a room's name", x.personNamed(Check.letters("big")), NONE);
        due("8 0", x.personNamed(0), NONE);
        RentDivision y = Check.loaded("room zzzzzz;room same;person zzzzzy 1 1 1;person same 1 1 1;");
        due("7 six letters", y.roomNamed(26 << 25 | 26 << 20 | 26 << 15 | 26 << 10 | 26 << 5 | 26), 0);
        due("8 six letters", y.personNamed(Check.letters("zzzzzy")), 0);
        due("7 the same name", y.roomNamed(Check.letters("same")), 1);
        due("8 the same name", y.personNamed(Check.letters("same")), 1);
    }

    private static void promises9to13() {
        RentDivision x = flat();
        due("9 month", x.month(), 0);
        x.passMonths(5);
        due("9 month later", x.month(), 5);
        due("10 undoCount", x.undoCount(), 1);
        for (int i = 0; i < 12; i++) {
            x.setLease(i);
            due("10 undoCount at most 10", x.undoCount(), Math.min(10, i + 2));
        }
        due("11 METHOD", x.getSetting(RentDivision.METHOD), RentDivision.MIDDLE);
        due("11 -1", x.getSetting(-1), BAD);
        due("11 3", x.getSetting(3), BAD);
        due("11 the greatest int", x.getSetting(Integer.MAX_VALUE), BAD);
        RentDivision y = Check.loaded("set share 33;set auto 1;set method high;lease 8;deposit 9;");
        due("11 METHOD high", y.getSetting(RentDivision.METHOD), RentDivision.HIGH);
        due("11 SHARE", y.getSetting(RentDivision.SHARE), 33);
        due("11 AUTO", y.getSetting(RentDivision.AUTO), 1);
        due("12 lease", y.lease(), 8);
        due("13 deposit", y.deposit(), 9);
        due("11 METHOD low", Check.loaded("set method low;").getSetting(RentDivision.METHOD), RentDivision.LOW);
    }

    private static void promises14to18() {
        RentDivision x = flat();
        due("14 WAITING", x.stateOf(ANN), RentDivision.WAITING);
        due("18 nobody", x.livingCount(), 0);
        x.moveIn(ANN);
        x.moveIn(CID);
        due("14 LIVING", x.stateOf(ANN), RentDivision.LIVING);
        due("18 two", x.livingCount(), 2);
        x.moveOut(ANN);
        due("14 GONE", x.stateOf(ANN), RentDivision.GONE);
        due("18 one", x.livingCount(), 1);
        Check.dueThrow("14 -1", () -> x.stateOf(-1));
        Check.dueThrow("14 4", () -> x.stateOf(4));
        due("15 incomeOf", x.incomeOf(BOB), 1000);
        Check.dueThrow("15 -1", () -> x.incomeOf(-1));
        Check.dueThrow("15 4", () -> x.incomeOf(4));
        due("16 valueOf", x.valueOf(CID, MID), 10);
        due("16 refused", x.valueOf(BOB, TOP), 0);
        Check.dueThrow("16 person", () -> x.valueOf(4, 0));
        Check.dueThrow("16 room 3", () -> x.valueOf(0, 3));
        Check.dueThrow("16 room -1", () -> x.valueOf(0, -1));
        due("17 refuses", x.refuses(BOB, TOP), true);
        due("17 does not refuse", x.refuses(BOB, MID), false);
        due("17 dot refuses", x.refuses(DOT, MID), true);
        Check.dueThrow("17 person", () -> x.refuses(-1, 0) ? 1 : 0);
        Check.dueThrow("17 room", () -> x.refuses(0, 3) ? 1 : 0);
        Check.dueThrow("17 the greatest int", () -> x.refuses(Integer.MAX_VALUE, Integer.MIN_VALUE) ? 1 : 0);
    }

    private static void plan(RentDivision x, int plan, int person, int month, int income) {
        due("20 person of plan " + plan, x.plan(plan, 0), person);
        due("20 month of plan " + plan, x.plan(plan, 1), month);
        due("20 income of plan " + plan, x.plan(plan, 2), income);
    }

    private static void promises19and20() {
        RentDivision x = flat();
        due("19 planCount", x.planCount(), 4);
        plan(x, 0, ANN, 0, 3100);
        plan(x, 1, BOB, 0, 1100);
        plan(x, 2, BOB, 2, 4000);
        plan(x, 3, ANN, 2, 5);
        due("20 what 3", x.plan(0, 3), BAD);
        due("20 what -1", x.plan(0, -1), BAD);
        Check.dueThrow("20 plan 4", () -> x.plan(4, 0));
        Check.dueThrow("20 plan -1", () -> x.plan(-1, 0));
        Check.dueThrow("20 plan is checked first", () -> x.plan(4, 3));
        x.passMonths(2);
        due("19 planCount later", x.planCount(), 2);
        plan(x, 0, BOB, 2, 4000);
        plan(x, 1, ANN, 2, 5);
        Check.dueThrow("20 plan 2 later", () -> x.plan(2, 0));
        x.passMonths(1);
        due("19 no plan", x.planCount(), 0);
        Check.dueThrow("20 plan 0 later", () -> x.plan(0, 0));
        x.undo();
        due("19 planCount undone", x.planCount(), 2);
        plan(x, 0, BOB, 2, 4000);
    }

    private static void promises21to24() {
        RentDivision x = flat();
        due("21 nobody lives there", x.hasProposal(), false);
        due("22 without proposal", x.proposedRoom(ANN), NONE);
        due("23 without proposal", x.proposedValue(), NONE);
        due("24 without proposal", x.choiceCount(), 0);
        RentDivision y = lived();
        due("21 hasProposal", y.hasProposal(), true);
        due("22 ann", y.proposedRoom(ANN), BIG);
        due("22 bob", y.proposedRoom(BOB), MID);
        due("22 cid", y.proposedRoom(CID), TOP);
        due("22 dot", y.proposedRoom(DOT), NONE);
        Check.dueThrow("22 person", () -> y.proposedRoom(4));
        Check.dueThrow("22 person -1", () -> y.proposedRoom(-1));
        due("23 proposedValue", y.proposedValue(), 1300);
        due("24 choiceCount", y.choiceCount(), 1);
        y.moveOut(CID);
        y.setRefusal(BOB, MID, true);
        y.setRefusal(ANN, BIG, true);
        due("22 ann without big", y.proposedRoom(ANN), MID);
        y.moveIn(DOT);
        due("21 bob and dot both need big", y.hasProposal(), false);
        due("22 no such choice", y.proposedRoom(ANN), NONE);
        due("23 no such choice", y.proposedValue(), NONE);
        due("24 no such choice", y.choiceCount(), 0);
    }

    private static void promise24Ties() {
        String rooms = times("room #;", 6);
        RentDivision x = Check.loaded(rooms + times("person # 1 5 5 5 5 5 5;", 6));
        for (int p = 0; p < 6; p++) {
            x.moveIn(5 - p);
        }
        due("24 all are the same", x.choiceCount(), 720);
        due("23 all are the same", x.proposedValue(), 30);
        for (int p = 0; p < 6; p++) {
            due("22 the first room for the first person", x.proposedRoom(p), p);
        }
        x.setValue(0, 0, 4);
        due("24 one room is worth less", x.choiceCount(), 600);
        due("22 the first person then", x.proposedRoom(0), 1);
        due("22 the second person then", x.proposedRoom(1), 0);
        x.moveOut(5);
        due("24 five people", x.choiceCount(), 600);
        RentDivision y = Check.loaded("room a;room b;room c;person p 1 no 0 0;person q 1 no no 0;");
        y.moveIn(0);
        due("24 values of 0", y.choiceCount(), 2);
        due("23 values of 0", y.proposedValue(), 0);
        due("21 values of 0", y.hasProposal(), true);
        y.moveIn(1);
        due("24 values of 0, two people", y.choiceCount(), 1);
        due("22 values of 0, two people", y.proposedRoom(0), 1);
    }

    private static void promises25to27() {
        RentDivision x = lived();
        int[] low = {12000, 0, 0};
        int[] high = {0, -12000, -3600};
        int[][] prices = {{48000, 36000, 36000}, {45200, 33200, 41600}, {46600, 34600, 38800}};
        for (int room = 0; room < 3; room++) {
            due("25 LOW of " + room, x.extreme(room, false), low[room]);
            due("25 HIGH of " + room, x.extreme(room, true), high[room]);
            for (int method = 0; method < 3; method++) {
                x.setSetting(RentDivision.METHOD, method);
                due("26 price of " + room + " with method " + method, x.price(room), prices[method][room]);
                due("25 LOW whatever the method", x.extreme(room, false), low[room]);
            }
        }
        due("27 pricePart", x.pricePart(), 1000);
        x.setSetting(RentDivision.SHARE, 33);
        x.setLease(99);
        due("27 the income part is rounded down", x.pricePart(), 67);
        x.setSetting(RentDivision.SHARE, 100);
        due("27 SHARE 100", x.pricePart(), 0);
        due("26 prices below 0", x.price(MID), -5400);
        x.moveOut(CID);
        due("25 nobody gets the room", x.extreme(TOP, true), NO_NUMBER);
        due("26 nobody gets the room", x.price(TOP), NO_NUMBER);
        Check.dueThrow("25 room 3", () -> x.extreme(3, true));
        Check.dueThrow("25 room -1", () -> x.extreme(-1, false));
        Check.dueThrow("26 room 3", () -> x.price(3));
        Check.dueThrow("26 room -1", () -> x.price(-1));
        RentDivision y = flat();
        due("25 without proposal", y.extreme(BIG, false), NO_NUMBER);
        due("26 without proposal", y.price(BIG), NO_NUMBER);
        due("27 without proposal", y.pricePart(), 1000);
    }

    /** The prices go by chains of envy, and a room that is refused is not envied. */
    private static void promise25Chains() {
        RentDivision x = Check.loaded("room a;room b;room c;room d;person p 1 9 no no no;person q 1 7 5 no no;"
                + "person r 1 no 8 4 no;person s 1 no no 6 3;");
        for (int p = 0; p < 4; p++) {
            x.moveIn(p);
        }
        int[] low = {9, 7, 3, 0};
        int[] high = {0, -2, -6, -9};
        for (int room = 0; room < 4; room++) {
            due("25 LOW in a chain", x.extreme(room, false), 120 * low[room]);
            due("25 HIGH in a chain", x.extreme(room, true), 120 * high[room]);
        }
        x.setRefusal(2, 1, true);
        due("25 LOW without the link", x.extreme(0, false), 240);
        due("25 HIGH without the link", x.extreme(3, true), -360);
    }

    private static void promises28and29() {
        RentDivision x = lived();
        int[][] pays = {{400, 300, 300}, {377, 277, 346}, {389, 288, 323}};
        for (int method = 0; method < 3; method++) {
            x.setSetting(RentDivision.METHOD, method);
            for (int p = 0; p < 3; p++) {
                due("29 payment of " + p + " with method " + method, x.proposedPayment(p), pays[method][p]);
                due("28 SHARE 0", x.incomeShare(p), 0);
            }
        }
        x.setSetting(RentDivision.SHARE, 30);
        int[] shares = {200, 67, 33};
        int[] sums = {489, 255, 256};
        for (int p = 0; p < 3; p++) {
            due("28 income share of " + p, x.incomeShare(p), shares[p]);
            due("29 payment with SHARE 30 of " + p, x.proposedPayment(p), sums[p]);
        }
        due("28 not LIVING", x.incomeShare(DOT), NO_NUMBER);
        due("29 not LIVING", x.proposedPayment(DOT), NO_NUMBER);
        Check.dueThrow("28 person", () -> x.incomeShare(4));
        Check.dueThrow("29 person", () -> x.proposedPayment(-1));
        for (int p = 0; p < 3; p++) {
            x.setIncome(p, 0);
        }
        int[] alike = {100, 100, 100};
        for (int p = 0; p < 3; p++) {
            due("28 all incomes 0", x.incomeShare(p), alike[p]);
        }
        x.setLease(1004);
        due("28 all incomes 0, one unit left", x.incomeShare(ANN), 101);
        due("28 all incomes 0, none left for bob", x.incomeShare(BOB), 100);
        RentDivision y = flat();
        due("28 without proposal", y.incomeShare(ANN), NO_NUMBER);
        due("29 without proposal", y.proposedPayment(ANN), NO_NUMBER);
    }

    /** A lease of 1 and rooms that differ: prices 3030 and -2910 parts, so 25.25 and -24.25 units. */
    private static void promise29BelowZero() {
        RentDivision x = Check.loaded("room a;room b;person p 5 99 0;person q 5 50 1;lease 1;");
        x.moveIn(0);
        x.moveIn(1);
        due("26 price above the lease", x.price(0), 3000);
        due("26 price below 0", x.price(1), -2880);
        due("29 payment above the lease", x.proposedPayment(0), 25);
        due("29 payment below 0", x.proposedPayment(1), -24);
        x.setValue(1, 0, 51);
        due("26 price in half units", x.price(0), 3060);
        due("26 price in half units below 0", x.price(1), -2940);
        due("29 the unit that is missing", x.proposedPayment(0), 26);
        due("29 rounded down below 0", x.proposedPayment(1), -25);
    }

    private static void promises30and31() {
        RentDivision x = lived();
        due("30 ann", x.surplus(ANN), 25400);
        due("30 bob", x.surplus(BOB), 13400);
        due("30 cid", x.surplus(CID), -2800);
        due("30 dot", x.surplus(DOT), NO_NUMBER);
        due("31 cid", x.leastSurplus(), CID);
        Check.dueThrow("30 person", () -> x.surplus(4));
        x.setValue(CID, TOP, 3000);
        due("31 bob", x.leastSurplus(), BOB);
        RentDivision y = flat();
        due("30 without proposal", y.surplus(ANN), NO_NUMBER);
        due("31 without proposal", y.leastSurplus(), NONE);
        RentDivision z = Check.loaded("room a;room b;person o 1 1 1;person p 1 7 7;person q 1 7 7;");
        z.moveIn(1);
        z.moveIn(2);
        due("31 a tie", z.leastSurplus(), 1);
    }

    private static void promises32and33() {
        RentDivision x = lived();
        x.setSetting(RentDivision.SHARE, 30);
        int[] percents = {0, 16, 17, 25, 26, 51, 52, 100};
        int[] people = {0, 0, 1, 1, 2, 2, 3, 3};
        for (int i = 0; i < percents.length; i++) {
            due("32 affordable(" + percents[i] + ")", x.affordable(percents[i]), people[i]);
        }
        due("32 -1", x.affordable(-1), BAD);
        due("32 101", x.affordable(101), BAD);
        due("33 0 is enough", x.leastShare(65), 0);
        due("33 64", x.leastShare(64), 2);
        due("33 52", x.leastShare(52), 29);
        due("33 22", x.leastShare(22), NONE);
        due("33 the payments stay", x.proposedPayment(ANN), 489);
        due("33 -1", x.leastShare(-1), BAD);
        due("33 101", x.leastShare(101), BAD);
        RentDivision y = flat();
        due("32 without proposal", y.affordable(100), 0);
        due("33 without proposal", y.leastShare(100), NONE);
        due("32 without proposal, out of range", y.affordable(101), BAD);
        due("33 without proposal, out of range", y.leastShare(-1), BAD);
        RentDivision z = Check.loaded("room a;room b;person p 0 99 0;person q 9 0 0;lease 10;set method low;");
        z.moveIn(0);
        due("32 an income of 0", z.affordable(100), 0);
        z.setLease(0);
        due("32 a payment of 0", z.affordable(0), 1);
        due("33 a payment of 0", z.leastShare(0), 0);
    }

    private static void promise33OnlyAll() {
        RentDivision x = Check.loaded("room a;room b;person p 0 9 9;person q 100 9 9;lease 100;");
        x.moveIn(0);
        x.moveIn(1);
        due("33 only with 100", x.leastShare(100), 100);
        due("33 not with 99 percent", x.leastShare(99), NONE);
    }

    private static void promise34LeastValue() {
        RentDivision x = lived();
        due("34 bob big", x.leastValue(BOB, BIG), 801);
        due("34 ann big, which a tie gives", x.leastValue(ANN, BIG), 300);
        due("34 bob top, refused now", x.leastValue(BOB, TOP), 691);
        due("34 cid mid", x.leastValue(CID, MID), 601);
        due("34 dot does not live there", x.leastValue(DOT, BIG), NONE);
        due("34 nothing changes", x.refuses(BOB, TOP), true);
        due("34 the proposal stays", x.proposedRoom(BOB), MID);
        due("34 the value stays", x.valueOf(BOB, BIG), 500);
        Check.dueThrow("34 person", () -> x.leastValue(4, 0));
        Check.dueThrow("34 room", () -> x.leastValue(0, 3));
        Check.dueThrow("34 room of a person who is not LIVING", () -> x.leastValue(DOT, 3));
        for (int p = 0; p < 3; p++) {
            for (int r = 0; r < 3; r++) {
                checkLeast(x, p, r);
            }
        }
        RentDivision y = Check.loaded("room a;room b;person p 1 no 0;person q 1 9999 0;person r 1 9 no;");
        y.moveIn(1);
        due("34 the other room is worth as much", y.leastValue(1, 1), NONE);
        due("34 the lowest room", y.leastValue(1, 0), 0);
        y.moveIn(0);
        due("34 a tie at 9999", y.leastValue(0, 0), 9999);
        y.setValue(0, 1, 1);
        due("34 no value is enough", y.leastValue(0, 0), NONE);
        y.moveOut(0);
        y.moveIn(2);
        due("34 the other has no other room", y.leastValue(1, 0), NONE);
        due("34 it is the only one left", y.leastValue(1, 1), 0);
        due("34 GONE", y.leastValue(0, 0), NONE);
    }

    private static void checkLeast(RentDivision x, int person, int room) {
        int least = x.leastValue(person, room);
        x.setValue(person, room, least);
        due("34 with the least value of " + room, x.proposedRoom(person), room);
        x.undo();
        if (least > 0) {
            x.setValue(person, room, least - 1);
            due("34 with one less", x.proposedRoom(person) == room, false);
            x.undo();
        }
    }

    private static void promises35to38() {
        RentDivision x = lived();
        due("35 no division", x.roomOf(ANN), NONE);
        due("36 no division", x.personIn(BIG), NONE);
        due("37 no division", x.payment(ANN), 0);
        due("38 not yet", x.isCurrent(), false);
        x.divide();
        due("35 bob", x.roomOf(BOB), MID);
        due("35 dot", x.roomOf(DOT), NONE);
        due("36 mid", x.personIn(MID), BOB);
        due("36 big", x.personIn(BIG), ANN);
        due("37 ann", x.payment(ANN), 389);
        due("37 dot", x.payment(DOT), 0);
        due("38 divided", x.isCurrent(), true);
        x.setValue(ANN, BIG, 700);
        due("38 another value", x.isCurrent(), true);
        x.setIncome(ANN, 1);
        due("38 SHARE 0", x.isCurrent(), true);
        x.setLease(1001);
        due("38 another payment", x.isCurrent(), false);
        x.undo();
        due("38 undone", x.isCurrent(), true);
        x.moveOut(BOB);
        due("36 nobody", x.personIn(MID), NONE);
        due("38 one is gone", x.isCurrent(), false);
        Check.dueThrow("35 person", () -> x.roomOf(4));
        Check.dueThrow("36 room", () -> x.personIn(3));
        Check.dueThrow("36 room -1", () -> x.personIn(-1));
        Check.dueThrow("37 person", () -> x.payment(-1));
        x.moveOut(ANN);
        x.moveOut(CID);
        due("38 nobody left", x.isCurrent(), true);
        RentDivision y = Check.loaded("room a;room b;person p 1 1 no;person q 1 5 5;");
        y.moveIn(1);
        y.divide();
        due("38 one has all", y.isCurrent(), true);
        y.moveIn(0);
        due("38 other rooms", y.isCurrent(), false);
        y.setRefusal(0, 0, true);
        due("38 without proposal, with a room", y.isCurrent(), false);
        y.moveOut(1);
        due("38 without proposal, without rooms", y.isCurrent(), true);
        due("38 there is no proposal", y.hasProposal(), false);
    }

    private static void promises39to43() {
        RentDivision x = divided();
        due("40 free of envy", x.totalEnvy(), 0);
        due("42 nobody envies", x.mostEnvied(), NONE);
        x.setValue(BOB, BIG, 600);
        x.setValue(CID, BIG, 500);
        x.setValue(ANN, MID, 500);
        due("39 bob of ann", x.envyOf(BOB, ANN), 99);
        due("39 cid of ann", x.envyOf(CID, ANN), 134);
        due("39 ann of bob", x.envyOf(ANN, BOB), 1);
        due("39 ann of cid", x.envyOf(ANN, CID), 0);
        due("39 bob refuses top", x.envyOf(BOB, CID), 0);
        due("39 the same", x.envyOf(BOB, BOB), 0);
        due("39 no room", x.envyOf(BOB, DOT), NONE);
        due("39 no room either", x.envyOf(DOT, BOB), NONE);
        due("39 the same without room", x.envyOf(DOT, DOT), NONE);
        Check.dueThrow("39 person", () -> x.envyOf(4, 0));
        Check.dueThrow("39 other", () -> x.envyOf(0, -1));
        Check.dueThrow("39 other behind one without room", () -> x.envyOf(DOT, 4));
        due("40 totalEnvy", x.totalEnvy(), 234);
        due("41 ann", x.enviers(ANN), 6);
        due("41 bob", x.enviers(BOB), 1);
        due("41 cid", x.enviers(CID), 0);
        due("41 dot", x.enviers(DOT), 0);
        Check.dueThrow("41 person", () -> x.enviers(4));
        due("42 ann", x.mostEnvied(), ANN);
        due("43 ann and bob", x.wouldSwap(ANN, BOB), true);
        due("43 bob and ann", x.wouldSwap(BOB, ANN), true);
        due("43 one of them only", x.wouldSwap(ANN, CID), false);
        due("43 the other one only", x.wouldSwap(CID, ANN), false);
        due("43 the same", x.wouldSwap(ANN, ANN), false);
        due("43 no room", x.wouldSwap(ANN, DOT), false);
        Check.dueThrow("43 person", () -> x.wouldSwap(-1, 0) ? 1 : 0);
        Check.dueThrow("43 other", () -> x.wouldSwap(0, 4) ? 1 : 0);
        x.setRefusal(CID, BIG, true);
        due("39 refused now", x.envyOf(CID, ANN), 0);
        due("42 a tie", x.mostEnvied(), ANN);
        x.setRefusal(ANN, BIG, true);
        due("39 the own room is refused", x.envyOf(ANN, BOB), 212 + 389);
        x.setRefusal(BOB, BIG, true);
        due("42 bob", x.mostEnvied(), BOB);
    }

    private static void promises44and45() {
        RentDivision x = lived();
        due("44 no division", x.missing(), 1000);
        Check.dueDouble("45 no division", x.burden(ANN), 0.0);
        x.divide();
        due("44 divided", x.missing(), 0);
        x.setLease(900);
        due("44 a lower lease", x.missing(), -100);
        x.moveOut(ANN);
        due("44 ann is gone", x.missing(), 289);
        Check.dueDouble("45 bob", x.burden(BOB), 0.288);
        Check.dueDouble("45 cid", x.burden(CID), 0.646);
        x.setIncome(CID, 3);
        Check.dueDouble("45 more than all", x.burden(CID), 323.0 / 3.0);
        x.setIncome(CID, 0);
        Check.dueDouble("45 no income", x.burden(CID), 0.0);
        Check.dueThrow("45 person", () -> (long) x.burden(4));
        Check.dueThrow("45 person -1", () -> (long) x.burden(-1));
        RentDivision y = Check.loaded("room a;room b;person p 5 99 0;person q 5 50 1;lease 1;");
        y.moveIn(0);
        y.moveIn(1);
        y.divide();
        Check.dueDouble("45 below 0", y.burden(1), -4.8);
    }

    private static void promises46and47() {
        RentDivision x = divided();
        x.settle();
        x.passMonths(3);
        due("46 payments", x.paid(ANN, 0), 1167);
        due("46 stake", x.paid(ANN, 1), 234);
        due("46 months", x.paid(ANN, 2), 3);
        due("46 what 3", x.paid(ANN, 3), BAD);
        due("46 what -1", x.paid(ANN, -1), BAD);
        due("46 dot", x.paid(DOT, 0) + x.paid(DOT, 1) + x.paid(DOT, 2), 0);
        Check.dueThrow("46 person is checked first", () -> x.paid(4, 3));
        Check.dueThrow("46 person", () -> x.paid(-1, 0));
        due("47 no arrears", x.arrears(), 0);
        x.setLease(1010);
        x.passMonths(2);
        due("47 they grow", x.arrears(), 20);
        x.setLease(900);
        x.passMonths(1);
        due("47 they shrink", x.arrears(), -80);
        x.moveOut(ANN);
        x.passMonths(1);
        due("46 GONE", x.paid(ANN, 2), 6);
        due("46 payments stay", x.paid(ANN, 0), 6 * 389);
        due("47 one pays less", x.arrears(), 209);
        due("46 the others pay", x.paid(BOB, 2), 7);
        x.undo();
        due("47 undone", x.arrears(), -80);
    }

    private static void transfer(RentDivision x, int transfer, int payer, int getter, int amount) {
        due("50 payer of " + transfer, x.transfer(transfer, 0), payer);
        due("50 getter of " + transfer, x.transfer(transfer, 1), getter);
        due("50 amount of " + transfer, x.transfer(transfer, 2), amount);
    }

    private static void promises48to50() {
        RentDivision x = divided();
        due("48 ann", x.target(ANN), 234);
        due("48 bob", x.target(BOB), 173);
        due("48 cid", x.target(CID), 194);
        due("48 dot", x.target(DOT), 0);
        due("49 three", x.transferCount(), 3);
        transfer(x, 0, ANN, RentDivision.LANDLORD, 234);
        transfer(x, 1, CID, RentDivision.LANDLORD, 194);
        transfer(x, 2, BOB, RentDivision.LANDLORD, 173);
        due("50 what 3", x.transfer(0, 3), BAD);
        due("50 what -1", x.transfer(0, -1), BAD);
        Check.dueThrow("50 transfer 3", () -> x.transfer(3, 0));
        Check.dueThrow("50 transfer -1", () -> x.transfer(-1, 0));
        Check.dueThrow("50 the transfer is checked first", () -> x.transfer(3, 3));
        Check.dueThrow("48 person", () -> x.target(4));
        Check.dueThrow("48 person -1", () -> x.target(-1));
        due("62 settle", x.settle(), 3);
        due("49 none", x.transferCount(), 0);
        x.moveOut(ANN);
        due("48 GONE", x.target(ANN), 0);
        due("48 bob then", x.target(BOB), 283);
        due("48 cid then", x.target(CID), 318);
        due("49 two", x.transferCount(), 2);
        transfer(x, 0, CID, ANN, 124);
        transfer(x, 1, BOB, ANN, 110);
        x.setDeposit(0);
        due("49 the landlord pays", x.transferCount(), 3);
        transfer(x, 0, RentDivision.LANDLORD, ANN, 234);
        transfer(x, 1, RentDivision.LANDLORD, CID, 194);
        transfer(x, 2, RentDivision.LANDLORD, BOB, 173);
        x.moveOut(BOB);
        x.moveOut(CID);
        x.setDeposit(601);
        due("48 nobody lives there", x.target(BOB), 0);
        due("49 nobody lives there", x.transferCount(), 3);
    }

    private static void promise48Weights() {
        RentDivision x = lived();
        due("48 no division", x.target(ANN), 201);
        due("48 no division, bob", x.target(BOB), 200);
        due("48 no division, cid", x.target(CID), 200);
        due("50 ties go to the lower index", x.transfer(1, 0), BOB);
        x.moveOut(CID);
        x.divide();
        x.moveIn(CID);
        due("48 one without room", x.target(CID), 0);
        RentDivision y = Check.loaded("room a;room b;person p 5 99 0;person q 5 50 1;lease 1;deposit 40;");
        y.moveIn(0);
        y.moveIn(1);
        y.divide();
        due("48 a payment below 0 counts as 0", y.target(1), 0);
        due("48 all for the other", y.target(0), 40);
    }

    /** Stakes of 25 each, then two go and two come: those who pay the most pay those who get the most. */
    private static void promise50Order() {
        RentDivision x = Check.loaded("room a;room b;room c;room d;person p 1 0 0 0 0;person q 1 0 0 0 0;person r 1 0 0 0 0;"
                + "person s 1 0 0 0 0;person t 1 0 0 0 0;person u 1 0 0 0 0;deposit 100;");
        for (int p = 0; p < 4; p++) {
            x.moveIn(p);
        }
        x.settle();
        x.moveOut(3);
        x.moveOut(1);
        x.moveIn(5);
        x.moveIn(4);
        x.setDeposit(200);
        due("49 four transfers", x.transferCount(), 4);
        transfer(x, 0, 4, RentDivision.LANDLORD, 50);
        transfer(x, 1, 5, RentDivision.LANDLORD, 50);
        transfer(x, 2, 0, 1, 25);
        transfer(x, 3, 2, 3, 25);
    }

    /** SHARE is 100 and nobody likes another room, so that payments go by incomes alone; each party takes part. */
    private static void promise49Most() {
        RentDivision x = Check.loaded(times("room #;", 6) + "person a 5 1 1 1 1 1 1;person b 7 1 1 1 1 1 1;"
                + "person c 11 1 1 1 1 1 1;person d 13 1 1 1 1 1 1;person e 18 1 1 1 1 1 1;person f 46 1 1 1 1 1 1;"
                + "person g 11 1 1 1 1 1 1;person h 19 1 1 1 1 1 1;person i 33 1 1 1 1 1 1;person j 37 1 1 1 1 1 1;"
                + "set share 100;lease 100;deposit 100;");
        for (int p = 6; p < 10; p++) {
            x.moveIn(p);
        }
        x.divide();
        x.settle();
        for (int p = 9; p >= 0; p--) {
            due("49 out and in", p > 5 ? x.moveOut(p) : x.moveIn(p), p > 5 ? p - 6 : 6 - p);
        }
        x.divide();
        x.setDeposit(200);
        int[][] all = {{5, 10, 92}, {4, 9, 36}, {3, 8, 26}, {2, 7, 19}, {1, 6, 11}, {0, 10, 8}, {1, 8, 3}, {2, 8, 3}, {0, 8, 1}, {0, 9, 1}};
        due("49 ten", x.transferCount(), all.length);
        for (int i = 0; i < all.length; i++) {
            transfer(x, i, all[i][0], all[i][1], all[i][2]);
        }
        due("62 ten", x.settle(), 10);
        due("62 none then", x.settle(), 0);
    }

    private static void promises51and52() {
        RentDivision x = flat();
        due("51 dot", x.moveIn(DOT), 1);
        due("51 LIVING already", x.moveIn(DOT), NOT);
        due("51 ann", x.moveIn(ANN), 2);
        due("51 bob", x.moveIn(BOB), 3);
        due("51 full", x.moveIn(CID), FULL);
        due("51 LIVING is checked first", x.moveIn(DOT), NOT);
        due("51 no person", x.moveIn(4), NONE);
        due("51 no person -1", x.moveIn(-1), NONE);
        due("51 errors are no changes", x.undoCount(), 3);
        due("52 dot", x.moveOut(DOT), 2);
        due("52 GONE", x.moveOut(DOT), NOT);
        due("52 WAITING", x.moveOut(CID), NOT);
        due("52 no person", x.moveOut(4), NONE);
        due("52 no person -1", x.moveOut(-1), NONE);
        due("51 GONE comes back", x.moveIn(DOT), 3);
        due("51 its state", x.stateOf(DOT), RentDivision.LIVING);
        x.setValue(DOT, TOP, 1);
        x.divide();
        due("52 before", x.personIn(TOP), DOT);
        due("52 moves out of its room", x.moveOut(DOT), 2);
        due("52 no room", x.roomOf(DOT), NONE);
        due("52 no payment", x.payment(DOT), 0);
        due("52 the room is free", x.personIn(TOP), NONE);
        due("52 undone", x.undo(), 7);
        due("52 the room again", x.roomOf(DOT), TOP);
        RentDivision y = Check.loaded("person a 1;");
        due("51 no rooms", y.moveIn(0), FULL);
    }

    private static void promises53and54() {
        RentDivision x = lived();
        due("53 before", x.setValue(ANN, BIG, 9999), 600);
        due("53 after", x.valueOf(ANN, BIG), 9999);
        due("53 0", x.setValue(ANN, BIG, 0), 9999);
        due("53 refused before", x.setValue(BOB, TOP, 70), 0);
        due("53 not refused then", x.refuses(BOB, TOP), false);
        due("53 its value", x.valueOf(BOB, TOP), 70);
        due("53 10000", x.setValue(BOB, TOP, 10000), BAD);
        due("53 -1", x.setValue(BOB, TOP, -1), BAD);
        due("53 no person", x.setValue(4, TOP, -1), NONE);
        due("53 no room", x.setValue(BOB, 3, -1), NONE);
        due("53 no room -1", x.setValue(BOB, -1, 5), NONE);
        due("53 the value stays", x.valueOf(BOB, TOP), 70);
        due("53 changes", x.undoCount(), 6);
        due("54 refuses", x.setRefusal(BOB, TOP, true), 70);
        due("54 its value", x.valueOf(BOB, TOP), 0);
        due("54 refused", x.refuses(BOB, TOP), true);
        due("54 so already", x.setRefusal(BOB, TOP, true), NOT);
        due("54 not any more", x.setRefusal(BOB, TOP, false), 0);
        due("54 its value then", x.valueOf(BOB, TOP), 0);
        due("54 not refused", x.refuses(BOB, TOP), false);
        due("54 not so already", x.setRefusal(BOB, TOP, false), NOT);
        due("54 no person", x.setRefusal(-1, TOP, false), NONE);
        due("54 no room", x.setRefusal(BOB, 3, true), NONE);
        due("54 changes", x.undoCount(), 8);
        x.undo();
        due("54 undone", x.refuses(BOB, TOP), true);
        x.undo();
        due("54 undone twice", x.valueOf(BOB, TOP), 70);
    }

    private static void promises55to58() {
        RentDivision x = flat();
        due("55 before", x.setIncome(DOT, 99999), 500);
        due("55 after", x.setIncome(DOT, 0), 99999);
        due("55 0", x.incomeOf(DOT), 0);
        due("55 100000", x.setIncome(DOT, 100000), BAD);
        due("55 -1", x.setIncome(DOT, -1), BAD);
        due("55 no person", x.setIncome(4, -1), NONE);
        due("56 before", x.setLease(99999), 1000);
        due("56 after", x.setLease(0), 99999);
        due("56 100000", x.setLease(100000), BAD);
        due("56 -1", x.setLease(-1), BAD);
        due("57 before", x.setDeposit(99999), 601);
        due("57 after", x.setDeposit(0), 99999);
        due("57 100000", x.setDeposit(100000), BAD);
        due("57 -1", x.setDeposit(-1), BAD);
        due("58 METHOD", x.setSetting(RentDivision.METHOD, RentDivision.LOW), RentDivision.MIDDLE);
        due("58 METHOD 3", x.setSetting(RentDivision.METHOD, 3), BAD);
        due("58 METHOD -1", x.setSetting(RentDivision.METHOD, -1), BAD);
        due("58 SHARE", x.setSetting(RentDivision.SHARE, 100), 0);
        due("58 SHARE 101", x.setSetting(RentDivision.SHARE, 101), BAD);
        due("58 SHARE -1", x.setSetting(RentDivision.SHARE, -1), BAD);
        due("58 AUTO", x.setSetting(RentDivision.AUTO, 1), 0);
        due("58 AUTO 2", x.setSetting(RentDivision.AUTO, 2), BAD);
        due("58 AUTO -1", x.setSetting(RentDivision.AUTO, -1), BAD);
        due("58 no setting", x.setSetting(3, 0), BAD);
        due("58 no setting -1", x.setSetting(-1, 0), BAD);
        due("58 METHOD then", x.getSetting(RentDivision.METHOD), RentDivision.LOW);
        due("58 SHARE then", x.setSetting(RentDivision.SHARE, 0), 100);
        due("58 AUTO then", x.setSetting(RentDivision.AUTO, 1), 1);
        due("58 changes", x.undoCount(), 10);
    }

    private static void promise59Divide() {
        RentDivision x = flat();
        due("59 without proposal", x.divide(), NONE);
        due("59 no change", x.undoCount(), 0);
        RentDivision y = divided();
        due("59 the same again", y.divide(), 0);
        due("59 a change all the same", y.undoCount(), 5);
        y.setLease(2000);
        due("59 other payments alone", y.divide(), 0);
        due("59 the payment", y.payment(ANN) + y.payment(BOB) + y.payment(CID), 2000);
        y.setValue(BOB, BIG, 9000);
        due("59 two have other rooms", y.divide(), 2);
        due("59 bob", y.roomOf(BOB), BIG);
        due("59 ann", y.roomOf(ANN), MID);
        y.undo();
        due("59 undone", y.roomOf(BOB), MID);
        y.setRefusal(ANN, BIG, true);
        y.setRefusal(ANN, MID, true);
        y.setRefusal(ANN, TOP, true);
        due("59 no such choice", y.divide(), NONE);
        due("59 the division stays", y.roomOf(ANN), BIG);
    }

    private static void promise60SwapRooms() {
        RentDivision x = divided();
        due("60 refused", x.swapRooms(BOB, CID), NOT);
        due("60 refused the other way", x.swapRooms(CID, BOB), NOT);
        due("60 the same", x.swapRooms(ANN, ANN), NOT);
        due("60 no room", x.swapRooms(ANN, DOT), NONE);
        due("60 the same without room", x.swapRooms(DOT, DOT), NONE);
        due("60 no person", x.swapRooms(4, ANN), NONE);
        due("60 no other", x.swapRooms(ANN, -1), NONE);
        due("60 no changes", x.undoCount(), 4);
        x.setValue(BOB, BIG, 600);
        x.setValue(CID, BIG, 500);
        x.setValue(ANN, MID, 500);
        due("60 total envy then", x.swapRooms(ANN, BOB), 134);
        due("60 ann's room", x.roomOf(ANN), MID);
        due("60 bob's room", x.roomOf(BOB), BIG);
        due("60 ann's payment", x.payment(ANN), 288);
        due("60 bob's payment", x.payment(BOB), 389);
        due("60 who is in big", x.personIn(BIG), BOB);
        due("60 cid stays", x.roomOf(CID), TOP);
        due("60 a change", x.undoCount(), 8);
        x.undo();
        due("60 undone", x.payment(ANN), 389);
        due("60 values stay", x.valueOf(ANN, MID), 500);
    }

    private static void promise61PassMonths() {
        RentDivision x = divided();
        due("61 0", x.passMonths(0), BAD);
        due("61 25", x.passMonths(25), BAD);
        due("61 -1", x.passMonths(-1), BAD);
        due("61 one", x.passMonths(1), 1);
        due("61 plan for month 0, ann", x.incomeOf(ANN), 3100);
        due("61 plan for month 0, bob", x.incomeOf(BOB), 1100);
        due("61 two more", x.passMonths(2), 3);
        due("61 plan for month 2, ann", x.incomeOf(ANN), 5);
        due("61 plan for month 2, bob", x.incomeOf(BOB), 4000);
        due("61 paid", x.paid(BOB, 0), 864);
        due("61 as one change", x.undoCount(), 6);
        due("61 undone", x.undo(), 5);
        due("61 month undone", x.month(), 1);
        due("61 plans undone", x.planCount(), 2);
        due("61 income undone", x.incomeOf(BOB), 1100);
        due("61 payments undone", x.paid(BOB, 0), 288);
        due("61 23", x.passMonths(23), 24);
        for (int month = 48; month <= 984; month += 24) {
            due("61 24", x.passMonths(24), month);
        }
        due("61 1000", x.passMonths(16), FULL);
        due("61 BAD_VALUE first", x.passMonths(25), BAD);
        due("61 999", x.passMonths(15), 999);
        due("61 above 999", x.passMonths(1), FULL);
        due("61 the month stays", x.month(), 999);
    }

    private static void promise61Auto() {
        RentDivision x = Check.loaded("room a;room b;person p 100 5 5;person q 100 5 5;lease 100;set share 100;set auto 1;"
                + "plan p 1 300;plan q 1 900;plan q 1 100;");
        x.moveIn(0);
        x.moveIn(1);
        x.passMonths(3);
        due("61 the plans of a month in their order", x.incomeOf(1), 100);
        due("61 AUTO divides each month, behind its plans", x.paid(0, 0), 50 + 75 + 75);
        due("61 AUTO the other", x.paid(1, 0), 50 + 25 + 25);
        due("61 AUTO division", x.payment(0), 75);
        due("61 AUTO is current", x.isCurrent(), true);
        x.setRefusal(0, 0, true);
        x.setRefusal(1, 0, true);
        x.setIncome(1, 0);
        x.passMonths(1);
        due("61 AUTO without proposal", x.paid(1, 0), 125);
        x.setSetting(RentDivision.AUTO, 0);
        x.setRefusal(1, 0, false);
        x.passMonths(1);
        due("61 without AUTO", x.paid(1, 0), 150);
        due("61 not current", x.isCurrent(), false);
        RentDivision y = Check.loaded("room a;person p 7 5;plan p 999 1;plan p 0 2;lease 9;set auto 1;");
        y.passMonths(1);
        due("61 a plan for a person who is WAITING", y.incomeOf(0), 2);
        due("61 nobody pays", y.arrears(), 9);
        due("61 no proposal, no division", y.paid(0, 2), 0);
    }

    private static void promise62Settle() {
        RentDivision x = new RentDivision();
        due("62 nothing to settle", x.settle(), 0);
        due("62 a change all the same", x.undoCount(), 1);
        RentDivision y = divided();
        due("62 three", y.settle(), 3);
        due("62 ann", y.paid(ANN, 1), 234);
        due("62 bob", y.paid(BOB, 1), 173);
        due("62 cid", y.paid(CID, 1), 194);
        due("62 dot", y.paid(DOT, 1), 0);
        y.moveOut(ANN);
        due("62 the stake stays", y.paid(ANN, 1), 234);
        due("62 two", y.settle(), 2);
        due("62 GONE gets all", y.paid(ANN, 1), 0);
        due("62 bob then", y.paid(BOB, 1), 283);
        due("62 undone", y.undo(), 6);
        due("62 the stake is back", y.paid(ANN, 1), 234);
    }

    private static void promise63Undo() {
        RentDivision x = flat();
        due("63 none", x.undo(), NONE);
        for (int i = 1; i <= 13; i++) {
            x.setLease(i);
        }
        for (int i = 9; i >= 0; i--) {
            due("63 still", x.undo(), i);
            due("63 lease", x.lease(), i + 3);
        }
        due("63 none is kept", x.undo(), NONE);
        due("63 the lease stays", x.lease(), 3);
        x.setDeposit(5);
        x.setLease(5);
        due("63 a change that makes nothing different", x.setLease(5), 5);
        due("63 counts", x.undoCount(), 3);
        due("63 undo of it", x.undo(), 2);
        due("63 the lease is the same", x.lease(), 5);
        due("63 undo of the one ahead", x.undo(), 1);
        due("63 the lease ahead", x.lease(), 3);
        int length = x.write();
        Check.feed(x, "lease 77;");
        due("63 undo", x.undo(), 0);
        due("63 the deposit", x.deposit(), 601);
        due("63 the input stays", x.load(9), 1);
        due("63 the input that stayed", x.lease(), 77);
        due("63 nothing was written", length, 0);
    }

    private static void promises64and65() {
        RentDivision x = divided();
        String text = "ann:big 389;bob:mid 288;cid:top 323";
        due("65 nothing written yet", x.outputAt(0), NONE);
        due("64 write", x.write(), text.length());
        Check.dueText("64 text", Check.output(x, text.length()), text);
        due("65 -1", x.outputAt(-1), NONE);
        due("65 behind the end", x.outputAt(text.length()), NONE);
        x.moveOut(BOB);
        Check.dueText("65 a change leaves it", Check.output(x, text.length()), text);
        x.undo();
        x.moveOut(BOB);
        due("64 shorter", x.write(), 23);
        Check.dueText("64 shorter text", Check.output(x, 23), "ann:big 389;cid:top 323");
        due("65 the old end is gone", x.outputAt(23), NONE);
        due("64 is no change", x.undoCount(), 5);
        x.undo();
        due("65 an undo leaves it", x.outputAt(23), NONE);
        RentDivision y = Check.loaded("room abcdef;room z;person zyxwvu 5 99 0;person a 5 50 1;lease 1;");
        y.moveIn(0);
        due("64 no division", y.write(), 0);
        y.moveIn(1);
        y.divide();
        Check.dueText("64 a payment below 0", Check.output(y, y.write()), "zyxwvu:abcdef 25;a:z -24");
        y.setLease(0);
        y.moveOut(1);
        y.divide();
        Check.dueText("64 a payment of 0", Check.output(y, y.write()), "zyxwvu:abcdef 0");
        y.setLease(99999);
        y.divide();
        Check.dueText("64 a payment of 99999", Check.output(y, y.write()), "zyxwvu:abcdef 99999");
        y.setLease(10000);
        y.divide();
        Check.dueText("64 a payment of 10000", Check.output(y, y.write()), "zyxwvu:abcdef 10000");
    }

    public static void main(String[] args) {
        promise1NewObject();
        promise2Feed();
        promise3LoadReplaces();
        promise3LoadKeeps();
        promise3Tokens();
        promise3Names();
        promise3Statements();
        promise3Counts();
        promise4ErrorPosition();
        promises5to8();
        promises9to13();
        promises14to18();
        promises19and20();
        promises21to24();
        promise24Ties();
        promises25to27();
        promise25Chains();
        promises28and29();
        promise29BelowZero();
        promises30and31();
        promises32and33();
        promise33OnlyAll();
        promise34LeastValue();
        promises35to38();
        promises39to43();
        promises44and45();
        promises46and47();
        promises48to50();
        promise48Weights();
        promise50Order();
        promise49Most();
        promises51and52();
        promises53and54();
        promises55to58();
        promise59Divide();
        promise60SwapRooms();
        promise61PassMonths();
        promise61Auto();
        promise62Settle();
        promise63Undo();
        promises64and65();
        Check.end("PromiseTest");
    }
}
