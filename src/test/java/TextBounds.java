/** The text format, and promises 1 to 4, 7 and 8. */
final class TextBounds extends Bounds {
    private static final String RICH = Picture.of(Bounds::rich);
    private static final String SPACE = " \n";
    /** What stands ahead of a token, and what may stand there: a name, an integer and so on. */
    private static final String[][] PLACES = {
        {"", "statement"}, {"room", "name"}, {"room a", "end"}, {"person", "name"}, {"person a", "integer"},
        {"person a 1", "end"}, {"room a;person a 1", "value"}, {"room a;person a 1 1", "end"},
        {"room a;person a 1 no", "end"}, {"room a;room b;person a 1 no", "value"}, {"room a;room b;person a 1 1 1", "end"},
        {"lease", "integer"}, {"lease 1", "end"}, {"deposit", "integer"}, {"deposit 1", "end"}, {"person a 1;plan", "name"},
        {"person a 1;plan a", "integer"}, {"person a 1;plan a 1", "integer"}, {"person a 1;plan a 1 1", "end"},
        {"set", "setting"}, {"set method", "method"}, {"set method low", "end"}, {"set method high", "end"},
        {"set method middle", "end"}, {"set share", "integer"}, {"set share 1", "end"}, {"set auto", "integer"},
        {"set auto 1", "end"}, {"person a 1;", "no room"}, {"room a;", "statement"}};
    private static final String[] TOKENS = {"x", "a", "abcdef", "abcdefg", "0", "1", ";", "no", "low", "high", "middle", "method",
        "share", "auto", "room", "person", "lease", "plan", "set", "deposit", "rooms", "roo", "sett", "noo", "lo", "?", "-", ",", "A"};

    private TextBounds() {
    }

    static void run() {
        tokens();
        names();
        statements();
        errors();
        objectAndFeed();
        load();
        lengths();
        errorPosition();
        named();
    }

    /** Loads a text into a flat that is divided; one with an error must change nothing there. */
    private static void text(String text, int answer, int place) {
        RentDivision x = rich();
        due("load of '" + text + "'", Check.load(x, text), answer);
        due("errorPosition of '" + text + "'", x.errorPosition(), place);
        if (answer < 0) {
            String got = Picture.of(() -> loadedBehind(rich(), text));
            same("'" + text + "' leaves all as it was", got, RICH);
        }
    }

    private static RentDivision loadedBehind(RentDivision x, String text) {
        Check.load(x, text);
        return x;
    }

    private static void right(String text, int statements) {
        text(text, statements, NONE);
    }

    private static void lease(String digits, int lease) {
        due("the integer " + digits, Check.loaded("lease " + digits + ";").lease(), lease);
    }

    private static void tokens() {
        holds("TEXT FORMAT", "Tokens are words (maximal runs of the letters a to z), integers (maximal runs of decimal digits, "
                + "read as unsigned numbers of any length), and the character ';'.", TextBounds::tokensOfEachKind);
        holds("TEXT FORMAT", "Spaces (32) and newlines (10) may stand between tokens, ahead of the first one and behind the last one.", () -> {
            right("lease5;deposit6;", 2);
            right(" lease 5 ; ", 1);
            right("\nlease\n5\n;\n", 1);
            right("  \n\n lease \n\n  5  \n ;\n\n  ", 1);
            right(" ", 0);
            right("\n", 0);
            text("le ase 5;", SYNTAX, 0);
            text("lease 5 5;", SYNTAX, 8);
            text("room a b;", SYNTAX, 7);
        });
        holds("TEXT FORMAT", "Any other character is a token that is never allowed.", () -> {
            for (int sign = 0; sign < 256; sign++) {
                boolean allowed = sign == ' ' || sign == '\n';
                boolean token = sign >= 'a' && sign <= 'z' || sign >= '0' && sign <= '9' || sign == ';';
                if (!token) {
                    sign((char) sign, allowed);
                }
            }
        });
    }

    private static void sign(char sign, boolean allowed) {
        text(sign + "lease 5;", allowed ? 1 : SYNTAX, allowed ? NONE : 0);
        text("lease" + sign + "5;", allowed ? 1 : SYNTAX, allowed ? NONE : 5);
        text("lease 5" + sign + ";", allowed ? 1 : SYNTAX, allowed ? NONE : 7);
        text("lease 5;" + sign, allowed ? 1 : SYNTAX, allowed ? NONE : 8);
    }

    private static void tokensOfEachKind() {
        right("room a;room z;room az;", 3);
        right("lease 0;deposit 9;", 2);
        text("roomroom a;", SYNTAX, 0);
        text("roo m a;", SYNTAX, 0);
        text("room a5;", SYNTAX, 6);
        right("person a5;", 1);
        right("room r;person a1no;", 2);
        text("room r;person a1n0;", SYNTAX, 16);
        right("room r;person a1 2;", 2);
        text("room r;person a12;", SYNTAX, 17);
        text("lease 5;;", SYNTAX, 8);
        lease("0", 0);
        lease("00", 0);
        lease("00000000000000000000000000099999", 99999);
        lease("0".repeat(890) + "5", 5);
        text("lease 99999999999999999999999999;", RANGE, 6);
        text("lease " + "9".repeat(893) + ";", RANGE, 6);
        text("lease 1000000;", RANGE, 6);
        text("lease 1000001;", RANGE, 6);
        text("lease 10000000;", RANGE, 6);
        text("lease 2147483647;", RANGE, 6);
        text("lease 2147483648;", RANGE, 6);
        text("lease 4294967295;", RANGE, 6);
        text("lease 4294967296;", RANGE, 6);
        text("lease 4294967301;", RANGE, 6);
        text("lease 18446744073709551616;", RANGE, 6);
        text("lease 18446744073709551621;", RANGE, 6);
        text("lease -5;", SYNTAX, 6);
        text("lease +5;", SYNTAX, 6);
    }

    private static void names() {
        holds("TEXT FORMAT", "A name is a word of 1 to 6 letters (a longer word is not allowed where a name is)", () -> {
            right("room a;person a 1 1;plan a 1 1;", 3);
            right("room abcdef;person abcdef 1 1;plan abcdef 1 1;", 3);
            text("room abcdefg;", SYNTAX, 5);
            text("person abcdefg 1;", SYNTAX, 7);
            text("person abcdef 1;plan abcdefg 1 1;", SYNTAX, 21);
            text("room ;", SYNTAX, 5);
            text("person 1;", SYNTAX, 7);
        });
        holds("TEXT FORMAT", "rooms and people have names of their own each (a room and a person can have the same name)", () -> {
            RentDivision x = Check.loaded("room a;room b;person b 1 1 1;person a 1 1 1;");
            due("room a", x.roomNamed(Check.letters("a")), 0);
            due("room b", x.roomNamed(Check.letters("b")), 1);
            due("person b", x.personNamed(Check.letters("b")), 0);
            due("person a", x.personNamed(Check.letters("a")), 1);
        });
        holds("TEXT FORMAT", "Whatever stands where a name is allowed is one.", () -> {
            for (String word : new String[] {"room", "person", "no", "lease", "plan", "set", "method", "low", "high", "middle", "share", "auto"}) {
                RentDivision x = Check.loaded("room " + word + ";person " + word + " 1 no;plan " + word + " 1 1;");
                due("the room " + word, x.roomNamed(Check.letters(word)), 0);
                due("the person " + word, x.personNamed(Check.letters(word)), 0);
                due("the plan", x.planCount(), 1);
            }
            text("room deposit;", SYNTAX, 5);
        });
    }

    private static void statements() {
        holds("TEXT FORMAT", "The first integer of a person is the income; then there are just as many values as there are rooms, "
                + "\"no\" for a room that is refused.", () -> {
            right("person a 7;", 1);
            text("person a 7 8;", SYNTAX, 11);
            text("person a no;", SYNTAX, 9);
            text("person a;", SYNTAX, 8);
            text("room r;person a 7;", SYNTAX, 17);
            right("room r;person a 7 8;", 2);
            text("room r;person a 7 8 9;", SYNTAX, 20);
            text("room r;person a 7 8 no;", SYNTAX, 20);
            String six = times("room #;", 6);
            text(six + "person a 7 1 2 3 4 5;", SYNTAX, 62);
            text(six + "person a 7 1 2 3 4 5 6 7;", SYNTAX, 65);
            RentDivision x = Check.loaded(six + "person a 7 no 2 3 4 5 no;");
            due("income", x.incomeOf(0), 7);
            for (int room = 0; room < 6; room++) {
                boolean no = room == 0 || room == 5;
                due("value of " + room, x.valueOf(0, room), no ? 0 : room + 1);
                due("refuses " + room, x.refuses(0, room), no);
            }
        });
        holds("TEXT FORMAT", "A plan has a person declared before, a month (0 to 999) and an income.", () -> {
            text("plan a 1 1;", NAME, 5);
            text("plan a 1 1;person a 1;", NAME, 5);
            right("person a 1;plan a 0 0;", 2);
            right("person a 1;plan a 999 99999;", 2);
            text("person a 1;plan a 1000 1;", RANGE, 18);
            text("person a 1;plan a 1 100000;", RANGE, 20);
            text("person a 1;plan a 1;", SYNTAX, 19);
            text("person a 1;plan a;", SYNTAX, 17);
        });
    }

    private static void errors() {
        holds("TEXT FORMAT", "The first error in the order of the text is reported, at the position of the first character of its token.", () -> {
            text("lease 100000;lease x;room 1", RANGE, 6);
            text("lease 5;  bedroom 100000", SYNTAX, 10);
            text("lease 5;lease 100000;", TWICE, 8);
            text("person a 1;plan b 1000 100000;", NAME, 16);
            text("person a 1;plan a 1000 100000;", RANGE, 18);
        });
        holds("TEXT FORMAT", "If several errors apply to one token, the one listed first is reported.", () -> {
            text(times("room #;", 6) + "person a 1 1 1 1 1 1 1;room a;", SYNTAX, 65);
            text("person a 1;plan abcdefg 1 1;", SYNTAX, 16);
            text("person a 1 100000;", SYNTAX, 11);
            text("lease 5 100000;", SYNTAX, 8);
        });
        holds("TEXT FORMAT", "SYNTAX_ERROR: the token is not allowed here (also the word room behind a person statement); "
                + "if the text ends too early, the position is its length.", () -> {
            text("person a 1;room r;", SYNTAX, 11);
            text("person a 1;lease 1;room r;", SYNTAX, 19);
            text("room r;person a 1 1;room q;", SYNTAX, 20);
            right("lease 1;room r;deposit 1;room q;set auto 1;room s;person a 1 1 1 1;", 7);
            for (String[] place : PLACES) {
                tooEarly(place[0]);
            }
        });
        holds("TEXT FORMAT", "text = { statement \";\" } statement = \"room\" name | \"person\" name integer { integer | \"no\" } | \"lease\" integer "
                + "| \"deposit\" integer | \"plan\" name integer integer | \"set\" ( \"method\" ( \"low\" | \"high\" | \"middle\" ) | \"share\" integer "
                + "| \"auto\" integer )", () -> {
            for (String[] place : PLACES) {
                eachToken(place[0], place[1]);
            }
        });
        holds("TEXT FORMAT", "RANGE_ERROR: an integer is outside its range.", () -> {
            range("person a ", 99999, ";");
            range("room r;person a 1 ", 9999, ";");
            range("room r;room s;person a 1 1 ", 9999, ";");
            range("lease ", 99999, ";");
            range("deposit ", 99999, ";");
            range("person a 1;plan a ", 999, " 1;");
            range("person a 1;plan a 1 ", 99999, ";");
            range("set share ", 100, ";");
            range("set auto ", 1, ";");
        });
        holds("TEXT FORMAT", "NAME_ERROR: the name in a plan that is not that of a person.", () -> {
            text("room b;person a 1 1;plan b 1 1;", NAME, 25);
            text("person ab 1;plan a 1 1;", NAME, 17);
            text("person a 1;plan ab 1 1;", NAME, 16);
            right("person a 1;person b 1;plan b 1 1;", 3);
        });
        holds("TEXT FORMAT", "DUPLICATE_ERROR: the name of a room or person that one has already; the word lease or deposit, "
                + "or the name of a setting, that was already given.", TextBounds::duplicates);
        holds("TEXT FORMAT", "COUNT_ERROR: the word room of a seventh room, person of an 11th person, or plan of a 21st plan.", () -> {
            right(times("room #;", 6), 6);
            text(times("room #;", 7), COUNT, 42);
            text(times("room #;", 6) + "room", COUNT, 42);
            right(times("person # 1;", 10), 10);
            text(times("person # 1;", 11), COUNT, 110);
            text(times("person # 1;", 10) + "person 1", COUNT, 110);
            right("person a 1;" + times("plan a 1 1;", 20), 21);
            text("person a 1;" + times("plan a 1 1;", 21), COUNT, 231);
            text("person a 1;" + times("plan a 1 1;", 20) + "plan b", COUNT, 231);
        });
    }

    private static void duplicates() {
        text("room a;room a;", TWICE, 12);
        text(times("room #;", 5) + "room e;", TWICE, 40);
        right("room a;room aa;room b;", 3);
        text("person a 1;person a 1;", TWICE, 18);
        text(times("person # 1;", 9) + "person i 1;", TWICE, 106);
        text("person a 1;person b 1;person a", TWICE, 29);
        text("lease 1;lease 1;", TWICE, 8);
        text("lease 1;deposit 1;lease", TWICE, 18);
        text("deposit 1;deposit 1;", TWICE, 10);
        text("deposit 0;lease 0;deposit x", TWICE, 18);
        text("set method low;set method low;", TWICE, 19);
        text("set share 0;set share 0;", TWICE, 16);
        text("set auto 0;set auto 0;", TWICE, 15);
        text("set auto 0;set share 0;set method middle;set auto", TWICE, 45);
        right("set auto 0;set share 0;set method middle;lease 0;deposit 0;", 5);
    }

    private static void range(String before, int most, String behind) {
        right(before + "0" + behind, before.split(";").length);
        right(before + most + behind, before.split(";").length);
        text(before + (most + 1) + behind, RANGE, before.length());
        text(before + "4294967296" + behind, RANGE, before.length());
    }

    private static boolean isAllowed(String token, String kind) {
        boolean integer = token.equals("0") || token.equals("1");
        boolean statement = token.matches("room|person|lease|deposit|plan|set");
        switch (kind) {
            case "name":
                return token.matches("[a-z]{1,6}");
            case "integer":
                return integer;
            case "value":
                return integer || token.equals("no");
            case "end":
                return token.equals(";");
            case "setting":
                return token.matches("method|share|auto");
            case "method":
                return token.matches("low|high|middle");
            case "no room":
                return statement && !token.equals("room");
            default:
                return statement;
        }
    }

    private static void eachToken(String before, String kind) {
        for (String token : TOKENS) {
            RentDivision x = new RentDivision();
            int answer = Check.load(x, before + SPACE + token);
            boolean syntaxHere = answer == SYNTAX && x.errorPosition() == before.length() + SPACE.length();
            due("'" + before + SPACE + token + "' is allowed", !syntaxHere, isAllowed(token, kind));
        }
    }

    private static void tooEarly(String text) {
        if (text.isEmpty() || text.endsWith(";")) {
            right(text, text.isEmpty() ? 0 : 1);
            return;
        }
        text(text, SYNTAX, text.length());
        text(text + " ", SYNTAX, text.length() + 1);
        text(text + "\n  ", SYNTAX, text.length() + 3);
    }

    private static void objectAndFeed() {
        holds("Promise 1", "Creates a flat without rooms and people, with initial settings, empty buffers and no changes to undo.", () -> {
            RentDivision x = new RentDivision();
            due("roomCount", x.roomCount(), 0);
            due("personCount", x.personCount(), 0);
            due("METHOD", x.getSetting(METHOD), MIDDLE);
            due("SHARE", x.getSetting(SHARE), 0);
            due("AUTO", x.getSetting(AUTO), 0);
            due("the input is empty", x.load(1), BAD);
            due("the output is empty", x.outputAt(0), NONE);
            due("undoCount", x.undoCount(), 0);
            due("undo", x.undo(), NONE);
            same("a new object and an empty text", Picture.of(RentDivision::new), Picture.of(() -> loadedBehind(new RentDivision(), "")));
        });
        holds("Promise 2", "Appends 20 bytes to the input buffer: the four bytes of each parameter, most significant byte first.", () -> {
            RentDivision x = new RentDivision();
            x.feed(0x6c656173, 0x65203b0a, 0x3b3b3b3b, 0x3b3b3b3b, 0x3b3b3b3b);
            due("';' where an integer is due", x.load(20), SYNTAX);
            due("it stands behind 'lease '", x.errorPosition(), 6);
            for (int place = 0; place < 20; place++) {
                byteAt(place, 0xff);
                byteAt(place, 0x80);
                byteAt(place, 0x00);
            }
        });
        holds("Promise 2", "Returns the new number of bytes in the buffer; FULL if the buffer would hold more than 900 bytes (nothing is appended then).", () -> {
            RentDivision x = fed(44);
            due("880 bytes", x.load(881), BAD);
            due("up to 900", x.feed(0x6c656173, 0x65202020, 0x20202020, 0x20202020, 0x2020373b), 900);
            due("above 900", x.feed(0x3b3b3b3b, 0x3b3b3b3b, 0x3b3b3b3b, 0x3b3b3b3b, 0x3b3b3b3b), FULL);
            due("again", x.feed(0, 0, 0, 0, 0), FULL);
            due("901 bytes", x.load(901), BAD);
            due("920 bytes", x.load(920), BAD);
            due("the 900 bytes fed", x.load(900), 1);
            due("the text fed", x.lease(), 7);
            due("behind a load", x.feed(0, 0, 0, 0, 0), 20);
            refused("feed to what is full", () -> fed(45), y -> y.feed(0x3b3b3b3b, 0, 0, 0, 0), FULL);
        });
    }

    /** As many feeds of spaces. */
    private static RentDivision fed(int feeds) {
        RentDivision x = new RentDivision();
        for (int i = 1; i <= feeds; i++) {
            due("feed " + i, x.feed(0x20202020, 0x20202020, 0x20202020, 0x20202020, 0x20202020), 20 * i);
        }
        return x;
    }

    /** One byte that is no token among spaces tells where it stands. */
    private static void byteAt(int place, int odd) {
        int[] words = {0x20202020, 0x20202020, 0x20202020, 0x20202020, 0x20202020};
        int shift = 24 - place % 4 * 8;
        words[place / 4] = words[place / 4] & ~(0xff << shift) | odd << shift;
        RentDivision x = new RentDivision();
        due("feed", x.feed(words[0], words[1], words[2], words[3], words[4]), 20);
        due("load", x.load(20), SYNTAX);
        due("place", x.errorPosition(), place);
    }

    private static void load() {
        holds("Promise 3", "Replaces the flat by the one described by the first length bytes of the input buffer (see TEXT FORMAT) "
                + "and empties the buffer.", () -> {
            RentDivision x = rich();
            Check.feed(x, "room q;lease 55;lease 6;");
            due("the first bytes", x.load(16), 2);
            due("the lease", x.lease(), 55);
            due("one room", x.roomCount(), 1);
            due("nobody", x.personCount(), 0);
            due("the buffer is empty", x.load(1), BAD);
            due("bytes behind the length are gone too", x.feed(0x20202020, 0x20202020, 0x20202020, 0x20202020, 0x20202020), 20);
        });
        holds("Promise 3", "Settings, lease and deposit that the text does not give have their initial values; the month is 0, all people "
                + "are WAITING, there is no division, and stakes, arrears and what was paid are 0.", () -> {
            String loaded = Picture.of(() -> loadedBehind(withoutOutput(rich()), FLAT));
            same("as in a new object", loaded, Picture.of(Bounds::flat));
            RentDivision x = rich();
            Check.load(x, "set method low;set share 5;set auto 1;lease 8;deposit 9;");
            due("the same settings once more", Check.load(x, "set method low;set share 5;set auto 1;lease 8;deposit 9;"), 5);
            Check.load(x, "room r;person a 1 1;");
            due("METHOD", x.getSetting(METHOD), MIDDLE);
            due("SHARE", x.getSetting(SHARE), 0);
            due("AUTO", x.getSetting(AUTO), 0);
            due("lease", x.lease(), 0);
            due("deposit", x.deposit(), 0);
            due("month", x.month(), 0);
            due("state", x.stateOf(0), WAITING);
            due("room", x.roomOf(0), NONE);
            due("payment", x.payment(0), 0);
            due("arrears", x.arrears(), 0);
            for (int what = 0; what < 3; what++) {
                due("paid " + what, x.paid(0, what), 0);
            }
            RentDivision y = lived();
            due("a proposal", y.hasProposal(), true);
            Check.load(y, FLAT);
            due("nobody is LIVING then", y.hasProposal(), false);
        });
        holds("Promise 3", "After a successful load nothing can be undone; what was written to the output buffer stays.", () -> {
            RentDivision x = rich();
            int length = x.write();
            due("load", Check.load(x, FLAT), 13);
            due("undoCount", x.undoCount(), 0);
            due("undo", x.undo(), NONE);
            due("month stays", x.month(), 0);
            Check.dueText("the output", Check.output(x, length), "ann:big 389;bob:mid 288;cid:top 323");
            due("its end", x.outputAt(length), NONE);
            x.setLease(5);
            due("a change then", x.undo(), 0);
            due("the lease of the text", x.lease(), 1000);
        });
        holds("Promise 3", "If the text has an error, nothing but the buffer changes: it is emptied all the same.", () -> {
            text("room q;person z 5 7;lease 5;deposit 6;set share 7;set method low;set auto 1;plan z 1 1;x", SYNTAX, 87);
            text("room q;person z 5 7;lease 5;deposit 600000;", RANGE, 36);
            text("room q;person z 5 7;lease 5;plan q 1 1;", NAME, 33);
            text("room q;person z 5 7;lease 5;lease 5;", TWICE, 28);
            text(times("room #;", 7), COUNT, 42);
            RentDivision x = rich();
            Check.feed(x, "lease x;lease 5;");
            due("load of a part", x.load(8), SYNTAX);
            due("the bytes behind it are gone too", x.load(1), BAD);
        });
    }

    /** Writes nothing, so that the output is that of a new object. */
    private static RentDivision withoutOutput(RentDivision x) {
        Check.load(x, "");
        x.write();
        return x;
    }

    private static void lengths() {
        holds("Promise 3", "number of bytes to read, from 0 to the number of bytes in the buffer", () -> {
            due("0 of nothing", new RentDivision().load(0), 0);
            due("1 of nothing", new RentDivision().load(1), BAD);
            due("-1 of nothing", new RentDivision().load(-1), BAD);
            RentDivision x = rich();
            Check.feed(x, "lease 5;            ");
            due("0 of 20", x.load(0), 0);
            due("an empty flat", x.roomCount() + x.lease(), 0);
            due("no undo", x.undoCount(), 0);
            due("it is empty then", x.load(1), BAD);
            Check.feed(x, "lease 5;            ");
            due("1 of 20", x.load(1), SYNTAX);
            Check.feed(x, "lease 5;            ");
            due("7 of 20", x.load(7), SYNTAX);
            due("the text is 7 bytes long", x.errorPosition(), 7);
            Check.feed(x, "lease 5;            ");
            due("8 of 20", x.load(8), 1);
            Check.feed(x, "lease 5;            ");
            due("20 of 20", x.load(20), 1);
        });
        holds("Promise 3", "Returns the number of statements; BAD_VALUE if length is out of range (the buffer is unchanged then); "
                + "SYNTAX_ERROR, RANGE_ERROR, NAME_ERROR, DUPLICATE_ERROR or COUNT_ERROR.", () -> {
            right("", 0);
            right("lease 1;", 1);
            right(times("room #;", 6) + times("person # 1 1 1 1 1 1 1;", 10) + times("plan a 1 1;", 20)
                    + "lease 1;deposit 1;set method low;set share 1;set auto 1;", 41);
            text("lease", SYNTAX, 5);
            text("lease 100000;", RANGE, 6);
            text("plan a 1 1;", NAME, 5);
            text("lease 1;lease 1;", TWICE, 8);
            text(times("room #;", 7), COUNT, 42);
            for (int length : new int[] {-1, -20, 21, 40, 900, 901, LEAST, MOST}) {
                refused("load of " + length + " of 20", Bounds::rich, x -> x.load(length), BAD);
            }
            refused("load of 901 of 900", () -> fed(45), x -> x.load(901), BAD);
            due("load of 881 of 880", fed(44).load(881), BAD);
            due("load of 880 of 880", fed(44).load(880), 0);
        });
    }

    private static void errorPosition() {
        holds("Promise 4", "Returns the position of the error of the latest load that did not return BAD_VALUE.", () -> {
            RentDivision x = new RentDivision();
            Check.load(x, "lease x;");
            due("an error", x.errorPosition(), 6);
            x.load(1);
            x.load(-1);
            due("loads out of range", x.errorPosition(), 6);
            Check.load(x, "deposit x;");
            due("another error", x.errorPosition(), 8);
            Check.load(x, "deposit 8;");
            x.load(1);
            due("out of range behind one without error", x.errorPosition(), NONE);
        });
        holds("Promise 4", "Returns the position in bytes from the start of the text; NOT_FOUND if that load had no error or there was none.", () -> {
            RentDivision x = new RentDivision();
            due("no load", x.errorPosition(), NONE);
            x.load(1);
            due("no load but one out of range", x.errorPosition(), NONE);
            Check.load(x, "?");
            due("the first byte", x.errorPosition(), 0);
            x.load(0);
            due("an empty text has no error", x.errorPosition(), NONE);
            Check.load(x, " ".repeat(899) + "?");
            due("the last byte of 900", x.errorPosition(), 899);
            Check.load(x, " ".repeat(895) + "lease");
            due("behind 900 bytes", x.errorPosition(), 900);
            Check.load(x, "lease 5;");
            due("no error", x.errorPosition(), NONE);
        });
    }

    private static void named() {
        String letters = "the name as six groups of 5 bits, the first letter in the highest group; a is 1, z is 26; unused groups at the end are 0";
        holds("Promise 7", letters, () -> {
            RentDivision x = Check.loaded("room a;room z;room zzzzzz;room abcdef;room az;room za;");
            int[] codes = {0x02000000, 0x34000000, 0x35ad6b5a, 1 << 25 | 2 << 20 | 3 << 15 | 4 << 10 | 5 << 5 | 6, 0x03a00000, 0x34100000};
            for (int room = 0; room < 6; room++) {
                due("room " + room, x.roomNamed(codes[room]), room);
            }
        });
        String noRoom = "Returns the index of the room; NOT_FOUND if there is none with that name.";
        holds("Promise 7", noRoom, () -> missingNames("room a;room abcdef;", "person b 1 1 1;", RentDivision::roomNamed));
        holds("Promise 8", "the name, as told for roomNamed", () -> {
            RentDivision x = Check.loaded("person a 1;person z 1;person zzzzzz 1;person abcdef 1;person az 1;");
            int[] codes = {0x02000000, 0x34000000, 0x35ad6b5a, 1 << 25 | 2 << 20 | 3 << 15 | 4 << 10 | 5 << 5 | 6, 0x03a00000};
            for (int person = 0; person < 5; person++) {
                due("person " + person, x.personNamed(codes[person]), person);
            }
        });
        String noPerson = "Returns the index of the person; NOT_FOUND if there is none with that name.";
        holds("Promise 8", noPerson, () -> missingNames("room b;", "person a 1 1;person abcdef 1 1;", RentDivision::personNamed));
    }

    /** The first two of their kind are a and abcdef, and b is of the other kind. */
    private static void missingNames(String rooms, String people, AskOne named) {
        RentDivision x = Check.loaded(rooms + people);
        int a = 1 << 25;
        int all = Check.letters("abcdef");
        due("a", named.of(x, a), 0);
        due("abcdef", named.of(x, all), 1);
        due("abcdef with the sign bit", named.of(x, all | LEAST), NONE);
        due("abcdef with bit 30", named.of(x, all | 1 << 30), NONE);
        due("abcde", named.of(x, Check.letters("abcde")), NONE);
        due("abcdeg", named.of(x, all + 1), NONE);
        due("ab", named.of(x, Check.letters("ab")), NONE);
        due("b, which is of the other kind", named.of(x, 2 << 25), NONE);
        due("a in the lowest group", named.of(x, 1), NONE);
        due("a in the second group", named.of(x, 1 << 20), NONE);
        for (int letters : new int[] {0, -1, LEAST, MOST, 27 << 25, 31 << 25}) {
            due("no name " + letters, named.of(x, letters), NONE);
            due("no name " + letters + " in an empty flat", named.of(new RentDivision(), letters), NONE);
        }
        Check.load(x, "");
        due("a is gone", named.of(x, a), NONE);
        due("abcdef is gone", named.of(x, all), NONE);
    }
}
