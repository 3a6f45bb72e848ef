/**
 * All that the face tells of an object. Each page is taken of an object of its own, since an object answers for 512
 * calls only and some of these calls use it up.
 */
final class Picture {
    private static final String[] NAMES = {"a", "b", "c", "d", "e", "f", "g", "h", "i", "j", "big", "mid", "top", "ann", "bob", "cid", "dot"};

    private final StringBuilder text = new StringBuilder();

    private Picture() {
    }

    interface Make {
        RentDivision object();
    }

    /** Everything but the error position: also what an undo brings back and what the buffers hold. */
    static String of(Make make) {
        Picture all = new Picture();
        all.pages(make);
        all.history(make.object());
        all.input(make.object());
        return all.text.toString();
    }

    /** Everything but the buffers and what can be undone. */
    static String ofState(Make make) {
        Picture all = new Picture();
        all.pages(make);
        return all.text.toString();
    }

    static String ofBuffers(Make make) {
        Picture all = new Picture();
        all.output(make.object());
        all.input(make.object());
        return all.text.toString();
    }

    /** The first line that differs, or nothing. */
    static String difference(String got, String want) {
        String[] lines = got.split("\n");
        String[] due = want.split("\n");
        for (int i = 0; i < Math.max(lines.length, due.length); i++) {
            String line = i < lines.length ? lines[i] : "";
            String other = i < due.length ? due[i] : "";
            if (!line.equals(other)) {
                return line + ", due is " + other;
            }
        }
        return "";
    }

    private void pages(Make make) {
        flat(make.object());
        names(make.object());
        people(make.object());
        values(make.object());
        pairs(make.object());
        rooms(make.object());
        lists(make.object());
    }

    private void say(String what, long number) {
        text.append(what).append(" = ").append(number).append('\n');
    }

    private void say(String what, boolean yes) {
        say(what, yes ? 1 : 0);
    }

    private void flat(RentDivision x) {
        say("roomCount", x.roomCount());
        say("personCount", x.personCount());
        say("month", x.month());
        for (int setting = 0; setting < 3; setting++) {
            say("getSetting " + setting, x.getSetting(setting));
        }
        say("lease", x.lease());
        say("deposit", x.deposit());
        say("livingCount", x.livingCount());
        say("planCount", x.planCount());
        say("hasProposal", x.hasProposal());
        say("proposedValue", x.proposedValue());
        say("choiceCount", x.choiceCount());
        say("pricePart", x.pricePart());
        say("leastSurplus", x.leastSurplus());
        for (int percent = 0; percent <= 100; percent += 20) {
            say("affordable " + percent, x.affordable(percent));
            say("leastShare " + percent, x.leastShare(percent));
        }
        say("isCurrent", x.isCurrent());
        say("totalEnvy", x.totalEnvy());
        say("mostEnvied", x.mostEnvied());
        say("missing", x.missing());
        say("arrears", x.arrears());
        say("transferCount", x.transferCount());
    }

    private void names(RentDivision x) {
        for (String name : NAMES) {
            say("roomNamed " + name, x.roomNamed(Check.letters(name)));
            say("personNamed " + name, x.personNamed(Check.letters(name)));
        }
    }

    private void people(RentDivision x) {
        for (int p = 0; p < x.personCount(); p++) {
            say("stateOf " + p, x.stateOf(p));
            say("incomeOf " + p, x.incomeOf(p));
            say("proposedRoom " + p, x.proposedRoom(p));
            say("incomeShare " + p, x.incomeShare(p));
            say("proposedPayment " + p, x.proposedPayment(p));
            say("surplus " + p, x.surplus(p));
            say("roomOf " + p, x.roomOf(p));
            say("payment " + p, x.payment(p));
            say("enviers " + p, x.enviers(p));
            say("burden " + p, Double.doubleToLongBits(x.burden(p)));
            for (int what = 0; what < 3; what++) {
                say("paid " + p + " " + what, x.paid(p, what));
            }
            say("target " + p, x.target(p));
        }
    }

    private void values(RentDivision x) {
        for (int p = 0; p < x.personCount(); p++) {
            for (int r = 0; r < x.roomCount(); r++) {
                say("valueOf " + p + " " + r, x.valueOf(p, r));
                say("refuses " + p + " " + r, x.refuses(p, r));
                say("leastValue " + p + " " + r, x.leastValue(p, r));
            }
        }
    }

    private void pairs(RentDivision x) {
        for (int p = 0; p < x.personCount(); p++) {
            for (int q = 0; q < x.personCount(); q++) {
                say("envyOf " + p + " " + q, x.envyOf(p, q));
                say("wouldSwap " + p + " " + q, x.wouldSwap(p, q));
            }
        }
    }

    private void rooms(RentDivision x) {
        for (int r = 0; r < x.roomCount(); r++) {
            say("extreme low " + r, x.extreme(r, false));
            say("extreme high " + r, x.extreme(r, true));
            say("price " + r, x.price(r));
            say("personIn " + r, x.personIn(r));
        }
    }

    private void lists(RentDivision x) {
        for (int plan = 0; plan < x.planCount(); plan++) {
            for (int what = 0; what < 3; what++) {
                say("plan " + plan + " " + what, x.plan(plan, what));
            }
        }
        for (int transfer = 0; transfer < x.transferCount(); transfer++) {
            for (int what = 0; what < 3; what++) {
                say("transfer " + transfer + " " + what, x.transfer(transfer, what));
            }
        }
    }

    private void output(RentDivision x) {
        for (int at = 0; at == 0 || x.outputAt(at - 1) != RentDivision.NOT_FOUND; at++) {
            say("outputAt " + at, x.outputAt(at));
        }
    }

    /** What each undo answers and brings back, as long as there is one. */
    private void history(RentDivision x) {
        output(x);
        say("undoCount", x.undoCount());
        int left = 0;
        for (int undos = 0; undos < 12 && left >= 0; undos++) {
            left = x.undo();
            say("undo", left);
            say("lease then", x.lease());
            say("living then", x.livingCount());
            say("value then", x.proposedValue());
            say("current then", x.isCurrent());
            say("month then", x.month());
            say("envy then", x.totalEnvy());
            say("transfers then", x.transferCount());
        }
    }

    private void input(RentDivision x) {
        int bytes = x.feed(0x20202020, 0x20202020, 0x20202020, 0x20202020, 0x20202020);
        say("feed", bytes);
        say("load", x.load(bytes == RentDivision.FULL ? 900 : bytes));
        say("error of the load", x.errorPosition());
        say("lease loaded", x.lease());
        say("rooms loaded", x.roomCount());
    }
}
