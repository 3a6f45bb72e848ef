import java.nio.charset.StandardCharsets;

/** What the tests share: comparing answers, feeding texts and naming in letters. */
final class Check {
    private static int right = 0;
    private static int wrong = 0;
    private static String about = "";

    private Check() {
    }

    interface Call {
        long answer();
    }

    /** What is told ahead of each answer that is not due. */
    static void about(String what) {
        about = what;
    }

    static int answers() {
        return right + wrong;
    }

    static void due(String what, long got, long want) {
        if (got == want) {
            right++;
            return;
        }
        wrong++;
        if (wrong <= 50) {
            System.out.println(about + what + " answered " + got + ", due is " + want);
        }
    }

    static void due(String what, boolean got, boolean want) {
        due(what, got ? 1 : 0, want ? 1 : 0);
    }

    static void dueDouble(String what, double got, double want) {
        due(what + " (" + got + ", due is " + want + ")", Double.doubleToLongBits(got), Double.doubleToLongBits(want));
    }

    static void dueText(String what, String got, String want) {
        due(what + " '" + got + "' equals '" + want + "'", got.equals(want), true);
    }

    /** The call must throw just an IndexOutOfBoundsException that the program itself throws. */
    static void dueThrow(String what, Call call) {
        try {
            due(what + " throws, but answered " + call.answer(), false, true);
        } catch (IndexOutOfBoundsException e) {
            due(what + " throws IndexOutOfBoundsException", e.getClass() == IndexOutOfBoundsException.class, true);
        }
    }

    static byte[] bytes(String text) {
        return text.getBytes(StandardCharsets.ISO_8859_1);
    }

    private static int fourBytes(byte[] text, int from) {
        int four = 0;
        for (int i = from; i < from + 4; i++) {
            four = four << 8 | (i < text.length ? text[i] & 255 : ' ');
        }
        return four;
    }

    /** Feeds a text, filled up by spaces to a multiple of 20, and returns the last answer of feed. */
    static int feed(RentDivision x, String text) {
        byte[] bytes = bytes(text);
        int answer = 0;
        for (int from = 0; from < bytes.length; from += 20) {
            answer = x.feed(fourBytes(bytes, from), fourBytes(bytes, from + 4), fourBytes(bytes, from + 8),
                    fourBytes(bytes, from + 12), fourBytes(bytes, from + 16));
        }
        return answer;
    }

    static int load(RentDivision x, String text) {
        feed(x, text);
        return x.load(text.length());
    }

    static RentDivision loaded(String text) {
        RentDivision x = new RentDivision();
        int answer = load(x, text);
        due("load of '" + text + "' has no error", answer >= 0, true);
        return x;
    }

    static int letters(String name) {
        int letters = 0;
        for (int i = 0; i < 6; i++) {
            letters = letters * 32 + (i < name.length() ? name.charAt(i) - 'a' + 1 : 0);
        }
        return letters;
    }

    static String output(RentDivision x, int length) {
        StringBuilder text = new StringBuilder();
        for (int i = 0; i < length; i++) {
            text.append((char) x.outputAt(i));
        }
        return text.toString();
    }

    static void end(String test) {
        System.out.println(test + ": " + right + " answers as due, " + wrong + " not");
        if (wrong != 0 || right == 0) {
            System.exit(1);
        }
    }
}
