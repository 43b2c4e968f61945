/** Promises 2 and 3 and the bytes of a text, at each limit that the document names. */
final class BufferLimitTest {
    // "queu" "e a " "1;ow" "ner " "b;  "
    private static final int[] SETUP = {0x71756575, 0x65206120, 0x313b6f77, 0x6e657220, 0x623b2020};
    private static final int BLANKS = 0x20202020;

    private BufferLimitTest() {
    }

    static void run() {
        appendingUpToTheLimit();
        appendingBeyondTheLimit();
        refusedAppending();
        orderOfTheBytes();
        truncating();
        refusedTruncating();
        truncatedBytesAreGone();
        everyByteAfterAStatement();
        everyByteWithinAName();
        highBytesOfAWord();
    }

    /** An object whose buffer has this length and holds blanks. */
    private static LeftistSpooler filled(int length) {
        LeftistSpooler x = new LeftistSpooler();
        for (int n = 0; n < length; n += 20) {
            x.appendInput(BLANKS, BLANKS, BLANKS, BLANKS, BLANKS);
        }
        x.truncateInput(length);
        return x;
    }

    private static int appended(LeftistSpooler x) {
        return x.appendInput(BLANKS, BLANKS, BLANKS, BLANKS, BLANKS);
    }

    private static void appendingUpToTheLimit() {
        Check.begin("promise 2, \"returns the new length of the buffer\"");
        Check.due("to an empty buffer", 20, () -> appended(filled(0)));
        Check.due("to one byte", 21, () -> appended(filled(1)));
        Check.due("the new length is 599", 599, () -> appended(filled(579)));
        Check.due("the new length is 600, the greatest", 600, () -> appended(filled(580)));
    }

    private static void appendingBeyondTheLimit() {
        Check.begin("promise 2, \"NONE ... if the length would exceed 600\"");
        Check.due("the length would be 601", -1, () -> appended(filled(581)));
        Check.due("the length would be 619", -1, () -> appended(filled(599)));
        Check.due("the length would be 620, the buffer is full", -1, () -> appended(filled(600)));
    }

    private static void refusedAppending() {
        Check.begin("promise 2, \"without a change\"");
        for (int length : new int[] {581, 590, 599, 600}) {
            LeftistSpooler x = filled(0);
            x.appendInput(SETUP[0], SETUP[1], SETUP[2], SETUP[3], SETUP[4]);
            while (appended(x) < 600) {
                continue;
            }
            x.truncateInput(length);
            x.appendInput(-1, -1, -1, -1, -1);
            Check.due("the length stays " + length, length, () -> Telling.bufferLength(x));
            Check.due("the bytes stay, " + length + " of them", "0 0 -1", () -> x.loadSetup() + " " + Telling.report(x));
        }
        Check.due("a further refusal", "-1 -1 600", () -> {
            LeftistSpooler x = filled(600);
            return appended(x) + " " + appended(x) + " " + Telling.bufferLength(x);
        });
    }

    private static void orderOfTheBytes() {
        Check.begin("promise 2, \"the four bytes of each parameter, most significant byte first\"");
        Check.due("a to e and the four bytes of each", "0 0 -1 97 98", () -> {
            LeftistSpooler x = new LeftistSpooler();
            x.appendInput(SETUP[0], SETUP[1], SETUP[2], SETUP[3], SETUP[4]);
            return x.loadSetup() + " " + Telling.report(x) + " " + x.queueNameByte(0, 0) + " " + x.ownerNameByte(0, 0);
        });
        // A wrong byte at each of the 20 places is found at its own offset.
        for (int at = 0; at < 20; at++) {
            int[] bytes = {BLANKS, BLANKS, BLANKS, BLANKS, BLANKS};
            int shift = 24 - at % 4 * 8;
            bytes[at / 4] = BLANKS & ~(255 << shift) | '#' << shift;
            Check.due("byte " + at, "-1 1 " + at, () -> {
                LeftistSpooler x = new LeftistSpooler();
                x.appendInput(bytes[0], bytes[1], bytes[2], bytes[3], bytes[4]);
                return x.loadSetup() + " " + Telling.report(x);
            });
        }
    }

    private static void truncating() {
        Check.begin("promise 3, \"returns true, or false ... if length is negative or greater than the current length\"");
        int[] lengths = {0, 1, 20, 580, 600};
        for (int length : lengths) {
            Check.due(length + " to 0, the least", true, () -> filled(length).truncateInput(0));
            Check.due(length + " to -1", false, () -> filled(length).truncateInput(-1));
            Check.due(length + " to the least int", false, () -> filled(length).truncateInput(Integer.MIN_VALUE));
            Check.due(length + " to itself, the greatest", true, () -> filled(length).truncateInput(length));
            Check.due(length + " to one more", false, () -> filled(length).truncateInput(length + 1));
            Check.due(length + " to the greatest int", false, () -> filled(length).truncateInput(Integer.MAX_VALUE));
        }
        Check.due("600 to 599", true, () -> filled(600).truncateInput(599));
        Check.due("20 to 600, which a buffer may have", false, () -> filled(20).truncateInput(600));
        Check.due("after a text was read, to 1", false, () -> {
            LeftistSpooler x = filled(600);
            x.runScript();
            return x.truncateInput(1);
        });
    }

    private static void refusedTruncating() {
        Check.begin("promise 3, \"false without a change\"");
        for (int wrong : new int[] {-1, 19, 600, Integer.MIN_VALUE, Integer.MAX_VALUE}) {
            Check.due("18 to " + wrong, 18, () -> {
                LeftistSpooler x = filled(18);
                x.truncateInput(wrong);
                return Telling.bufferLength(x);
            });
        }
        Check.due("600 to 601", 600, () -> {
            LeftistSpooler x = filled(600);
            x.truncateInput(601);
            return Telling.bufferLength(x);
        });
    }

    private static void truncatedBytesAreGone() {
        Check.begin("promise 3, \"truncates the input buffer\"");
        Check.due("to 0, then a text", "0 0 -1", () -> {
            LeftistSpooler x = new LeftistSpooler();
            x.appendInput(-1, -1, -1, -1, -1);
            x.truncateInput(0);
            x.appendInput(SETUP[0], SETUP[1], SETUP[2], SETUP[3], SETUP[4]);
            return x.loadSetup() + " " + Telling.report(x);
        });
        Check.due("to 17: the last semicolon is gone", "-1 1 17", () -> {
            LeftistSpooler x = new LeftistSpooler();
            x.appendInput(SETUP[0], SETUP[1], SETUP[2], SETUP[3], SETUP[4]);
            x.truncateInput(17);
            return x.loadSetup() + " " + Telling.report(x);
        });
    }

    private static boolean isLetter(int sign) {
        return sign >= 'a' && sign <= 'z';
    }

    private static boolean isDigit(int sign) {
        return sign >= '0' && sign <= '9';
    }

    private static boolean isBlank(int sign) {
        return sign == 32 || sign == 10;
    }

    private static void everyByteAfterAStatement() {
        Check.begin("promise 4, \"spaces (byte 32) and line feeds (byte 10)\"; \"a byte that starts no token\"");
        for (int sign = 0; sign < 256; sign++) {
            // A letter is a word that is no statement's; a digit and a semicolon cannot stand here.
            String due = isBlank(sign) ? "0 0 -1" : "-1 1 18";
            String text = "queue a 1;owner b;" + (char) sign;
            Check.due("byte " + sign + " after a setup", due, () -> Texts.setupResult(text));
            String script = "pause fast;" + (char) sign;
            String dueOfScript = isBlank(sign) ? "1 0 -1" : "-1 1 11";
            Check.due("byte " + sign + " after a script", dueOfScript, () -> Texts.scriptResult(script));
        }
    }

    private static void everyByteWithinAName() {
        Check.begin("promise 4, \"a maximal run of lower-case letters\", \"of digits\"");
        for (int sign = 0; sign < 256; sign++) {
            boolean isGood = isLetter(sign) || isBlank(sign) || isDigit(sign) && sign < '5';
            String due = isGood ? "0 0 -1" : isDigit(sign) ? "-1 2 7" : "-1 1 7";
            String text = "queue a" + (char) sign + "1;owner b;";
            Check.due("byte " + sign + " after a name", due, () -> Texts.setupResult(text));
        }
        for (int sign = 0; sign < 256; sign++) {
            String due = isLetter(sign) ? "0 0 -1" : "-1 1 " + (isBlank(sign) ? 9 : 6);
            String text = "queue " + (char) sign + "  1;owner b;";
            Check.due("byte " + sign + " as a name", due, () -> Texts.setupResult(text));
        }
    }

    private static void highBytesOfAWord() {
        Check.begin("promise 4, a byte above 127 is no letter, digit or blank");
        for (char plain : new char[] {'a', 'z', '0', '9', ';', ' ', '\n'}) {
            String text = "queue a 1;owner b;" + (char) (plain + 128);
            Check.due("byte " + (plain + 128), "-1 1 18", () -> Texts.setupResult(text));
        }
    }
}
