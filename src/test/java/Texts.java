/** Puts texts into the input buffer of a spooler and reads its output. */
final class Texts {
    private Texts() {
    }

    /** Appends a text to the input, filled up with spaces that are truncated again. */
    static void put(LeftistSpooler x, String text) {
        int length = x.appendInput(0, 0, 0, 0, 0) - 20;
        x.truncateInput(length);
        StringBuilder padded = new StringBuilder(text);
        while (padded.length() % 20 != 0) {
            padded.append(' ');
        }
        for (int i = 0; i < padded.length(); i += 20) {
            x.appendInput(four(padded, i), four(padded, i + 4), four(padded, i + 8), four(padded, i + 12), four(padded, i + 16));
        }
        x.truncateInput(length + text.length());
    }

    private static int four(CharSequence text, int at) {
        return text.charAt(at) << 24 | text.charAt(at + 1) << 16 | text.charAt(at + 2) << 8 | text.charAt(at + 3);
    }

    static int setup(LeftistSpooler x, String text) {
        put(x, text);
        return x.loadSetup();
    }

    static int script(LeftistSpooler x, String text) {
        put(x, text);
        return x.runScript();
    }

    static LeftistSpooler of(String setup) {
        LeftistSpooler x = new LeftistSpooler();
        if (setup(x, setup) < 0) {
            throw new IllegalArgumentException("a test's setup is not valid: " + setup);
        }
        return x;
    }

    /** The result of reading a setup: its answer, the error's code and offset. */
    static String setupResult(String text) {
        LeftistSpooler x = new LeftistSpooler();
        return setup(x, text) + " " + x.errorCode() + " " + x.errorOffset();
    }

    static String scriptResult(String text) {
        LeftistSpooler x = new LeftistSpooler();
        return script(x, text) + " " + x.errorCode() + " " + x.errorOffset();
    }

    static String output(LeftistSpooler x) {
        StringBuilder text = new StringBuilder();
        int sign = x.outputByte(0);
        while (sign != LeftistSpooler.NONE) {
            text.append((char) sign);
            sign = x.outputByte(text.length());
        }
        return text.toString();
    }

    static String heap(LeftistSpooler x, int queue) {
        int length = x.writeHeap(queue);
        String text = output(x);
        return text.length() == length ? text : "length " + length + " of " + text;
    }
}
