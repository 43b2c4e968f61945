/** The code that README.md shows; UsageTest checks what it answers and that README.md shows just this. */
final class Usage {
    private Usage() {
    }

    static String makeAndChange() {
        // README: make
        LeftistSpooler spooler = new LeftistSpooler();
        int job = spooler.submit(0, 1, 25, 12);     // 6: queue 0, owner 1, priority 25, 12 pages
        int printed = spooler.printNext(0);         // 6: its priority is the smallest of queue 0
        int left = spooler.undo();                  // 1: the job waits again; submit can still be undone
        int length = spooler.writeHeap(0);          // 14: the output is 6(1(0,3(2,)),)
        int first = spooler.outputByte(0);          // 54: the byte of the digit 6
        // README: end
        return job + " " + printed + " " + left + " " + length + " " + first + " " + Texts.output(spooler);
    }

    // README: put
    /** Puts a text into the empty input buffer; answers false if it does not fit. */
    static boolean put(LeftistSpooler spooler, String text) {
        String padded = text + " ".repeat(19);
        for (int i = 0; i < text.length(); i += 20) {
            int length = spooler.appendInput(four(padded, i), four(padded, i + 4), four(padded, i + 8),
                four(padded, i + 12), four(padded, i + 16));
            if (length == LeftistSpooler.NONE) {
                return false;
            }
        }
        return spooler.truncateInput(text.length());
    }

    static int four(String text, int at) {
        return text.charAt(at) << 24 | text.charAt(at + 1) << 16 | text.charAt(at + 2) << 8 | text.charAt(at + 3);
    }
    // README: end

    static String readTexts() {
        // README: read
        LeftistSpooler spooler = new LeftistSpooler();
        put(spooler, "queue a 10;queue b 5;owner eva;job a eva 7 30;");
        int jobs = spooler.loadSetup();             // 1: the number of jobs; the setup replaces the former one
        put(spooler, "submit b eva 3 20;print a;");
        int executed = spooler.runScript();         // 2: both statements, which are one change together
        put(spooler, "pause b;cancel 9;print b;");
        int stopped = spooler.runScript();          // 1: ends before cancel, as there is no job 9
        put(spooler, "print c;");
        int invalid = spooler.runScript();          // NONE: nothing is executed
        int code = spooler.errorCode();             // BAD_NAME: no queue is named c
        int offset = spooler.errorOffset();         // 6: where the name begins
        // README: end
        String answers = jobs + " " + executed + " " + stopped + " " + invalid + " " + code + " " + offset;
        return answers + " " + spooler.isPaused(1) + " " + spooler.undo() + " " + spooler.isPaused(1);
    }

    static String refuse() {
        // README: refuse
        LeftistSpooler spooler = new LeftistSpooler();
        spooler.setPaused(1, true);
        boolean refused = false;
        try {
            spooler.printNext(1);
        } catch (IllegalStateException e) {
            refused = true;                         // printingObstacle(1) is PAUSED
        }
        int left = spooler.undo();                  // 0: it undoes setPaused, as the refused call is no change
        // README: end
        return refused + " " + left + " " + spooler.isPaused(1);
    }

    static String save() {
        // README: save
        LeftistSpooler spooler = new LeftistSpooler();
        int saved = spooler.saveState();            // 6: the number of jobs
        spooler.mergeQueues(0, 1);
        spooler.submit(0, 0, 1, 1);
        int restored = spooler.restoreState();      // 6: the queues and jobs are as they were
        // README: end
        return saved + " " + restored + " " + spooler.size(0) + " " + spooler.size(1) + " "
            + Check.answerOf(() -> spooler.undo());
    }
}
