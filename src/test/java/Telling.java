/**
 * All that the calls of an object tell, as one text, for tests that something stays as it was.
 * Each part is asked of an object made anew, so that none of them gets beyond its 512 calls.
 */
final class Telling {
    interface Maker {
        LeftistSpooler make();
    }

    private Telling() {
    }

    static String of(Maker maker) {
        return ofTexts(maker) + ofOutput(maker.make()) + ofSpooler(maker);
    }

    /** The reported text error, the length of the input buffer and what is read from it. */
    static String ofTexts(Maker maker) {
        LeftistSpooler x = maker.make();
        return "error " + report(x) + ", buffer " + bufferLength(x) + asScript(maker.make()) + asSetup(maker.make());
    }

    static String ofOutput(LeftistSpooler x) {
        return "\noutput " + Texts.output(x);
    }

    /** All but the texts and the output. */
    static String ofSpooler(Maker maker) {
        return ofNow(maker) + ofPast(maker.make()) + ofSaved(maker.make());
    }

    /** The queues, the owners, the jobs and the counters, without what can be undone or restored. */
    static String ofNow(Maker maker) {
        return ofQueues(maker.make()) + ofOwners(maker.make()) + ofJobs(maker.make()) + ofOrder(maker.make()) + heaps(maker.make());
    }

    static int bufferLength(LeftistSpooler x) {
        int longer = x.appendInput(0, 0, 0, 0, 0);
        if (longer != LeftistSpooler.NONE) {
            x.truncateInput(longer - 20);
            return longer - 20;
        }
        int length = 600;
        while (length > 0 && !x.truncateInput(length)) {
            length--;
        }
        return length;
    }

    static String report(LeftistSpooler x) {
        return x.errorCode() + " " + x.errorOffset();
    }

    private static String asScript(LeftistSpooler x) {
        return "\nas a script " + x.runScript() + " " + report(x) + brief(x);
    }

    private static String asSetup(LeftistSpooler x) {
        return "\nas a setup " + x.loadSetup() + " " + report(x) + brief(x);
    }

    private static String brief(LeftistSpooler x) {
        StringBuilder text = new StringBuilder("\nnow " + x.jobCount() + " " + x.comparisons() + " " + x.swaps());
        for (int q = 0; q < x.queueCount(); q++) {
            text.append(", ").append(x.root(q)).append(' ').append(x.size(q)).append(' ').append(x.waitingPages(q));
            text.append(' ').append(x.printedPages(q)).append(' ').append(x.isPaused(q));
        }
        return text.toString();
    }

    private static String ofQueues(LeftistSpooler x) {
        StringBuilder text = new StringBuilder(brief(x) + " " + x.meanRank() + " " + x.printedPart() + " " + x.leastLoadedQueue());
        for (int q = 0; q < x.queueCount(); q++) {
            text.append("\nqueue ").append(q).append(' ').append(x.speed(q)).append(' ');
            for (int i = 0; i < 6; i++) {
                text.append(x.queueNameByte(q, i)).append(' ');
            }
        }
        return text.toString();
    }

    private static String ofOwners(LeftistSpooler x) {
        StringBuilder text = new StringBuilder();
        for (int o = 0; o < x.ownerCount(); o++) {
            text.append("\nowner ").append(o).append(' ').append(x.waitingPagesOfOwner(o)).append(' ').append(x.printedPagesOfOwner(o)).append(' ');
            for (int i = 0; i < 6; i++) {
                text.append(x.ownerNameByte(o, i)).append(' ');
            }
        }
        return text.toString();
    }

    private static String ofJobs(LeftistSpooler x) {
        StringBuilder text = new StringBuilder();
        for (int j = 0; j < x.jobCount(); j++) {
            text.append("\njob ").append(j).append(' ').append(x.queueOf(j)).append(' ').append(x.ownerOf(j));
            text.append(' ').append(x.priority(j)).append(' ').append(x.pages(j)).append(' ').append(x.isPrinted(j));
            text.append(' ').append(x.isCancelled(j)).append(' ').append(x.parent(j)).append(' ').append(x.rank(j));
        }
        return text.toString();
    }

    private static String ofOrder(LeftistSpooler x) {
        StringBuilder text = new StringBuilder();
        for (int j = 0; j < x.jobCount(); j++) {
            int job = j;
            text.append("\nbefore ").append(j).append(' ').append(Check.answerOf(() -> x.positionOf(job)));
            text.append(' ').append(Check.answerOf(() -> x.pagesBefore(job))).append(' ').append(Check.answerOf(() -> x.minutesUntilPrinted(job)));
        }
        return text.toString();
    }

    static String heaps(LeftistSpooler x) {
        StringBuilder text = new StringBuilder("\nheaps");
        for (int q = 0; q < x.queueCount(); q++) {
            text.append(' ').append(Texts.heap(x, q));
        }
        return text.toString();
    }

    private static String ofPast(LeftistSpooler x) {
        StringBuilder text = new StringBuilder();
        Object left = Check.answerOf(() -> x.undo());
        while (left instanceof Integer) {
            text.append("\nundo ").append(left).append(brief(x));
            left = Check.answerOf(() -> x.undo());
        }
        return text.append("\nundo ").append(left).append(heaps(x)).toString();
    }

    private static String ofSaved(LeftistSpooler x) {
        return "\nrestore " + Check.answerOf(() -> x.restoreState()) + brief(x) + heaps(x);
    }
}
