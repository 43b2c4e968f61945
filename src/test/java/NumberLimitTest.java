/**
 * "A number that is not that of a queue, an owner or a job causes an IndexOutOfBoundsException":
 * every call that takes such a number, for the fewest and the most of them that there can be.
 */
final class NumberLimitTest {
    private static final String INDEX = "throws.IndexOutOfBoundsException";
    private static final String SIX = "queue a1;queue b1;queue c1;queue d1;queue e1;queue f1;";
    private static final String EIGHT = "owner a;owner b;owner c;owner d;owner e;owner f;owner g;owner h;";

    interface OfOne {
        Object answer(LeftistSpooler x, int number);
    }

    private record Named(String promise, OfOne call) {
    }

    private static final Named[] OF_QUEUE = {
        new Named("11, queueNameByte", (x, n) -> x.queueNameByte(n, 0)), new Named("20, root", (x, n) -> x.root(n)),
        new Named("26, height", (x, n) -> x.height(n)), new Named("27, size", (x, n) -> x.size(n)),
        new Named("28, jobAt", (x, n) -> x.jobAt(n, 0)), new Named("32, waitingPages", (x, n) -> x.waitingPages(n)),
        new Named("33, printedPages", (x, n) -> x.printedPages(n)), new Named("34, speed", (x, n) -> x.speed(n)),
        new Named("35, isPaused", (x, n) -> x.isPaused(n)), new Named("39, printingObstacle", (x, n) -> x.printingObstacle(n)),
        new Named("42, mergeCost from", (x, n) -> x.mergeCost(n, 0)), new Named("42, mergeCost into", (x, n) -> x.mergeCost(0, n)),
        new Named("42, mergeCost of the same", (x, n) -> x.mergeCost(n, n)),
        new Named("43, rankAfterMerge from", (x, n) -> x.rankAfterMerge(n, 0)),
        new Named("43, rankAfterMerge into", (x, n) -> x.rankAfterMerge(0, n)),
        new Named("43, rankAfterMerge of the same", (x, n) -> x.rankAfterMerge(n, n)),
        new Named("48, submit", (x, n) -> x.submit(n, 0, 0, 1)), new Named("49, printNext", (x, n) -> x.printNext(n)),
        new Named("53, mergeQueues from", (x, n) -> x.mergeQueues(n, 0)), new Named("53, mergeQueues into", (x, n) -> x.mergeQueues(0, n)),
        new Named("53, mergeQueues of the same", (x, n) -> x.mergeQueues(n, n)),
        new Named("54, setPaused", (x, n) -> x.setPaused(n, true)), new Named("56, writeHeap", (x, n) -> x.writeHeap(n))};

    private static final Named[] OF_OWNER = {
        new Named("12, ownerNameByte", (x, n) -> x.ownerNameByte(n, 0)),
        new Named("37, waitingPagesOfOwner", (x, n) -> x.waitingPagesOfOwner(n)),
        new Named("38, printedPagesOfOwner", (x, n) -> x.printedPagesOfOwner(n)), new Named("48, submit", (x, n) -> x.submit(0, n, 0, 1))};

    private static final Named[] OF_JOB = {
        new Named("13, queueOf", (x, n) -> x.queueOf(n)), new Named("14, ownerOf", (x, n) -> x.ownerOf(n)),
        new Named("15, priority", (x, n) -> x.priority(n)), new Named("16, pages", (x, n) -> x.pages(n)),
        new Named("17, isWaiting", (x, n) -> x.isWaiting(n)), new Named("18, isPrinted", (x, n) -> x.isPrinted(n)),
        new Named("19, isCancelled", (x, n) -> x.isCancelled(n)), new Named("21, leftChild", (x, n) -> x.leftChild(n)),
        new Named("22, rightChild", (x, n) -> x.rightChild(n)), new Named("23, parent", (x, n) -> x.parent(n)),
        new Named("24, rank", (x, n) -> x.rank(n)), new Named("25, depth", (x, n) -> x.depth(n)),
        new Named("29, positionOf", (x, n) -> x.positionOf(n)), new Named("30, pagesBefore", (x, n) -> x.pagesBefore(n)),
        new Named("31, minutesUntilPrinted", (x, n) -> x.minutesUntilPrinted(n)),
        new Named("44, positionWith", (x, n) -> x.positionWith(n, 0)), new Named("50, cancel", (x, n) -> x.cancel(n)),
        new Named("51, changePriority", (x, n) -> x.changePriority(n, 0)), new Named("52, moveJob", (x, n) -> x.moveJob(n, 0))};

    private NumberLimitTest() {
    }

    static void run() {
        ofQueues();
        ofOwners();
        ofJobs();
        targetOfMove();
        jobsThatCameAndWent();
        jobsThatWereUndone();
    }

    /** Asks each call, on objects of a setup with count queues, owners or jobs, for the numbers round the count. */
    private static void asked(Named[] calls, String setup, int count) {
        for (Named each : calls) {
            Check.begin("promise " + each.promise + ", " + count + " there");
            for (int wrong : new int[] {-1, count, Integer.MIN_VALUE, Integer.MAX_VALUE}) {
                Check.due("number " + wrong, INDEX, () -> each.call.answer(Texts.of(setup), wrong));
            }
            for (int right = 0; right < count; right++) {
                int number = right;
                Check.due("number " + right + " is refused as none", false,
                    () -> INDEX.equals(Check.answerOf(() -> each.call.answer(Texts.of(setup), number))));
            }
        }
    }

    private static void ofQueues() {
        asked(OF_QUEUE, "queue a1;owner a;job a a 1 1;", 1);
        asked(OF_QUEUE, SIX + "owner a;job a a 1 1;job f a 1 1;", 6);
    }

    private static void ofOwners() {
        asked(OF_OWNER, "queue a1;owner a;", 1);
        asked(OF_OWNER, "queue a1;" + EIGHT, 8);
    }

    private static void ofJobs() {
        asked(OF_JOB, "queue a1;owner a;", 0);
        asked(OF_JOB, "queue a1;owner a;job a a 1 1;", 1);
        asked(OF_JOB, "queue a1;owner a;" + "job a a1 1;".repeat(39), 39);
        asked(OF_JOB, "queue a1;owner a;" + "job a a1 1;".repeat(40), 40);
    }

    private static void targetOfMove() {
        Check.begin("promise 52, moveJob, the queue's number");
        String setup = SIX + "owner a;job c a1 1;";
        for (int wrong : new int[] {-1, 6, Integer.MIN_VALUE, Integer.MAX_VALUE}) {
            Check.due("queue " + wrong + " of 6", INDEX, () -> Texts.of(setup).moveJob(0, wrong));
        }
        Check.due("queue 0 of 6, the first", 0, () -> Texts.of(setup).moveJob(0, 0));
        Check.due("queue 5 of 6, the last", 0, () -> Texts.of(setup).moveJob(0, 5));
        Check.due("queue 1 of 1", INDEX, () -> Texts.of("queue a1;owner a;job a a1 1;").moveJob(0, 1));
    }

    private static void jobsThatCameAndWent() {
        Check.begin("promises 14 to 19, \"the number ... is never used again\"");
        LeftistSpooler x = new LeftistSpooler();
        x.printNext(0);
        x.cancel(0);
        Check.due("a printed job is a job", "1 30 4 true", () -> x.ownerOf(1) + " " + x.priority(1) + " " + x.pages(1) + " " + x.isPrinted(1));
        Check.due("a cancelled job is a job", "0 50 10 true", () -> x.ownerOf(0) + " " + x.priority(0) + " " + x.pages(0) + " " + x.isCancelled(0));
        Check.due("the next number after a printed and a cancelled one", 6, () -> x.submit(0, 0, 0, 1));
        Check.due("the next number after the latest was cancelled", "0 7", () -> {
            int left = x.cancel(6) - x.size(0);
            return left + " " + x.submit(0, 0, 0, 1);
        });
    }

    private static void jobsThatWereUndone() {
        Check.begin("promises 10 and 13, a submit that was undone");
        LeftistSpooler x = new LeftistSpooler();
        x.saveState();
        x.submit(0, 0, 0, 1);
        Check.due("the job is there", "7 0", () -> x.jobCount() + " " + x.queueOf(6));
        x.undo();
        Check.due("there is no such job", "6 " + INDEX, () -> x.jobCount() + " " + Check.answerOf(() -> x.queueOf(6)));
        x.submit(1, 1, 99, 99);
        Check.due("the number's new job", "1 1 99 99 true", () -> x.queueOf(6) + " " + x.ownerOf(6) + " " + x.priority(6) + " " + x.pages(6)
            + " " + x.isWaiting(6));
        x.restoreState();
        Check.due("none after restoring", "6 " + INDEX, () -> x.jobCount() + " " + Check.answerOf(() -> x.queueOf(6)));
    }
}
