/**
 * "If several exceptions apply to a call, the one that is listed first is thrown" and "a method that
 * throws an exception changes nothing": each call that is refused, and all that the object tells after it.
 */
final class RefusalTest {
    private static final String INDEX = "throws.IndexOutOfBoundsException";
    private static final String ARGUMENT = "throws.IllegalArgumentException";
    private static final String STATE = "throws.IllegalStateException";
    private static final String NOTHING = "throws.NoSuchElementException";
    private static final int LEAST = Integer.MIN_VALUE;
    private static final int GREATEST = Integer.MAX_VALUE;

    interface Call {
        Object on(LeftistSpooler x);
    }

    private final Telling.Maker maker;
    private final String before;

    private RefusalTest(Telling.Maker maker) {
        this.maker = maker;
        before = Telling.of(maker);
    }

    static void run() {
        RefusalTest busy = new RefusalTest(RefusalTest::busy);
        busy.submitting();
        busy.printing();
        busy.cancelling();
        busy.changingPriority();
        busy.moving();
        busy.merging();
        busy.pausingAndWriting();
        busy.depthsAndPositions();
        busy.positionForecast();
        busy.mergeForecasts();
        busy.answersWithoutAChange();
        new RefusalTest(RefusalTest::full).submittingToFull();
        new RefusalTest(LeftistSpooler::new).undoingAndRestoring();
    }

    /**
     * Two queues, of which slow is paused, and fast has the jobs 3, 2 and 6; job 1 is printed, job 0 is
     * cancelled, all others are in slow. There are 8 changes, a saved state, an output, a text error and an input.
     */
    private static LeftistSpooler busy() {
        LeftistSpooler x = new LeftistSpooler();
        x.printNext(0);
        x.cancel(0);
        x.saveState();
        x.submit(0, 1, 80, 9);
        x.setPaused(1, true);
        x.changePriority(5, 10);
        x.setPaused(0, true);
        x.setPaused(0, false);
        x.submit(1, 0, 30, 3);
        x.changePriority(3, 41);
        x.writeHeap(0);
        Texts.script(x, "cancel 40;");
        Texts.put(x, "submit fast ann 1 1;print fast;cancel 6;");
        return x;
    }

    private static LeftistSpooler full() {
        LeftistSpooler x = busy();
        while (x.jobCount() < 40) {
            x.submit(x.jobCount() % 2, 0, x.jobCount(), 1);
        }
        return x;
    }

    private void refused(String theCase, String exception, Call call) {
        Check.due(theCase, exception, () -> call.on(maker.make()));
        Check.due(theCase + ": all stays as it was", before, () -> Telling.of(() -> {
            LeftistSpooler x = maker.make();
            Check.answerOf(() -> call.on(x));
            return x;
        }));
    }

    private void submitting() {
        Check.begin("promise 48, refused");
        for (int wrong : new int[] {-1, 2, LEAST, GREATEST}) {
            refused("queue " + wrong, INDEX, x -> x.submit(wrong, 0, 0, 1));
            refused("owner " + wrong, INDEX, x -> x.submit(0, wrong, 0, 1));
        }
        for (int wrong : new int[] {-1, 100, LEAST, GREATEST}) {
            refused("priority " + wrong, ARGUMENT, x -> x.submit(0, 0, wrong, 1));
        }
        for (int wrong : new int[] {-1, 0, 100, LEAST, GREATEST}) {
            refused("pages " + wrong, ARGUMENT, x -> x.submit(0, 0, 0, wrong));
        }
        refused("queue before priority", INDEX, x -> x.submit(2, 0, 100, 1));
        refused("queue before pages", INDEX, x -> x.submit(2, 0, 0, 0));
        refused("owner before priority", INDEX, x -> x.submit(0, 2, -1, 1));
        refused("owner before pages", INDEX, x -> x.submit(0, 2, 0, 100));
        refused("all of them", INDEX, x -> x.submit(-1, -1, -1, -1));
    }

    private void submittingToFull() {
        Check.begin("promise 48, refused with 40 jobs");
        refused("40 jobs", STATE, x -> x.submit(0, 0, 0, 1));
        refused("pages before 40 jobs", ARGUMENT, x -> x.submit(0, 0, 0, 0));
        refused("priority before 40 jobs", ARGUMENT, x -> x.submit(0, 0, 100, 1));
        refused("owner before 40 jobs", INDEX, x -> x.submit(0, 2, 0, 1));
        refused("queue before 40 jobs", INDEX, x -> x.submit(2, 0, 0, 1));
        refused("all of them", INDEX, x -> x.submit(2, 2, 100, 100));
    }

    private void printing() {
        Check.begin("promise 49, refused");
        refused("queue -1", INDEX, x -> x.printNext(-1));
        refused("queue 2 of 2", INDEX, x -> x.printNext(2));
        refused("a paused queue", STATE, x -> x.printNext(1));
        RefusalTest merged = new RefusalTest(() -> merged(false));
        merged.refused("an empty queue", STATE, x -> x.printNext(0));
        RefusalTest paused = new RefusalTest(() -> merged(true));
        paused.refused("a paused and empty queue", STATE, x -> x.printNext(0));
    }

    private static LeftistSpooler merged(boolean isPaused) {
        LeftistSpooler x = busy();
        x.mergeQueues(0, 1);
        x.setPaused(0, isPaused);
        return x;
    }

    private void cancelling() {
        Check.begin("promise 50, refused");
        refused("job -1", INDEX, x -> x.cancel(-1));
        refused("job 8 of 8", INDEX, x -> x.cancel(8));
        refused("job 39 of 8", INDEX, x -> x.cancel(39));
        refused("job 40 of 8", INDEX, x -> x.cancel(40));
        refused("a printed job", STATE, x -> x.cancel(1));
        refused("a cancelled job", STATE, x -> x.cancel(0));
    }

    private void changingPriority() {
        Check.begin("promise 51, refused");
        refused("job -1", INDEX, x -> x.changePriority(-1, 0));
        refused("job 8 of 8", INDEX, x -> x.changePriority(8, 0));
        for (int wrong : new int[] {-1, 100, LEAST, GREATEST}) {
            refused("priority " + wrong, ARGUMENT, x -> x.changePriority(2, wrong));
        }
        refused("a printed job", STATE, x -> x.changePriority(1, 0));
        refused("a cancelled job", STATE, x -> x.changePriority(0, 99));
        refused("job before priority", INDEX, x -> x.changePriority(8, 100));
        refused("priority before a printed job", ARGUMENT, x -> x.changePriority(1, 100));
        refused("priority before a cancelled job", ARGUMENT, x -> x.changePriority(0, -1));
    }

    private void moving() {
        Check.begin("promise 52, refused");
        refused("job -1", INDEX, x -> x.moveJob(-1, 0));
        refused("job 8 of 8", INDEX, x -> x.moveJob(8, 0));
        refused("queue -1", INDEX, x -> x.moveJob(2, -1));
        refused("queue 2 of 2", INDEX, x -> x.moveJob(2, 2));
        refused("both", INDEX, x -> x.moveJob(8, 2));
        refused("a printed job", STATE, x -> x.moveJob(1, 1));
        refused("a printed job, the queue it was in", STATE, x -> x.moveJob(1, 0));
        refused("a cancelled job", STATE, x -> x.moveJob(0, 1));
        refused("the job's own queue, a root", STATE, x -> x.moveJob(3, 0));
        refused("the job's own queue, a child", STATE, x -> x.moveJob(2, 0));
        refused("queue before a printed job", INDEX, x -> x.moveJob(1, 2));
        refused("queue before a cancelled job", INDEX, x -> x.moveJob(0, -1));
    }

    private void merging() {
        Check.begin("promise 53, refused");
        refused("from -1", INDEX, x -> x.mergeQueues(-1, 0));
        refused("from 2 of 2", INDEX, x -> x.mergeQueues(2, 0));
        refused("into -1", INDEX, x -> x.mergeQueues(0, -1));
        refused("into 2 of 2", INDEX, x -> x.mergeQueues(0, 2));
        refused("the same queue", ARGUMENT, x -> x.mergeQueues(0, 0));
        refused("the same queue, the last", ARGUMENT, x -> x.mergeQueues(1, 1));
        refused("no such queue before the same queue", INDEX, x -> x.mergeQueues(2, 2));
        refused("no such queue before the same queue, -1", INDEX, x -> x.mergeQueues(-1, -1));
        RefusalTest merged = new RefusalTest(() -> merged(false));
        merged.refused("the same empty queue", ARGUMENT, x -> x.mergeQueues(0, 0));
    }

    private void pausingAndWriting() {
        Check.begin("promise 54, refused");
        refused("queue -1", INDEX, x -> x.setPaused(-1, true));
        refused("queue 2 of 2", INDEX, x -> x.setPaused(2, false));
        Check.begin("promise 56, refused: the output stays");
        refused("queue -1", INDEX, x -> x.writeHeap(-1));
        refused("queue 2 of 2", INDEX, x -> x.writeHeap(2));
    }

    private void depthsAndPositions() {
        Check.begin("promises 25 and 29 to 31, refused");
        for (int wrong : new int[] {-1, 8}) {
            refused("depth of job " + wrong, INDEX, x -> x.depth(wrong));
            refused("positionOf job " + wrong, INDEX, x -> x.positionOf(wrong));
            refused("pagesBefore job " + wrong, INDEX, x -> x.pagesBefore(wrong));
            refused("minutesUntilPrinted of job " + wrong, INDEX, x -> x.minutesUntilPrinted(wrong));
        }
        for (int gone : new int[] {0, 1}) {
            refused("depth of a job that is over, " + gone, STATE, x -> x.depth(gone));
            refused("positionOf a job that is over, " + gone, STATE, x -> x.positionOf(gone));
            refused("pagesBefore a job that is over, " + gone, STATE, x -> x.pagesBefore(gone));
            refused("minutesUntilPrinted of a job that is over, " + gone, STATE, x -> x.minutesUntilPrinted(gone));
        }
    }

    private void positionForecast() {
        Check.begin("promise 44, refused");
        refused("job -1", INDEX, x -> x.positionWith(-1, 0));
        refused("job 8 of 8", INDEX, x -> x.positionWith(8, 0));
        refused("priority -1", ARGUMENT, x -> x.positionWith(2, -1));
        refused("priority 100", ARGUMENT, x -> x.positionWith(2, 100));
        refused("a printed job", STATE, x -> x.positionWith(1, 0));
        refused("a cancelled job", STATE, x -> x.positionWith(0, 99));
        refused("job before priority", INDEX, x -> x.positionWith(8, 100));
        refused("priority before a printed job", ARGUMENT, x -> x.positionWith(1, -1));
        refused("priority before a cancelled job", ARGUMENT, x -> x.positionWith(0, 100));
    }

    private void mergeForecasts() {
        Check.begin("promise 42, refused");
        refused("from 2 of 2", INDEX, x -> x.mergeCost(2, 0));
        refused("into -1", INDEX, x -> x.mergeCost(0, -1));
        refused("the same queue", ARGUMENT, x -> x.mergeCost(1, 1));
        refused("no such queue before the same queue", INDEX, x -> x.mergeCost(2, 2));
        Check.begin("promise 43, refused");
        refused("from 2 of 2", INDEX, x -> x.rankAfterMerge(2, 0));
        refused("into -1", INDEX, x -> x.rankAfterMerge(0, -1));
        refused("the same queue", ARGUMENT, x -> x.rankAfterMerge(0, 0));
        refused("no such queue before the same queue", INDEX, x -> x.rankAfterMerge(-1, -1));
    }

    private void answersWithoutAChange() {
        Check.begin("promise 3, \"false without a change\"");
        refused("length -1", "false", x -> "" + x.truncateInput(-1));
        refused("length 41 of 40", "false", x -> "" + x.truncateInput(41));
        Check.begin("promise 2, \"NONE without a change\"");
        RefusalTest long581 = new RefusalTest(RefusalTest::withLongInput);
        long581.refused("an input of 581 bytes", "-1", x -> "" + x.appendInput(-1, -1, -1, -1, -1));
    }

    private static LeftistSpooler withLongInput() {
        LeftistSpooler x = busy();
        while (x.appendInput(0x20202020, 0x20202020, 0x20202020, 0x20202020, 0x20202020) < 600) {
            continue;
        }
        x.truncateInput(581);
        return x;
    }

    private void undoingAndRestoring() {
        Check.begin("promise 55, refused");
        refused("no change to undo", NOTHING, x -> x.undo());
        Check.begin("promise 59, refused");
        refused("no state is saved", NOTHING, x -> x.restoreState());
    }
}
