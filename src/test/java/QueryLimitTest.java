/** Promises 1 and 8 to 47: the answers at each limit that the document names. */
final class QueryLimitTest {
    private static final String STATE = "throws.IllegalStateException";
    private static final String ARGUMENT = "throws.IllegalArgumentException";
    private static final String NOTHING = "throws.NoSuchElementException";
    private static final String NONE_YET = "queue a1;queue b50;owner o;owner p;";

    private QueryLimitTest() {
    }

    static void run() {
        newObject();
        counts();
        letters();
        notWaiting();
        emptyQueue();
        singleJob();
        fullQueue();
        positions();
        equalPriorities();
        minutes();
        pagesOfQueues();
        leastLoaded();
        pagesOfOwners();
        obstacles();
        forecastsOfMerging();
        forecastsComeTrue();
        forecastOfAPosition();
        meanRank();
        printedPart();
        consistency();
        lastCall();
    }

    private static void newObject() {
        Check.begin("promise 1, \"with an empty input buffer\"");
        LeftistSpooler x = new LeftistSpooler();
        Check.due("the buffer", 0, () -> Telling.bufferLength(x));
        Check.due("no error is reported", "0 -1", () -> Telling.report(x));
        Check.due("no output", -1, () -> x.outputByte(0));
        Check.due("no change", NOTHING, () -> x.undo());
        Check.due("no saved state", NOTHING, () -> x.restoreState());
        Check.due("no queue is paused", "false false", () -> x.isPaused(0) + " " + x.isPaused(1));
        Check.due("all counters are 0", "0 0 0 0", () -> x.comparisons() + " " + x.swaps() + " " + x.printedPages(0) + " " + x.printedPages(1));
        String setup = "queue fast 20;queue slow 5;owner ann;owner bob;job fast ann 50 10;job fast bob 30 4;job fast ann 70 25;"
            + "job fast bob 40 8;job slow ann 20 3;job slow bob 60 6;";
        Check.due("all is as after this setup", Telling.of(() -> Texts.of(setup)), () -> Telling.of(LeftistSpooler::new));
        Check.due("two objects share nothing", Telling.of(LeftistSpooler::new), () -> {
            Texts.setup(x, NONE_YET);
            return Telling.of(LeftistSpooler::new);
        });
    }

    private static void counts() {
        Check.begin("promises 8 to 10");
        Check.due("the fewest", "1 1 0", () -> {
            LeftistSpooler x = Texts.of("queue a1;owner o;");
            return x.queueCount() + " " + x.ownerCount() + " " + x.jobCount();
        });
        Check.due("jobs that were ever submitted: waiting, printed, cancelled", "6 6 6", () -> {
            LeftistSpooler x = new LeftistSpooler();
            int first = x.jobCount();
            x.printNext(0);
            int second = x.jobCount();
            x.cancel(0);
            return first + " " + second + " " + x.jobCount();
        });
        Check.due("40 jobs, all over", "40 40", () -> {
            LeftistSpooler x = Texts.of("queue a1;owner o;" + "job a o1 1;".repeat(40));
            int waiting = x.jobCount();
            for (int n = 0; n < 40; n++) {
                x.printNext(0);
            }
            return waiting + " " + x.jobCount();
        });
    }

    private static void letters() {
        Check.begin("promises 11 and 12, \"NONE if the name has no letter with this index\"");
        LeftistSpooler x = Texts.of("queue a1;queue abcdef1;queue z1;owner z;owner uvwxyz;");
        Check.due("a queue's first letter, a name of 1", 97, () -> x.queueNameByte(0, 0));
        Check.due("a queue's second letter, a name of 1", -1, () -> x.queueNameByte(0, 1));
        Check.due("a queue's sixth letter, a name of 6", 102, () -> x.queueNameByte(1, 5));
        Check.due("a queue's seventh letter, a name of 6", -1, () -> x.queueNameByte(1, 6));
        Check.due("an owner's first letter, a name of 1", 122, () -> x.ownerNameByte(0, 0));
        Check.due("an owner's second letter, a name of 1", -1, () -> x.ownerNameByte(0, 1));
        Check.due("an owner's sixth letter, a name of 6", 122, () -> x.ownerNameByte(1, 5));
        Check.due("an owner's seventh letter, a name of 6", -1, () -> x.ownerNameByte(1, 6));
        for (int index : new int[] {-1, 7, 8, 9, 256, Integer.MIN_VALUE, Integer.MAX_VALUE}) {
            Check.due("a queue's letter " + index, -1, () -> x.queueNameByte(1, index));
            Check.due("an owner's letter " + index, -1, () -> x.ownerNameByte(1, index));
        }
        Check.due("no such queue and no such letter", "throws.IndexOutOfBoundsException", () -> x.queueNameByte(3, 6));
        Check.due("no such owner and no such letter", "throws.IndexOutOfBoundsException", () -> x.ownerNameByte(2, 6));
        Check.due("a shorter name at the place of a longer one", "-1 -1", () -> {
            LeftistSpooler y = Texts.of("queue abcdef1;owner uvwxyz;");
            Texts.setup(y, "queue a1;owner u;");
            return y.queueNameByte(0, 1) + " " + y.ownerNameByte(0, 1);
        });
    }

    private static void notWaiting() {
        LeftistSpooler x = new LeftistSpooler();
        x.printNext(0);
        x.cancel(3);
        int[] gone = {1, 3};
        for (int job : gone) {
            String how = job == 1 ? "a printed job" : "a cancelled job";
            Check.begin("promise 13, \"NONE if the job is not waiting\"");
            Check.due(how, -1, () -> x.queueOf(job));
            Check.begin("promises 17 to 19");
            Check.due(how, job == 1 ? "false true false" : "false false true",
                () -> x.isWaiting(job) + " " + x.isPrinted(job) + " " + x.isCancelled(job));
            Check.begin("promises 21 to 24, \"or the job is not waiting\"");
            Check.due(how, "-1 -1 -1 0", () -> x.leftChild(job) + " " + x.rightChild(job) + " " + x.parent(job) + " " + x.rank(job));
            Check.begin("promises 25, 29, 30, 31, 44: \"IllegalStateException if the job is not waiting\"");
            Check.due("depth of " + how, STATE, () -> x.depth(job));
            Check.due("positionOf " + how, STATE, () -> x.positionOf(job));
            Check.due("pagesBefore " + how, STATE, () -> x.pagesBefore(job));
            Check.due("minutesUntilPrinted of " + how, STATE, () -> x.minutesUntilPrinted(job));
            Check.due("positionWith of " + how, STATE, () -> x.positionWith(job, 0));
        }
        Check.begin("promises 17 to 19, \"waiting in exactly one queue until it is printed or cancelled\"");
        Check.due("a job that waits", "true false false 0", () -> x.isWaiting(0) + " " + x.isPrinted(0) + " " + x.isCancelled(0) + " " + x.queueOf(0));
    }

    private static void emptyQueue() {
        LeftistSpooler x = Texts.of(NONE_YET);
        Check.begin("promise 20, \"NONE if the queue is empty\"");
        Check.due("never a job", -1, () -> x.root(0));
        Check.begin("promise 26, \"or 0 if the queue is empty\"");
        Check.due("never a job", 0, () -> x.height(0));
        Check.begin("promises 27, 28, 32, 33 and 56, an empty queue");
        Check.due("size", 0, () -> x.size(0));
        Check.due("jobAt 0", -1, () -> x.jobAt(0, 0));
        Check.due("waitingPages", 0, () -> x.waitingPages(0));
        Check.due("printedPages", 0, () -> x.printedPages(0));
        Check.due("writeHeap", "0 -1", () -> x.writeHeap(0) + " " + x.outputByte(0));
        x.submit(0, 0, 0, 9);
        x.printNext(0);
        Check.due("empty again", "-1 0 0 -1 0 9", () -> x.root(0) + " " + x.height(0) + " " + x.size(0) + " " + x.jobAt(0, 0) + " "
            + x.waitingPages(0) + " " + x.printedPages(0));
    }

    private static void singleJob() {
        LeftistSpooler x = Texts.of(NONE_YET + "job b p 0 1;");
        Check.begin("promises 20 to 29, a single job");
        Check.due("root, height, size, jobAt 0 and 1", "0 1 1 0 -1", () -> x.root(1) + " " + x.height(1) + " " + x.size(1) + " " + x.jobAt(1, 0)
            + " " + x.jobAt(1, 1));
        Check.due("children, parent and rank: 1 plus the rank of an empty tree", "-1 -1 -1 1",
            () -> x.leftChild(0) + " " + x.rightChild(0) + " " + x.parent(0) + " " + x.rank(0));
        Check.due("depth, position, pages before, minutes", "0 0 0 1", () -> x.depth(0) + " " + x.positionOf(0) + " " + x.pagesBefore(0) + " "
            + x.minutesUntilPrinted(0));
    }

    /** 40 jobs of falling priority: each comes to the top, so that the heap is a chain to the left. */
    private static LeftistSpooler chain() {
        LeftistSpooler x = Texts.of("queue a1;owner o;");
        for (int n = 0; n < 40; n++) {
            x.submit(0, 0, 99 - n, 99);
        }
        return x;
    }

    private static void fullQueue() {
        LeftistSpooler x = chain();
        Check.begin("promises 20 to 33, 40 jobs in one queue");
        Check.due("root, height and size", "39 40 40", () -> x.root(0) + " " + x.height(0) + " " + x.size(0));
        Check.due("the deepest job: depth, position, parent", "39 39 1", () -> x.depth(0) + " " + x.positionOf(0) + " " + x.parent(0));
        Check.due("the root: depth, position, parent, left, right", "0 0 -1 38 -1", () -> x.depth(39) + " " + x.positionOf(39) + " " + x.parent(39)
            + " " + x.leftChild(39) + " " + x.rightChild(39));
        Check.due("jobAt -1, 0, 39, 40", "-1 39 0 -1", () -> x.jobAt(0, -1) + " " + x.jobAt(0, 0) + " " + x.jobAt(0, 39) + " " + x.jobAt(0, 40));
        Check.due("pages", "3960 3861 0", () -> x.waitingPages(0) + " " + x.pagesBefore(0) + " " + x.pagesBefore(39));
        Check.due("minutes at the least speed", "3960 99", () -> x.minutesUntilPrinted(0) + " " + x.minutesUntilPrinted(39));
        Check.due("mean rank and printed part", "1.0 0.0", () -> x.meanRank() + " " + x.printedPart());
        Check.due("the greatest counters of a chain", "39 39", () -> x.comparisons() + " " + x.swaps());
        Check.due("all 40 printed", "3960 0 3960 1.0", () -> {
            LeftistSpooler y = chain();
            for (int n = 0; n < 40; n++) {
                y.printNext(0);
            }
            return y.printedPages(0) + " " + y.waitingPages(0) + " " + y.printedPagesOfOwner(0) + " " + y.printedPart();
        });
    }

    private static void positions() {
        Check.begin("promise 28, \"NONE if there is no such position\"");
        LeftistSpooler x = new LeftistSpooler();
        Check.due("the first", 1, () -> x.jobAt(0, 0));
        Check.due("the last of 4", 2, () -> x.jobAt(0, 3));
        Check.due("beyond the last", -1, () -> x.jobAt(0, 4));
        for (int position : new int[] {-1, 5, 6, 39, 40, Integer.MIN_VALUE, Integer.MAX_VALUE}) {
            Check.due("position " + position, -1, () -> x.jobAt(0, position));
        }
        Check.due("a wrong queue and no such position", "throws.IndexOutOfBoundsException", () -> x.jobAt(2, 4));
        Check.begin("promises 25, 29 and 30, \"0 for the root\"");
        Check.due("the root", "0 0 0", () -> x.depth(1) + " " + x.positionOf(1) + " " + x.pagesBefore(1));
        Check.due("the last", "2 3 22", () -> x.depth(2) + " " + x.positionOf(2) + " " + x.pagesBefore(2));
    }

    private static void equalPriorities() {
        Check.begin("promises 20, 28 to 31 and 44, \"or if both priorities are equal and its handle is smaller\"");
        for (int priority : new int[] {0, 50, 99}) {
            LeftistSpooler x = Texts.of("queue a1;owner o;" + ("job a o " + priority + " 2;").repeat(5));
            Check.due("printing order, all of " + priority, "0 1 2 3 4", () -> x.jobAt(0, 0) + " " + x.jobAt(0, 1) + " " + x.jobAt(0, 2) + " "
                + x.jobAt(0, 3) + " " + x.jobAt(0, 4));
            Check.due("root, positions and pages before", "0 0 4 0 8", () -> x.root(0) + " " + x.positionOf(0) + " " + x.positionOf(4) + " "
                + x.pagesBefore(0) + " " + x.pagesBefore(4));
        }
        LeftistSpooler y = Texts.of("queue a1;queue b1;owner o;job a o 5 1;job b o 5 1;job b o 5 1;");
        Check.due("a smaller handle that comes later", "0 0 1", () -> y.moveJob(0, 1) + " " + y.positionOf(0) + " " + y.positionOf(1));
        Check.due("a greater handle that comes first", "2 3", () -> y.moveJob(2, 0) + " " + y.mergeQueues(0, 1));
        Check.due("the merged heap's root", 0, () -> y.root(1));
        Check.due("a smaller priority beats a smaller handle", 2, () -> {
            y.changePriority(2, 4);
            return y.root(1);
        });
    }

    private static void minutes() {
        Check.begin("promise 31, \"divided by the speed of the queue, rounded up\"");
        LeftistSpooler x = Texts.of("queue a50;queue b7;owner o;job a o 1 1;job a o 2 48;job a o 3 1;job a o 4 1;job a o 5 49;"
            + "job b o 1 6;job b o 2 1;job b o 3 1;job b o 4 6;job b o 5 1;");
        // Pages up to the job's last one: 1, 49, 50, 51, 100 of 50 a minute.
        Check.due("1, 49, 50, 51, 100 pages, 50 a minute", "1 1 1 2 2", () -> x.minutesUntilPrinted(0) + " " + x.minutesUntilPrinted(1) + " "
            + x.minutesUntilPrinted(2) + " " + x.minutesUntilPrinted(3) + " " + x.minutesUntilPrinted(4));
        Check.due("6, 7, 8, 14, 15 pages, 7 a minute", "1 1 2 2 3", () -> x.minutesUntilPrinted(5) + " " + x.minutesUntilPrinted(6) + " "
            + x.minutesUntilPrinted(7) + " " + x.minutesUntilPrinted(8) + " " + x.minutesUntilPrinted(9));
        LeftistSpooler y = Texts.of("queue a1;owner o;job a o 1 99;job a o 1 99;");
        Check.due("99 and 198 pages, 1 a minute", "99 198", () -> y.minutesUntilPrinted(0) + " " + y.minutesUntilPrinted(1));
        Check.due("a paused queue's minutes are the same", "198", () -> {
            y.setPaused(0, true);
            return "" + y.minutesUntilPrinted(1);
        });
        Check.begin("promise 34, speeds of 1 to 50");
        Check.due("the greatest and the least", "50 7 1", () -> x.speed(0) + " " + x.speed(1) + " " + y.speed(0));
    }

    private static void pagesOfQueues() {
        Check.begin("promise 33, \"the jobs printed from it\"");
        LeftistSpooler x = new LeftistSpooler();
        Check.due("nothing printed", "0 0", () -> x.printedPages(0) + " " + x.printedPages(1));
        x.moveJob(1, 1);
        x.printNext(1);
        x.printNext(1);
        Check.due("a job that came from another queue", "0 7", () -> x.printedPages(0) + " " + x.printedPages(1));
        x.cancel(0);
        Check.due("a cancelled job is not printed", "0 7", () -> x.printedPages(0) + " " + x.printedPages(1));
        x.undo();
        x.undo();
        Check.due("a print undone", "0 3", () -> x.printedPages(0) + " " + x.printedPages(1));
    }

    private static void leastLoaded() {
        Check.begin("promise 36, \"rounded up; the smallest number in a tie; paused queues count like the others\"");
        least("one queue", "queue a1;owner o;job a o 1 99;", 0);
        least("six empty queues", "queue a1;queue b2;queue c3;queue d4;queue e5;queue f50;owner o;", 0);
        least("the last of six is the only empty one", "queue a50;queue b50;queue c50;queue d50;queue e50;queue f1;owner o;"
            + "job a o1 1;job b o1 1;job c o1 1;job d o1 1;job e o1 1;", 5);
        least("10/10 and 11/11, a tie", "queue a10;queue b11;owner o;job a o 1 10;job b o 1 11;", 0);
        least("11/10 is 2, 11/11 is 1", "queue a10;queue b11;owner o;job a o 1 11;job b o 1 11;", 1);
        least("9/10 and 1/50, a tie when rounded", "queue a10;queue b50;owner o;job a o 1 9;job b o 1 1;", 0);
        least("a tie of the second and the third", "queue a1;queue b1;queue c1;owner o;job a o 1 3;job b o 1 2;job c o 1 2;", 1);
        Check.due("a paused queue", 1, () -> {
            LeftistSpooler x = new LeftistSpooler();
            x.setPaused(1, true);
            return x.leastLoadedQueue();
        });
        Check.due("all printed: empty queues are a tie", 0, () -> {
            LeftistSpooler x = new LeftistSpooler();
            for (int n = 0; n < 6; n++) {
                x.printNext(n / 4);
            }
            return x.leastLoadedQueue();
        });
    }

    private static void least(String theCase, String setup, int due) {
        Check.due(theCase, due, () -> Texts.of(setup).leastLoadedQueue());
    }

    private static void pagesOfOwners() {
        Check.begin("promises 37 and 38, no job, all jobs");
        LeftistSpooler x = Texts.of("queue a1;queue b1;owner o;owner p;job a o 1 99;job b o 1 99;job b p 1 1;");
        Check.due("waiting in two queues, in one", "198 1", () -> x.waitingPagesOfOwner(0) + " " + x.waitingPagesOfOwner(1));
        Check.due("nothing printed", "0 0", () -> x.printedPagesOfOwner(0) + " " + x.printedPagesOfOwner(1));
        x.printNext(0);
        x.printNext(1);
        x.cancel(2);
        Check.due("nothing waits", "0 0", () -> x.waitingPagesOfOwner(0) + " " + x.waitingPagesOfOwner(1));
        Check.due("printed from two queues; a cancelled job is neither", "198 0", () -> x.printedPagesOfOwner(0) + " " + x.printedPagesOfOwner(1));
        Check.due("an owner without a job", "0 0", () -> Texts.of(NONE_YET).waitingPagesOfOwner(1) + " " + Texts.of(NONE_YET).printedPagesOfOwner(1));
    }

    private static void obstacles() {
        Check.begin("promise 39, \"CAN_PRINT, or the smallest of PAUSED and EMPTY that applies\"");
        LeftistSpooler x = Texts.of(NONE_YET + "job a o 1 1;");
        Check.due("neither", LeftistSpooler.CAN_PRINT, () -> x.printingObstacle(0));
        Check.due("empty", LeftistSpooler.EMPTY, () -> x.printingObstacle(1));
        x.setPaused(0, true);
        x.setPaused(1, true);
        Check.due("paused", LeftistSpooler.PAUSED, () -> x.printingObstacle(0));
        Check.due("paused and empty", LeftistSpooler.PAUSED, () -> x.printingObstacle(1));
        x.setPaused(1, false);
        Check.due("empty, no longer paused", LeftistSpooler.EMPTY, () -> x.printingObstacle(1));
    }

    private static void forecastsOfMerging() {
        Check.begin("promise 42, an empty queue, and both queues the same");
        String two = "queue a1;queue b1;owner o;";
        Check.due("both empty", "0 0", () -> Texts.of(two).mergeCost(0, 1) + " " + Texts.of(two).mergeCost(1, 0));
        Check.due("one empty", "0 0", () -> Texts.of(two + "job a o 1 1;").mergeCost(0, 1) + " " + Texts.of(two + "job a o 1 1;").mergeCost(1, 0));
        Check.due("one job each", "1 1", () -> Texts.of(two + "job a o 1 1;job b o 1 1;").mergeCost(0, 1) + " "
            + Texts.of(two + "job a o 1 1;job b o 1 1;").mergeCost(1, 0));
        Check.due("the same empty queue", ARGUMENT, () -> Texts.of(two).mergeCost(1, 1));
        Check.due("the same queue", ARGUMENT, () -> new LeftistSpooler().mergeCost(0, 0));
        Check.begin("promise 43, \"or 0 if it would be empty\", and both queues the same");
        Check.due("both empty", "0 0", () -> Texts.of(two).rankAfterMerge(0, 1) + " " + Texts.of(two).rankAfterMerge(1, 0));
        Check.due("one empty", "1 1", () -> Texts.of(two + "job a o 1 1;").rankAfterMerge(0, 1) + " " + Texts.of(two + "job a o 1 1;").rankAfterMerge(1, 0));
        Check.due("one empty, the other's rank is 2", "2 2", () -> {
            LeftistSpooler x = Texts.of(two + "job a o 1 1;job a o 2 1;job a o 3 1;");
            return x.rankAfterMerge(0, 1) + " " + x.rankAfterMerge(1, 0);
        });
        Check.due("one job each: the right child comes to the left", "1 1", () -> Texts.of(two + "job a o 1 1;job b o 1 1;").rankAfterMerge(0, 1) + " "
            + Texts.of(two + "job a o 1 1;job b o 1 1;").rankAfterMerge(1, 0));
        Check.due("the same empty queue", ARGUMENT, () -> Texts.of(two).rankAfterMerge(1, 1));
        Check.due("the same queue", ARGUMENT, () -> new LeftistSpooler().rankAfterMerge(0, 0));
        Check.begin("promises 42 and 43, \"a forecast never changes anything\"");
        Check.due("mergeCost", Telling.of(LeftistSpooler::new), () -> Telling.of(() -> forecast(1)));
        Check.due("rankAfterMerge", Telling.of(LeftistSpooler::new), () -> Telling.of(() -> forecast(2)));
        Check.begin("promise 44, \"a forecast never changes anything\"");
        Check.due("positionWith", Telling.of(LeftistSpooler::new), () -> Telling.of(() -> forecast(3)));
    }

    private static void forecastsComeTrue() {
        for (int ofA = 0; ofA <= 16; ofA++) {
            for (int ofB = 0; ofB <= 16; ofB++) {
                String sizes = ofA + " and " + ofB + " jobs";
                LeftistSpooler x = twoQueues(ofA, ofB);
                int cost = x.mergeCost(0, 1);
                int rank = x.rankAfterMerge(0, 1);
                Check.begin("promises 42 and 43, the other way round");
                Check.due(sizes, cost + " " + rank, () -> x.mergeCost(1, 0) + " " + x.rankAfterMerge(1, 0));
                int before = x.comparisons();
                x.mergeQueues(0, 1);
                Check.begin("promise 42, \"the number of comparisons that mergeQueues(from, into) would make\"");
                Check.due(sizes, x.comparisons() - before, () -> cost);
                Check.begin("promise 43, \"the rank of the root of the queue into after\" the merge");
                Check.due(sizes, ofA + ofB == 0 ? 0 : x.rank(x.root(1)), () -> rank);
            }
        }
    }

    private static LeftistSpooler twoQueues(int ofA, int ofB) {
        LeftistSpooler x = Texts.of("queue a1;queue b1;owner o;");
        for (int n = 0; n < ofA + ofB; n++) {
            x.submit(n < ofA ? 0 : 1, 0, (n * 37 + ofB * 11) % 50, 1);
        }
        return x;
    }

    private static LeftistSpooler forecast(int kind) {
        LeftistSpooler x = new LeftistSpooler();
        switch (kind) {
            case 1 -> x.mergeCost(1, 0);
            case 2 -> x.rankAfterMerge(0, 1);
            default -> x.positionWith(2, 0);
        }
        return x;
    }

    private static void forecastOfAPosition() {
        Check.begin("promise 44, \"priority, 0 to 99\"");
        LeftistSpooler x = Texts.of("queue a1;owner o;job a o 0 1;job a o 50 1;job a o 99 1;");
        Check.due("0, the least", "0 1 1", () -> x.positionWith(0, 0) + " " + x.positionWith(1, 0) + " " + x.positionWith(2, 0));
        Check.due("99, the greatest", "1 1 2", () -> x.positionWith(0, 99) + " " + x.positionWith(1, 99) + " " + x.positionWith(2, 99));
        for (int wrong : new int[] {-1, 100, Integer.MIN_VALUE, Integer.MAX_VALUE}) {
            Check.due("" + wrong, ARGUMENT, () -> x.positionWith(1, wrong));
        }
        Check.due("its own priority", "0 1 2", () -> x.positionWith(0, 0) + " " + x.positionWith(1, 50) + " " + x.positionWith(2, 99));
        Check.due("another's priority, a smaller handle", "0 1", () -> x.positionWith(0, 50) + " " + x.positionWith(1, 99));
        Check.due("another's priority, a greater handle", "1 2", () -> x.positionWith(1, 0) + " " + Texts.of("queue a1;owner o;job a o 5 1;job a o 5 1;job a o 9 1;")
            .positionWith(2, 5));
        Check.due("one less and one more than another's", "1 2 1", () -> x.positionWith(2, 49) + " " + x.positionWith(2, 51) + " " + x.positionWith(0, 51));
        Check.due("a single job", "0 0", () -> Texts.of("queue a1;owner o;job a o 5 1;").positionWith(0, 0) + " "
            + Texts.of("queue a1;owner o;job a o 5 1;").positionWith(0, 99));
    }

    private static void meanRank() {
        Check.begin("promise 45, \"or 0.0 if no job is waiting\"");
        Check.due("never a job", 0.0, () -> Texts.of(NONE_YET).meanRank());
        Check.due("all jobs printed or cancelled", 0.0, () -> {
            LeftistSpooler x = Texts.of(NONE_YET + "job a o 1 1;job a o 1 1;");
            x.printNext(0);
            x.cancel(1);
            return x.meanRank();
        });
        Check.due("one job", 1.0, () -> Texts.of(NONE_YET + "job a o 1 1;").meanRank());
        Check.due("the only job besides a cancelled one", 1.0, () -> {
            LeftistSpooler x = Texts.of(NONE_YET + "job a o 1 1;job b o 1 1;");
            x.cancel(0);
            return x.meanRank();
        });
        Check.due("three jobs, the root of rank 2", 4.0 / 3.0, () -> Texts.of(NONE_YET + "job a o 1 1;job a o 2 1;job a o 3 1;").meanRank());
    }

    private static void printedPart() {
        Check.begin("promise 46, \"or 0 if there is no job\"");
        Check.due("no job", 0.0f, () -> Texts.of(NONE_YET).printedPart());
        Check.due("one job that waits", 0.0f, () -> Texts.of(NONE_YET + "job a o 1 99;").printedPart());
        Check.due("one job, cancelled", 0.0f, () -> {
            LeftistSpooler x = Texts.of(NONE_YET + "job a o 1 99;");
            x.cancel(0);
            return x.printedPart();
        });
        Check.due("one job, printed", 1.0f, () -> {
            LeftistSpooler x = Texts.of(NONE_YET + "job a o 1 99;");
            x.printNext(0);
            return x.printedPart();
        });
        Check.due("one of 100 pages", 1.0f / 100.0f, () -> {
            LeftistSpooler x = Texts.of(NONE_YET + "job a o 1 1;job b o 1 99;");
            x.printNext(0);
            return x.printedPart();
        });
    }

    private static void consistency() {
        Check.begin("promise 47, \"returns true (always)\"");
        Check.due("no job", true, () -> Texts.of(NONE_YET).isConsistent());
        Check.due("one job", true, () -> Texts.of(NONE_YET + "job a o 1 1;").isConsistent());
        Check.due("40 jobs in a chain", true, () -> chain().isConsistent());
        Check.due("40 jobs of one priority in six queues", true, () -> {
            LeftistSpooler x = Texts.of("queue a1;queue b1;queue c1;queue d1;queue e1;queue f1;owner o;");
            for (int n = 0; n < 40; n++) {
                x.submit(n % 6, 0, 7, 1);
            }
            return x.isConsistent();
        });
        Check.due("all jobs gone", true, () -> {
            LeftistSpooler x = chain();
            for (int n = 0; n < 40; n++) {
                if (n % 2 == 0) {
                    x.printNext(0);
                } else {
                    x.cancel(n / 2);
                }
            }
            return x.isConsistent();
        });
        Check.due("asking changes nothing", Telling.of(LeftistSpooler::new), () -> Telling.of(() -> {
            LeftistSpooler x = new LeftistSpooler();
            x.isConsistent();
            return x;
        }));
    }

    private static void lastCall() {
        Check.begin("\"an object is used for at most 512 calls\"");
        Check.due("the 511th and the 512th call", "7 4", () -> {
            LeftistSpooler x = new LeftistSpooler();
            for (int call = 1; call <= 510; call++) {
                x.setPaused(0, true);
            }
            return x.undo() + " " + x.root(1);
        });
    }
}
