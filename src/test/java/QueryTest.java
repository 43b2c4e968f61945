/** Promises 1 and 8 to 47: what the calls tell that change nothing. */
final class QueryTest {
    private static final String INDEX = "throws.IndexOutOfBoundsException";
    private static final String ARGUMENT = "throws.IllegalArgumentException";
    private static final String STATE = "throws.IllegalStateException";
    private static final int[] WRONG = {-1, Integer.MIN_VALUE, Integer.MAX_VALUE};

    interface OfOne {
        Object answer(LeftistSpooler x, int number);
    }

    private QueryTest() {
    }

    static void run() {
        newObject();
        wrongNumbers();
        countsAndNames();
        fates();
        links();
        chain();
        chainOfMoves();
        order();
        pagesAndMinutes();
        leastLoaded();
        owners();
        obstacles();
        counters();
        mergeForecasts();
        positionForecast();
        measures();
        consistency();
    }

    private static void newObject() {
        Check.begin("promise 1");
        LeftistSpooler x = new LeftistSpooler();
        Check.due("counts", "2 2 6 0 0", () -> x.queueCount() + " " + x.ownerCount() + " " + x.jobCount() + " " + x.comparisons() + " " + x.swaps());
        Check.due("queue names", "fast slow", () -> queueName(x, 0) + " " + queueName(x, 1));
        Check.due("owner names", "ann bob", () -> ownerName(x, 0) + " " + ownerName(x, 1));
        Check.due("speeds", "20 5", () -> x.speed(0) + " " + x.speed(1));
        String[] jobs = {"0 0 50 10", "0 1 30 4", "0 0 70 25", "0 1 40 8", "1 0 20 3", "1 1 60 6"};
        for (int i = 0; i < jobs.length; i++) {
            int job = i;
            Check.due("job " + i, jobs[i], () -> x.queueOf(job) + " " + x.ownerOf(job) + " " + x.priority(job) + " " + x.pages(job));
        }
        Check.due("the buffer is empty", false, () -> x.truncateInput(1));
        Check.due("there is no output", -1, () -> x.outputByte(0));
        Check.due("nothing to undo", "throws.NoSuchElementException", () -> x.undo());
        Check.due("nothing saved", "throws.NoSuchElementException", () -> x.restoreState());
        Check.due("heaps", "1(0,3(2,)) 4(5,)", () -> Texts.heap(x, 0) + " " + Texts.heap(x, 1));
    }

    private static String queueName(LeftistSpooler x, int queue) {
        StringBuilder name = new StringBuilder();
        for (int i = 0; x.queueNameByte(queue, i) != LeftistSpooler.NONE; i++) {
            name.append((char) x.queueNameByte(queue, i));
        }
        return name.toString();
    }

    private static String ownerName(LeftistSpooler x, int owner) {
        StringBuilder name = new StringBuilder();
        for (int i = 0; x.ownerNameByte(owner, i) != LeftistSpooler.NONE; i++) {
            name.append((char) x.ownerNameByte(owner, i));
        }
        return name.toString();
    }

    private static void refused(String call, int count, OfOne of) {
        LeftistSpooler x = new LeftistSpooler();
        for (int number : WRONG) {
            Check.due(call + " of " + number, INDEX, () -> of.answer(x, number));
        }
        Check.due(call + " of " + count, INDEX, () -> of.answer(x, count));
        Check.due(call + " of " + (count - 1), false, () -> Check.answerOf(() -> of.answer(x, count - 1)).equals(INDEX));
    }

    private static void wrongNumbers() {
        Check.begin("wrong numbers");
        refused("queueNameByte", 2, (x, n) -> x.queueNameByte(n, 0));
        refused("ownerNameByte", 2, (x, n) -> x.ownerNameByte(n, 0));
        refused("queueOf", 6, (x, n) -> x.queueOf(n));
        refused("ownerOf", 6, (x, n) -> x.ownerOf(n));
        refused("priority", 6, (x, n) -> x.priority(n));
        refused("pages", 6, (x, n) -> x.pages(n));
        refused("isWaiting", 6, (x, n) -> x.isWaiting(n));
        refused("isPrinted", 6, (x, n) -> x.isPrinted(n));
        refused("isCancelled", 6, (x, n) -> x.isCancelled(n));
        refused("root", 2, (x, n) -> x.root(n));
        refused("leftChild", 6, (x, n) -> x.leftChild(n));
        refused("rightChild", 6, (x, n) -> x.rightChild(n));
        refused("parent", 6, (x, n) -> x.parent(n));
        refused("rank", 6, (x, n) -> x.rank(n));
        refused("depth", 6, (x, n) -> x.depth(n));
        refused("height", 2, (x, n) -> x.height(n));
        refused("size", 2, (x, n) -> x.size(n));
        refused("jobAt", 2, (x, n) -> x.jobAt(n, 0));
        refused("positionOf", 6, (x, n) -> x.positionOf(n));
        refused("pagesBefore", 6, (x, n) -> x.pagesBefore(n));
        refused("minutesUntilPrinted", 6, (x, n) -> x.minutesUntilPrinted(n));
        refused("waitingPages", 2, (x, n) -> x.waitingPages(n));
        refused("printedPages", 2, (x, n) -> x.printedPages(n));
        refused("speed", 2, (x, n) -> x.speed(n));
        refused("isPaused", 2, (x, n) -> x.isPaused(n));
        refused("waitingPagesOfOwner", 2, (x, n) -> x.waitingPagesOfOwner(n));
        refused("printedPagesOfOwner", 2, (x, n) -> x.printedPagesOfOwner(n));
        refused("printingObstacle", 2, (x, n) -> x.printingObstacle(n));
        refused("mergeCost from", 2, (x, n) -> x.mergeCost(n, 0));
        refused("mergeCost into", 2, (x, n) -> x.mergeCost(0, n));
        refused("rankAfterMerge from", 2, (x, n) -> x.rankAfterMerge(n, 0));
        refused("rankAfterMerge into", 2, (x, n) -> x.rankAfterMerge(0, n));
        refused("mergeCost of the same", 2, (x, n) -> x.mergeCost(n, n));
        refused("rankAfterMerge of the same", 2, (x, n) -> x.rankAfterMerge(n, n));
        refused("positionWith", 6, (x, n) -> x.positionWith(n, 0));
        refused("positionWith a wrong priority", 6, (x, n) -> x.positionWith(n, 100));
        refused("writeHeap", 2, (x, n) -> x.writeHeap(n));
    }

    private static void countsAndNames() {
        Check.begin("promises 8 to 12");
        LeftistSpooler x = Texts.of("queue a 1;queue bb 2;queue cccccc 50;owner dd;owner eeeeee;owner f;owner z;job a f 1 1;");
        Check.due("queueCount", 3, () -> x.queueCount());
        Check.due("ownerCount", 4, () -> x.ownerCount());
        Check.due("jobCount", 1, () -> x.jobCount());
        Check.due("queue names", "a bb cccccc", () -> queueName(x, 0) + " " + queueName(x, 1) + " " + queueName(x, 2));
        Check.due("owner names", "dd eeeeee f z", () -> ownerName(x, 0) + " " + ownerName(x, 1) + " " + ownerName(x, 2) + " " + ownerName(x, 3));
        Check.due("letter 'a'", 97, () -> x.queueNameByte(0, 0));
        Check.due("letter 'z'", 122, () -> x.ownerNameByte(3, 0));
        int[] outside = {-1, 6, 7, 8, 64, Integer.MIN_VALUE, Integer.MAX_VALUE};
        for (int index : outside) {
            Check.due("queue letter " + index, -1, () -> x.queueNameByte(2, index));
            Check.due("owner letter " + index, -1, () -> x.ownerNameByte(1, index));
        }
        Check.due("queue 3", INDEX, () -> x.queueNameByte(3, 0));
        Check.due("owner 4", INDEX, () -> x.ownerNameByte(4, 0));
        x.cancel(0);
        Check.due("jobCount counts what was ever submitted", 1, () -> x.jobCount());
        x.submit(0, 0, 1, 1);
        Check.due("jobCount after submit", 2, () -> x.jobCount());
        Texts.setup(x, "queue q 3;owner o;");
        Check.due("counts of a smaller setup", "1 1 0", () -> x.queueCount() + " " + x.ownerCount() + " " + x.jobCount());
        Check.due("names of a smaller setup", "q o", () -> queueName(x, 0) + " " + ownerName(x, 0));
        Check.due("job 0 is gone", INDEX, () -> x.ownerOf(0));
    }

    private static String told(LeftistSpooler x, int job) {
        return x.queueOf(job) + " " + x.ownerOf(job) + " " + x.priority(job) + " " + x.pages(job) + " "
            + x.isWaiting(job) + " " + x.isPrinted(job) + " " + x.isCancelled(job);
    }

    private static void fates() {
        Check.begin("promises 13 to 19");
        LeftistSpooler x = new LeftistSpooler();
        Check.due("waiting", "0 1 30 4 true false false", () -> told(x, 1));
        x.printNext(0);
        Check.due("printed", "-1 1 30 4 false true false", () -> told(x, 1));
        x.cancel(5);
        Check.due("cancelled", "-1 1 60 6 false false true", () -> told(x, 5));
        x.changePriority(2, 0);
        x.moveJob(2, 1);
        Check.due("changed and moved", "1 0 0 25 true false false", () -> told(x, 2));
        x.mergeQueues(1, 0);
        Check.due("merged", "0 0 0 25 true false false", () -> told(x, 2));
        Check.due("merging moves no printed job", -1, () -> x.queueOf(1));
    }

    private static String links(LeftistSpooler x, int job) {
        return x.parent(job) + " " + x.leftChild(job) + " " + x.rightChild(job) + " " + x.rank(job);
    }

    private static void links() {
        Check.begin("promises 20 to 25");
        LeftistSpooler x = new LeftistSpooler();
        Check.due("roots", "1 4", () -> x.root(0) + " " + x.root(1));
        String[] due = {"1 -1 -1 1", "-1 0 3 2", "3 -1 -1 1", "1 2 -1 1", "-1 5 -1 1", "4 -1 -1 1"};
        int[] depths = {1, 0, 2, 1, 0, 1};
        for (int i = 0; i < due.length; i++) {
            int job = i;
            Check.due("links of " + i, due[i], () -> links(x, job));
            Check.due("depth of " + i, depths[i], () -> x.depth(job));
        }
        x.printNext(0);
        x.cancel(5);
        Check.due("links of a printed job", "-1 -1 -1 0", () -> links(x, 1));
        Check.due("links of a cancelled job", "-1 -1 -1 0", () -> links(x, 5));
        Check.due("depth of a printed job", STATE, () -> x.depth(1));
        Check.due("depth of a cancelled job", STATE, () -> x.depth(5));
        Check.due("the parent of a cancelled job", "-1 -1 -1 1", () -> links(x, 4));
        x.cancel(4);
        Check.due("the root of an empty queue", -1, () -> x.root(1));
    }

    /** A heap that is a chain of 40 jobs to the left. */
    private static void chain() {
        Check.begin("promises 25 to 28 and 56, a chain");
        LeftistSpooler x = Texts.of("queue a 1;owner b;");
        StringBuilder open = new StringBuilder();
        StringBuilder closed = new StringBuilder();
        for (int i = 0; i < 40; i++) {
            x.submit(0, 0, 99 - i, 99);
            open.insert(0, i == 0 ? "0" : i + "(");
            closed.append(i == 0 ? "" : ",)");
        }
        Check.due("height", 40, () -> x.height(0));
        Check.due("depth", 39, () -> x.depth(0));
        Check.due("size", 40, () -> x.size(0));
        Check.due("position of the last", 39, () -> x.positionOf(0));
        Check.due("the last", 0, () -> x.jobAt(0, 39));
        Check.due("pages", 40 * 99, () -> x.waitingPages(0));
        Check.due("minutes of the last", 40 * 99, () -> x.minutesUntilPrinted(0));
        Check.due("heap", open.toString() + closed, () -> Texts.heap(x, 0));
        Check.due("length", 70 + 39 * 3, () -> x.writeHeap(0));
        Check.due("consistent", true, () -> x.isConsistent());
        Check.due("comparisons", 39, () -> x.comparisons());
        Check.due("swaps", 39, () -> x.swaps());
        Check.due("a job in the middle goes", 39, () -> x.cancel(20));
        Check.due("height without it", 39, () -> x.height(0));
        Check.due("its child", 21, () -> x.parent(19));
    }

    /** The same chain with the handles the other way round, made by moves. */
    private static void chainOfMoves() {
        Check.begin("promises 25 to 28, a chain of moves");
        LeftistSpooler x = Texts.of("queue a 1;queue b 1;owner o;");
        for (int i = 0; i < 40; i++) {
            x.submit(1, 0, 60 + i, 1);
        }
        for (int i = 39; i >= 0; i--) {
            x.moveJob(i, 0);
        }
        Check.due("height", 40, () -> x.height(0));
        Check.due("depth", 39, () -> x.depth(39));
        Check.due("last", 39, () -> x.jobAt(0, 39));
        Check.due("sizes", "40 0", () -> x.size(0) + " " + x.size(1));
        Check.due("consistent", true, () -> x.isConsistent());
    }

    private static void order() {
        Check.begin("promises 26 to 29");
        LeftistSpooler x = new LeftistSpooler();
        Check.due("heights", "3 2", () -> x.height(0) + " " + x.height(1));
        Check.due("sizes", "4 2", () -> x.size(0) + " " + x.size(1));
        Check.due("order of fast", "1 3 0 2 -1", () -> x.jobAt(0, 0) + " " + x.jobAt(0, 1) + " " + x.jobAt(0, 2) + " " + x.jobAt(0, 3) + " " + x.jobAt(0, 4));
        for (int position : new int[] {-1, 2, 40, 41, Integer.MIN_VALUE, Integer.MAX_VALUE}) {
            Check.due("slow at " + position, -1, () -> x.jobAt(1, position));
        }
        Check.due("positions of fast", "2 0 3 1", () -> x.positionOf(0) + " " + x.positionOf(1) + " " + x.positionOf(2) + " " + x.positionOf(3));
        x.changePriority(2, 40);
        x.changePriority(3, 40);
        Check.due("of equal priorities the smaller handle precedes", "1 2", () -> x.positionOf(2) + " " + x.positionOf(3));
        x.cancel(0);
        Check.due("position of a cancelled job", STATE, () -> x.positionOf(0));
        x.mergeQueues(1, 0);
        Check.due("an empty queue", "0 0 -1", () -> x.height(1) + " " + x.size(1) + " " + x.jobAt(1, 0));
    }

    private static void pagesAndMinutes() {
        Check.begin("promises 30 to 35");
        LeftistSpooler x = new LeftistSpooler();
        Check.due("pages before", "12 0 22 4 0 3", () -> x.pagesBefore(0) + " " + x.pagesBefore(1) + " " + x.pagesBefore(2) + " "
            + x.pagesBefore(3) + " " + x.pagesBefore(4) + " " + x.pagesBefore(5));
        // 22/20, 4/20, 47/20, 12/20; 3/5, 9/5
        Check.due("minutes", "2 1 3 1 1 2", () -> x.minutesUntilPrinted(0) + " " + x.minutesUntilPrinted(1) + " " + x.minutesUntilPrinted(2)
            + " " + x.minutesUntilPrinted(3) + " " + x.minutesUntilPrinted(4) + " " + x.minutesUntilPrinted(5));
        LeftistSpooler even = Texts.of("queue a 10;owner b;job a b 1 10;job a b 2 10;job a b 3 1;");
        Check.due("whole minutes are not rounded", "1 2 3", () -> even.minutesUntilPrinted(0) + " " + even.minutesUntilPrinted(1) + " " + even.minutesUntilPrinted(2));
        Check.due("waiting pages", "47 9", () -> x.waitingPages(0) + " " + x.waitingPages(1));
        Check.due("printed pages", "0 0", () -> x.printedPages(0) + " " + x.printedPages(1));
        x.printNext(0);
        x.moveJob(3, 1);
        x.printNext(1);
        x.printNext(1);
        x.cancel(2);
        Check.due("waiting pages later", "10 6", () -> x.waitingPages(0) + " " + x.waitingPages(1));
        Check.due("printed pages later", "4 11", () -> x.printedPages(0) + " " + x.printedPages(1));
        x.mergeQueues(0, 1);
        Check.due("merging moves no printed pages", "4 11", () -> x.printedPages(0) + " " + x.printedPages(1));
        Check.due("pages before a printed job", STATE, () -> x.pagesBefore(1));
        Check.due("minutes of a printed job", STATE, () -> x.minutesUntilPrinted(1));
        Check.due("pages before a cancelled job", STATE, () -> x.pagesBefore(2));
        Check.due("speeds", "20 5", () -> x.speed(0) + " " + x.speed(1));
        Check.due("paused", "false false", () -> x.isPaused(0) + " " + x.isPaused(1));
        x.setPaused(1, true);
        Check.due("paused later", "false true", () -> x.isPaused(0) + " " + x.isPaused(1));
    }

    private static void leastLoaded() {
        Check.begin("promise 36");
        LeftistSpooler x = new LeftistSpooler();
        Check.due("47/20 and 9/5", 1, () -> x.leastLoadedQueue());
        x.setPaused(1, true);
        Check.due("a paused queue counts", 1, () -> x.leastLoadedQueue());
        x.cancel(2);
        Check.due("22/20 and 9/5 are a tie when rounded up", 0, () -> x.leastLoadedQueue());
        x.mergeQueues(1, 0);
        Check.due("an empty queue", 1, () -> x.leastLoadedQueue());
        LeftistSpooler last = Texts.of("queue a 1;queue b 50;queue c 25;queue d 26;owner o;job a o 1 51;job b o 1 51;job c o 1 26;job d o 1 26;");
        Check.due("51/1, 51/50, 26/25, 26/26", 3, () -> last.leastLoadedQueue());
        LeftistSpooler one = Texts.of("queue a 1;owner o;job a o 1 51;");
        Check.due("of a single queue", 0, () -> one.leastLoadedQueue());
    }

    private static void owners() {
        Check.begin("promises 37 and 38");
        LeftistSpooler x = new LeftistSpooler();
        Check.due("waiting", "38 18", () -> x.waitingPagesOfOwner(0) + " " + x.waitingPagesOfOwner(1));
        Check.due("printed", "0 0", () -> x.printedPagesOfOwner(0) + " " + x.printedPagesOfOwner(1));
        x.printNext(0);
        x.printNext(1);
        x.cancel(0);
        Check.due("waiting later", "25 14", () -> x.waitingPagesOfOwner(0) + " " + x.waitingPagesOfOwner(1));
        Check.due("printed later", "3 4", () -> x.printedPagesOfOwner(0) + " " + x.printedPagesOfOwner(1));
    }

    private static void obstacles() {
        Check.begin("promise 39");
        LeftistSpooler x = new LeftistSpooler();
        Check.due("none", 0, () -> x.printingObstacle(0));
        x.setPaused(0, true);
        Check.due("paused", 1, () -> x.printingObstacle(0));
        x.mergeQueues(0, 1);
        Check.due("paused and empty", 1, () -> x.printingObstacle(0));
        x.setPaused(0, false);
        Check.due("empty", 2, () -> x.printingObstacle(0));
        Check.due("the other queue", 0, () -> x.printingObstacle(1));
    }

    private static void counters() {
        Check.begin("promises 40 and 41");
        LeftistSpooler x = new LeftistSpooler();
        Check.due("new", "0 0", () -> x.comparisons() + " " + x.swaps());
        x.mergeCost(0, 1);
        x.rankAfterMerge(0, 1);
        x.positionWith(0, 3);
        x.isConsistent();
        Check.due("after forecasts", "0 0", () -> x.comparisons() + " " + x.swaps());
        // 0 is the left child of 1 and has no child; the right child of 1 comes to the left.
        x.cancel(0);
        Check.due("a repair swaps without a comparison", "0 1", () -> x.comparisons() + " " + x.swaps());
        x.undo();
        Check.due("undo takes a swap back", "0 0", () -> x.comparisons() + " " + x.swaps());
        // 45 goes below 1 and below 3 (40), which gets rank 2 and comes to the left of 1.
        x.submit(0, 0, 45, 1);
        Check.due("after submit", "2 1", () -> x.comparisons() + " " + x.swaps());
        Check.due("heap", "1(3(2,6),0)", () -> Texts.heap(x, 0));
        x.cancel(5);
        Check.due("a leaf goes without a comparison", "2 1", () -> x.comparisons() + " " + x.swaps());
        // 6 (45) precedes 2 (70), which comes to the left of 6.
        x.cancel(3);
        Check.due("two children are merged", "3 2", () -> x.comparisons() + " " + x.swaps());
        Check.due("heap without 3", "1(6(2,),0)", () -> Texts.heap(x, 0));
        x.undo();
        Check.due("undo takes a comparison back", "2 1", () -> x.comparisons() + " " + x.swaps());
    }

    private static void mergeForecasts() {
        Check.begin("promises 42 and 43");
        LeftistSpooler x = new LeftistSpooler();
        // 4 (20) precedes 1 and has no right child.
        Check.due("cost", "1 1", () -> x.mergeCost(0, 1) + " " + x.mergeCost(1, 0));
        Check.due("rank", "2 2", () -> x.rankAfterMerge(0, 1) + " " + x.rankAfterMerge(1, 0));
        Check.due("the same queue", ARGUMENT, () -> x.mergeCost(1, 1));
        Check.due("the same queue's rank", ARGUMENT, () -> x.rankAfterMerge(0, 0));
        x.changePriority(4, 35);
        // 1 (30), then 4 (35), which has no right child, takes 3.
        Check.due("cost with 35", 2, () -> x.mergeCost(0, 1));
        Check.due("rank with 35", 2, () -> x.rankAfterMerge(0, 1));
        Check.due("a forecast changes nothing", "1(0,3(2,)) 4(5,)", () -> Texts.heap(x, 0) + " " + Texts.heap(x, 1));
        int before = x.comparisons();
        x.mergeQueues(0, 1);
        Check.due("the merge costs what was told", before + 2, () -> x.comparisons());
        Check.due("the merge has the rank that was told", 2, () -> x.rank(x.root(1)));
        Check.due("merging with an empty queue", "0 0", () -> x.mergeCost(0, 1) + " " + x.mergeCost(1, 0));
        Check.due("rank with an empty queue", "2 2", () -> x.rankAfterMerge(0, 1) + " " + x.rankAfterMerge(1, 0));
        LeftistSpooler none = Texts.of("queue a 1;queue b 1;owner o;");
        Check.due("of two empty queues", "0 0", () -> none.mergeCost(0, 1) + " " + none.rankAfterMerge(0, 1));
    }

    private static void positionForecast() {
        Check.begin("promise 44");
        LeftistSpooler x = new LeftistSpooler();
        Check.due("job 0 with 0", 0, () -> x.positionWith(0, 0));
        Check.due("job 0 with 35", 1, () -> x.positionWith(0, 35));
        Check.due("job 0 with its own", 2, () -> x.positionWith(0, 50));
        Check.due("job 0 with 40 precedes job 3", 1, () -> x.positionWith(0, 40));
        Check.due("job 3 with 50 follows job 0", 2, () -> x.positionWith(3, 50));
        Check.due("job 0 with 99", 3, () -> x.positionWith(0, 99));
        Check.due("job 0 with 100", ARGUMENT, () -> x.positionWith(0, 100));
        Check.due("job 0 with -1", ARGUMENT, () -> x.positionWith(0, -1));
        Check.due("the priority stays", 50, () -> x.priority(0));
        x.cancel(0);
        Check.due("a cancelled job", STATE, () -> x.positionWith(0, 5));
        Check.due("a cancelled job with 100", ARGUMENT, () -> x.positionWith(0, 100));
    }

    private static void measures() {
        Check.begin("promises 45 and 46");
        LeftistSpooler x = new LeftistSpooler();
        Check.due("mean rank", 7.0 / 6.0, () -> x.meanRank());
        Check.due("printed part", 0.0f, () -> x.printedPart());
        x.printNext(0);
        Check.due("mean rank after printing", 6.0 / 5.0, () -> x.meanRank());
        Check.due("printed part after printing", 4.0f / 56.0f, () -> x.printedPart());
        x.cancel(2);
        Check.due("a cancelled job's pages count", 4.0f / 56.0f, () -> x.printedPart());
        x.printNext(1);
        Check.due("of all queues", 7.0f / 56.0f, () -> x.printedPart());
        LeftistSpooler fewer = Texts.of("queue a 1;owner o;job a o 1 1;job a o 1 1;job a o 1 1;job a o 1 1;");
        Texts.setup(fewer, "queue a 1;owner o;job a o 1 1;");
        Check.due("of a setup with fewer jobs", "1.0 1", () -> fewer.meanRank() + " " + fewer.waitingPages(0));
        LeftistSpooler none = Texts.of("queue a 1;owner o;");
        Check.due("without a job", "0.0 0.0", () -> none.meanRank() + " " + none.printedPart());
        none.submit(0, 0, 1, 9);
        none.printNext(0);
        Check.due("all printed", "0.0 1.0", () -> none.meanRank() + " " + none.printedPart());
    }

    private static void consistency() {
        Check.begin("promise 47");
        LeftistSpooler x = new LeftistSpooler();
        Check.due("new", true, () -> x.isConsistent());
        Texts.script(x, "submit slow ann 1 1;merge slow fast;print fast;cancel 0;priority 2 2;move 5 slow;pause slow;");
        String before = Texts.heap(x, 0) + x.comparisons() + x.swaps() + x.size(1);
        Check.due("later", true, () -> x.isConsistent());
        Check.due("the check changes nothing", before, () -> Texts.heap(x, 0) + x.comparisons() + x.swaps() + x.size(1));
        LeftistSpooler none = Texts.of("queue a 1;owner o;");
        Check.due("empty", true, () -> none.isConsistent());
    }
}
