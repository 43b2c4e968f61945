/** Promises 48 to 59: changes, undo, the output and the saved state. */
final class ChangeTest {
    private static final String INDEX = "throws.IndexOutOfBoundsException";
    private static final String ARGUMENT = "throws.IllegalArgumentException";
    private static final String STATE = "throws.IllegalStateException";
    private static final String NOTHING = "throws.NoSuchElementException";

    private ChangeTest() {
    }

    static void run() {
        submitting();
        printing();
        cancelling();
        changingPriority();
        moving();
        merging();
        pausing();
        refusedCallsChangeNothing();
        undoing();
        whatUndoLeaves();
        writing();
        saving();
        restoring();
    }

    private static void submitting() {
        Check.begin("promise 48");
        LeftistSpooler x = new LeftistSpooler();
        Check.due("submit", 6, () -> x.submit(1, 0, 0, 99));
        Check.due("the job", "1 0 0 99 true", () -> x.queueOf(6) + " " + x.ownerOf(6) + " " + x.priority(6) + " " + x.pages(6) + " " + x.isWaiting(6));
        Check.due("heap", "6(4(5,),)", () -> Texts.heap(x, 1));
        Check.due("wrong queue", INDEX, () -> x.submit(2, 0, 0, 1));
        Check.due("wrong queue -1", INDEX, () -> x.submit(-1, 0, 0, 1));
        Check.due("wrong owner", INDEX, () -> x.submit(0, 2, 0, 1));
        Check.due("wrong owner -1", INDEX, () -> x.submit(0, -1, 0, 1));
        Check.due("priority 100", ARGUMENT, () -> x.submit(0, 0, 100, 1));
        Check.due("priority -1", ARGUMENT, () -> x.submit(0, 0, -1, 1));
        Check.due("pages 0", ARGUMENT, () -> x.submit(0, 0, 0, 0));
        Check.due("pages 100", ARGUMENT, () -> x.submit(0, 0, 0, 100));
        Check.due("owner before pages", INDEX, () -> x.submit(0, 2, 0, 100));
        for (int i = 7; i < 40; i++) {
            int handle = i;
            Check.due("submit " + i, handle, () -> x.submit(0, 1, 99, 1));
        }
        Check.due("the 41st job", STATE, () -> x.submit(0, 0, 0, 1));
        Check.due("the 41st job with a wrong priority", ARGUMENT, () -> x.submit(0, 0, 100, 1));
        Check.due("the 41st job of a wrong owner", INDEX, () -> x.submit(0, 2, 0, 1));
        x.cancel(39);
        Check.due("a handle is never used again", STATE, () -> x.submit(0, 0, 0, 1));
        Check.due("undo of the last", 7, () -> x.undo());
        Check.due("undo of the 40th", 6, () -> x.undo());
        Check.due("the 40th again", 39, () -> x.submit(0, 0, 0, 1));
    }

    private static void printing() {
        Check.begin("promise 49");
        LeftistSpooler x = new LeftistSpooler();
        Check.due("first", 1, () -> x.printNext(0));
        Check.due("heap", "3(2,0)", () -> Texts.heap(x, 0));
        Check.due("second", 3, () -> x.printNext(0));
        Check.due("third", 0, () -> x.printNext(0));
        x.setPaused(0, true);
        Check.due("paused", STATE, () -> x.printNext(0));
        x.setPaused(0, false);
        Check.due("fourth", 2, () -> x.printNext(0));
        Check.due("empty", STATE, () -> x.printNext(0));
        Check.due("wrong queue", INDEX, () -> x.printNext(2));
        Check.due("wrong queue -1", INDEX, () -> x.printNext(-1));
        Check.due("printed", "47 0", () -> x.printedPages(0) + " " + x.printedPages(1));
    }

    private static void cancelling() {
        Check.begin("promise 50");
        LeftistSpooler x = new LeftistSpooler();
        Check.due("the root", 3, () -> x.cancel(1));
        Check.due("heap", "3(2,0)", () -> Texts.heap(x, 0));
        Check.due("a child", 2, () -> x.cancel(2));
        Check.due("heap with its ancestors repaired", "3(0,)", () -> Texts.heap(x, 0));
        Check.due("again", STATE, () -> x.cancel(2));
        Check.due("the last but one", 1, () -> x.cancel(3));
        Check.due("the last", 0, () -> x.cancel(0));
        Check.due("printed pages", 0, () -> x.printedPages(0));
        Check.due("wrong job", INDEX, () -> x.cancel(6));
        Check.due("wrong job -1", INDEX, () -> x.cancel(-1));
        x.printNext(1);
        Check.due("a printed job", STATE, () -> x.cancel(4));
    }

    private static void changingPriority() {
        Check.begin("promise 51");
        LeftistSpooler x = new LeftistSpooler();
        Check.due("job 2 to 10", 70, () -> x.changePriority(2, 10));
        Check.due("heap", "2(1(0,3),)", () -> Texts.heap(x, 0));
        Check.due("the same priority", 10, () -> x.changePriority(2, 10));
        Check.due("counters", "2 2", () -> x.comparisons() + " " + x.swaps());
        Check.due("job 0 keeps its priority", 50, () -> x.changePriority(0, 50));
        // 0 goes from the left of 1, 3 takes its place; 0 comes again below 2's right.
        Check.due("it is removed and inserted again", "2(1(3,),0)", () -> Texts.heap(x, 0));
        Check.due("wrong job", INDEX, () -> x.changePriority(6, 100));
        Check.due("wrong priority", ARGUMENT, () -> x.changePriority(0, 100));
        Check.due("wrong priority -1", ARGUMENT, () -> x.changePriority(0, -1));
        x.cancel(0);
        Check.due("a cancelled job", STATE, () -> x.changePriority(0, 5));
        Check.due("a cancelled job with a wrong priority", ARGUMENT, () -> x.changePriority(0, 100));
        Check.due("0 and 99", "10 0", () -> x.changePriority(2, 0) + " " + x.changePriority(2, 99));
    }

    private static void moving() {
        Check.begin("promise 52");
        LeftistSpooler x = new LeftistSpooler();
        Check.due("move 0", 4, () -> x.moveJob(0, 1));
        Check.due("heaps", "1(3(2,),) 4(5,0)", () -> Texts.heap(x, 0) + " " + Texts.heap(x, 1));
        Check.due("move 1, a new root of slow no", 4, () -> x.moveJob(1, 1));
        Check.due("move 4, the root of fast then", 4, () -> x.moveJob(4, 0));
        Check.due("sizes", "3 3", () -> x.size(0) + " " + x.size(1));
        Check.due("its own queue", STATE, () -> x.moveJob(4, 0));
        Check.due("wrong job", INDEX, () -> x.moveJob(6, 0));
        Check.due("wrong queue", INDEX, () -> x.moveJob(4, 2));
        Check.due("wrong queue -1", INDEX, () -> x.moveJob(4, -1));
        x.cancel(4);
        Check.due("a cancelled job", STATE, () -> x.moveJob(4, 1));
        Check.due("a cancelled job to a wrong queue", INDEX, () -> x.moveJob(4, 2));
    }

    private static void merging() {
        Check.begin("promise 53");
        LeftistSpooler x = new LeftistSpooler();
        Check.due("fast into slow", 6, () -> x.mergeQueues(0, 1));
        // 4 (20) wins; its right child is fast's heap of rank 2, which is exchanged with 5.
        Check.due("heap", "4(1(0,3(2,)),5)", () -> Texts.heap(x, 1));
        Check.due("the first is empty", "-1 0 ", () -> x.root(0) + " " + x.size(0) + " " + Texts.heap(x, 0));
        Check.due("counters", "1 1", () -> x.comparisons() + " " + x.swaps());
        Check.due("an empty one into a full one", 6, () -> x.mergeQueues(0, 1));
        Check.due("a full one into an empty one", 6, () -> x.mergeQueues(1, 0));
        Check.due("queues of the jobs", "0 0", () -> x.queueOf(4) + " " + x.queueOf(1));
        Check.due("the same", ARGUMENT, () -> x.mergeQueues(1, 1));
        Check.due("wrong from", INDEX, () -> x.mergeQueues(2, 1));
        Check.due("wrong into", INDEX, () -> x.mergeQueues(1, -1));
        Check.due("wrong and the same", INDEX, () -> x.mergeQueues(2, 2));
        x.setPaused(0, true);
        Check.due("a paused queue can be merged", 6, () -> x.mergeQueues(0, 1));
        Check.due("it stays paused", "true false", () -> x.isPaused(0) + " " + x.isPaused(1));
    }

    private static void pausing() {
        Check.begin("promise 54");
        LeftistSpooler x = new LeftistSpooler();
        Check.due("pause", false, () -> x.setPaused(0, true));
        Check.due("pause again", true, () -> x.setPaused(0, true));
        Check.due("resume", true, () -> x.setPaused(0, false));
        Check.due("resume again", false, () -> x.setPaused(0, false));
        Check.due("wrong queue", INDEX, () -> x.setPaused(2, true));
        Check.due("wrong queue -1", INDEX, () -> x.setPaused(-1, true));
        Check.due("each was a change", 3, () -> x.undo());
    }

    private static void refusedCallsChangeNothing() {
        Check.begin("refused calls");
        LeftistSpooler x = new LeftistSpooler();
        Check.answerOf(() -> x.submit(0, 0, 100, 1));
        Check.answerOf(() -> x.printNext(2));
        Check.answerOf(() -> x.cancel(6));
        Check.answerOf(() -> x.changePriority(0, 100));
        Check.answerOf(() -> x.moveJob(0, 0));
        Check.answerOf(() -> x.mergeQueues(0, 0));
        Check.answerOf(() -> x.setPaused(2, true));
        Check.answerOf(() -> x.undo());
        Check.due("no change is kept", NOTHING, () -> x.undo());
        Check.due("nothing is changed", "1(0,3(2,)) 4(5,) 6 0 0", () -> Texts.heap(x, 0) + " " + Texts.heap(x, 1) + " " + x.jobCount()
            + " " + x.comparisons() + " " + x.swaps());
        x.cancel(0);
        Check.answerOf(() -> x.cancel(0));
        Check.answerOf(() -> x.moveJob(0, 1));
        Check.due("one change is kept", 0, () -> x.undo());
    }

    private static void undoing() {
        Check.begin("promise 55");
        LeftistSpooler x = new LeftistSpooler();
        for (int i = 0; i < 11; i++) {
            x.submit(0, 0, 99, 1);
        }
        for (int left = 7; left >= 0; left--) {
            int due = left;
            Check.due("undo down to " + left, due, () -> x.undo());
        }
        Check.due("the ninth", NOTHING, () -> x.undo());
        Check.due("the oldest three stay", 9, () -> x.jobCount());
        x.submit(0, 0, 99, 1);
        x.printNext(0);
        Check.due("undo of a print", 1, () -> x.undo());
        Check.due("the job waits again", "0 true false 0 0", () -> x.queueOf(1) + " " + x.isWaiting(1) + " " + x.isPrinted(1) + " "
            + x.printedPages(0) + " " + x.printedPagesOfOwner(1));
        x.changePriority(1, 77);
        x.undo();
        Check.due("the priority is back", 30, () -> x.priority(1));
        x.mergeQueues(0, 1);
        x.undo();
        Check.due("the merge is undone", "1 4 1", () -> x.root(0) + " " + x.root(1) + " " + x.queueOf(4));
        x.setPaused(0, true);
        x.undo();
        Check.due("the pause is undone", false, () -> x.isPaused(0));
        x.cancel(4);
        x.undo();
        Check.due("the cancelling is undone", "true false 1", () -> x.isWaiting(4) + " " + x.isCancelled(4) + " " + x.queueOf(4));
        x.moveJob(4, 0);
        Check.due("undo of a move", 1, () -> x.undo());
        Check.due("undo of the submit", 0, () -> x.undo());
        Check.due("consistent", true, () -> x.isConsistent());
    }

    private static void whatUndoLeaves() {
        Check.begin("promise 55, what stays");
        LeftistSpooler x = new LeftistSpooler();
        x.cancel(0);
        x.writeHeap(0);
        x.saveState();
        Texts.script(x, "print");
        Texts.put(x, "abc");
        String output = Texts.output(x);
        x.undo();
        Check.due("the buffer", 23, () -> x.appendInput(0, 0, 0, 0, 0));
        Check.due("the error", "1 5", () -> x.errorCode() + " " + x.errorOffset());
        Check.due("the output", output, () -> Texts.output(x));
        Check.due("the job is back", true, () -> x.isWaiting(0));
        x.restoreState();
        Check.due("the saved state", true, () -> x.isCancelled(0));
    }

    private static void writing() {
        Check.begin("promises 56 and 57");
        LeftistSpooler x = new LeftistSpooler();
        Check.due("no output yet", "-1 -1", () -> x.outputByte(0) + " " + x.outputByte(-1));
        Check.due("fast", 10, () -> x.writeHeap(0));
        Check.due("text", "1(0,3(2,))", () -> Texts.output(x));
        Check.due("bytes", "49 40 48 44 51 41", () -> x.outputByte(0) + " " + x.outputByte(1) + " " + x.outputByte(2) + " " + x.outputByte(3)
            + " " + x.outputByte(4) + " " + x.outputByte(9));
        for (int index : new int[] {-1, 10, 200, 1000, Integer.MIN_VALUE, Integer.MAX_VALUE}) {
            Check.due("byte " + index, -1, () -> x.outputByte(index));
        }
        Check.due("a shorter one replaces it", 5, () -> x.writeHeap(1));
        Check.due("text of slow", "4(5,)", () -> Texts.output(x));
        Check.due("nothing of the former is left", -1, () -> x.outputByte(5));
        Check.due("wrong queue", INDEX, () -> x.writeHeap(2));
        Check.due("the output stays then", "4(5,)", () -> Texts.output(x));
        x.mergeQueues(1, 0);
        Check.due("a change leaves the output", "4(5,)", () -> Texts.output(x));
        Check.due("an empty heap", 0, () -> x.writeHeap(1));
        Check.due("is written as nothing", -1, () -> x.outputByte(0));
        Check.due("writing is no change", 0, () -> x.undo());
        LeftistSpooler many = Texts.of("queue a 1;owner o;");
        for (int i = 0; i < 11; i++) {
            many.submit(0, 0, 99 - i, 1);
        }
        Check.due("a handle of two digits", "10(9(8(7(6(5(4(3(2(1(0,),),),),),),),),),)", () -> Texts.heap(many, 0));
    }

    private static void saving() {
        Check.begin("promise 58");
        LeftistSpooler x = new LeftistSpooler();
        Check.due("save", 6, () -> x.saveState());
        x.submit(0, 0, 1, 1);
        Check.due("the changes stay after saving", "7 0", () -> x.saveState() + " " + x.undo());
        Check.due("the state of the second saving", 7, () -> x.restoreState());
        Check.due("saving is no change", NOTHING, () -> x.undo());
    }

    private static void restoring() {
        Check.begin("promise 59");
        LeftistSpooler x = new LeftistSpooler();
        Check.due("nothing saved", NOTHING, () -> x.restoreState());
        x.printNext(0);
        x.setPaused(1, true);
        x.saveState();
        String then = x.comparisons() + " " + x.swaps() + " " + Texts.heap(x, 0) + " " + x.printedPages(0) + " " + x.isPaused(1);
        x.mergeQueues(1, 0);
        x.submit(1, 1, 5, 5);
        x.setPaused(1, false);
        x.printNext(0);
        Check.due("restore", 6, () -> x.restoreState());
        Check.due("the state is that of then", then, () -> x.comparisons() + " " + x.swaps() + " " + Texts.heap(x, 0) + " " + x.printedPages(0)
            + " " + x.isPaused(1));
        Check.due("no change can be undone", NOTHING, () -> x.undo());
        x.cancel(0);
        Check.due("a later change leaves the saved state", "6 true", () -> x.restoreState() + " " + x.isWaiting(0));
        Check.due("consistent", true, () -> x.isConsistent());
        x.writeHeap(0);
        Texts.put(x, "abc");
        String output = Texts.output(x);
        x.restoreState();
        Check.due("the output stays", output, () -> Texts.output(x));
        Check.due("the buffer stays", 23, () -> x.appendInput(0, 0, 0, 0, 0));
        x.truncateInput(0);
        Texts.setup(x, "queue a 1;owner b;");
        Check.due("a valid setup drops the saved state", NOTHING, () -> x.restoreState());
    }
}
