/** Promises 48 to 59: changes, undo, the output and the saved state, at each limit that the document names. */
final class ChangeLimitTest {
    private static final String NOTHING = "throws.NoSuchElementException";
    private static final String STATE = "throws.IllegalStateException";
    private static final String BASE = "queue a1;queue b1;owner o;";

    interface Change {
        Object on(LeftistSpooler x);
    }

    private record Named(String name, Change change) {
    }

    /** A change of each kind that can be made on a new object. */
    private static final Named[] KINDS = {
        new Named("submit", x -> x.submit(1, 1, 7, 7)), new Named("printNext", x -> x.printNext(0)), new Named("cancel", x -> x.cancel(2)),
        new Named("changePriority", x -> x.changePriority(0, 1)), new Named("moveJob", x -> x.moveJob(3, 1)),
        new Named("mergeQueues", x -> x.mergeQueues(1, 0)), new Named("setPaused", x -> x.setPaused(1, true)),
        new Named("runScript", x -> Texts.script(x, "print fast;cancel 0;pause slow;"))};

    private ChangeLimitTest() {
    }

    static void run() {
        leastAndGreatestNumbers();
        fortiethJob();
        handles();
        answersOfTheLastJob();
        pausedQueues();
        eachKindIsUndone();
        changesThatLeaveEverything();
        eightChanges();
        ninthChangeOfEachKind();
        changesAfterUndo();
        nothingToUndo();
        whatUndoLeaves();
        countersAreTakenBack();
        writingHeaps();
        longestOutput();
        bytesOfTheOutput();
        callsThatAreNoChange();
        savingTheState();
        restoringTheState();
        whatRestoringLeaves();
        fullStates();
    }

    private static LeftistSpooler submitted(int count) {
        LeftistSpooler x = Texts.of(BASE);
        for (int n = 0; n < count; n++) {
            x.submit(0, 0, n, 1);
        }
        return x;
    }

    private static LeftistSpooler after(Change change) {
        LeftistSpooler x = new LeftistSpooler();
        change.on(x);
        return x;
    }

    private static void leastAndGreatestNumbers() {
        Check.begin("promise 48, \"priority, 0 to 99\", \"number of pages, 1 to 99\"");
        Check.due("the least", "6 0 1", () -> {
            LeftistSpooler x = new LeftistSpooler();
            return x.submit(0, 0, 0, 1) + " " + x.priority(6) + " " + x.pages(6);
        });
        Check.due("the greatest", "6 99 99", () -> {
            LeftistSpooler x = new LeftistSpooler();
            return x.submit(1, 1, 99, 99) + " " + x.priority(6) + " " + x.pages(6);
        });
        Check.begin("promise 51, \"priority, 0 to 99\"");
        Check.due("the least and the greatest", "50 0 99", () -> {
            LeftistSpooler x = new LeftistSpooler();
            return x.changePriority(0, 0) + " " + x.changePriority(0, 99) + " " + x.priority(0);
        });
        Check.due("\"returns the priority before\", the same one", "50 50", () -> {
            LeftistSpooler x = new LeftistSpooler();
            return x.changePriority(0, 50) + " " + x.changePriority(0, 50);
        });
    }

    private static void fortiethJob() {
        Check.begin("promise 48, \"IllegalStateException if there are 40 jobs\"");
        Check.due("the 40th job", 39, () -> submitted(39).submit(1, 0, 0, 1));
        Check.due("a 41st job", STATE, () -> submitted(40).submit(1, 0, 0, 1));
        Check.due("a 41st job though all others are over", STATE, () -> {
            LeftistSpooler x = submitted(40);
            for (int n = 0; n < 40; n++) {
                x.printNext(0);
            }
            return x.submit(0, 0, 0, 1);
        });
        Check.due("a 41st job after the 40th was cancelled", STATE, () -> {
            LeftistSpooler x = submitted(40);
            x.cancel(39);
            return x.submit(0, 0, 0, 1);
        });
        Check.due("a 40th job once more after undo", "39 40", () -> {
            LeftistSpooler x = submitted(40);
            x.undo();
            return x.submit(0, 0, 0, 1) + " " + x.jobCount();
        });
        Check.due("a job more after a setup of 40 jobs", STATE, () -> Texts.of(BASE + "job a o1 1;".repeat(40)).submit(0, 0, 0, 1));
        Check.due("a job more after a setup of 39 jobs", 39, () -> Texts.of(BASE + "job a o1 1;".repeat(39)).submit(0, 0, 0, 1));
    }

    private static void handles() {
        Check.begin("promise 48, \"numbered from 0 in the order in which they were submitted\"");
        for (int count = 0; count < 40; count++) {
            int handle = count;
            Check.due("job " + count, handle, () -> submitted(handle).submit(0, 0, 0, 1));
        }
    }

    private static void answersOfTheLastJob() {
        Check.begin("promise 50, \"the number of jobs left in the queue\"");
        Check.due("the only one", 0, () -> submitted(1).cancel(0));
        Check.due("one of two", 1, () -> submitted(2).cancel(0));
        Check.due("one of 40", 39, () -> submitted(40).cancel(17));
        Check.due("the other queue's jobs do not count", 3, () -> new LeftistSpooler().cancel(0));
        Check.begin("promise 49, \"prints the next job\"");
        Check.due("the only one, then none", "0 " + STATE, () -> {
            LeftistSpooler x = submitted(1);
            return x.printNext(0) + " " + Check.answerOf(() -> x.printNext(0));
        });
        Check.begin("promise 52, \"the root of the queue afterwards\"");
        Check.due("into an empty queue", 1, () -> submitted(2).moveJob(1, 1));
        Check.due("before the root", 0, () -> {
            LeftistSpooler x = submitted(2);
            x.moveJob(1, 1);
            return x.moveJob(0, 1);
        });
        Check.due("behind the root", 4, () -> new LeftistSpooler().moveJob(0, 1));
        Check.begin("promise 53, \"the number of jobs in the queue into afterwards\"");
        Check.due("none and none", 0, () -> submitted(0).mergeQueues(0, 1));
        Check.due("40 and none", "40 0 40", () -> {
            LeftistSpooler x = submitted(40);
            return x.mergeQueues(0, 1) + " " + x.size(0) + " " + x.size(1);
        });
        Check.due("none and 40", 40, () -> submitted(40).mergeQueues(1, 0));
        Check.due("20 and 20", "20 40", () -> {
            LeftistSpooler x = submitted(20);
            x.mergeQueues(0, 1);
            for (int n = 0; n < 20; n++) {
                x.submit(0, 0, n, 1);
            }
            return x.size(0) + " " + x.mergeQueues(0, 1);
        });
    }

    private static void pausedQueues() {
        Check.begin("promise 49, \"if printingObstacle(queue) is not CAN_PRINT\"");
        Check.due("paused", STATE, () -> paused().printNext(0));
        Check.due("empty", STATE, () -> submitted(0).printNext(0));
        Check.due("paused and empty", STATE, () -> paused().printNext(1));
        Check.due("resumed", 0, () -> {
            LeftistSpooler x = paused();
            x.setPaused(0, false);
            return x.printNext(0);
        });
        Check.begin("promises 48 and 50 to 53, a paused queue hinders printing alone");
        Check.due("submit", 2, () -> paused().submit(0, 0, 0, 1));
        Check.due("cancel", 1, () -> paused().cancel(0));
        Check.due("changePriority", 0, () -> paused().changePriority(0, 9));
        Check.due("moveJob", 0, () -> paused().moveJob(0, 1));
        Check.due("mergeQueues", 2, () -> paused().mergeQueues(0, 1));
        Check.begin("promise 54, \"returns whether it was paused before\"");
        Check.due("not at first, twice paused, twice resumed", "false true true false", () -> {
            LeftistSpooler x = submitted(0);
            return x.setPaused(1, true) + " " + x.setPaused(1, true) + " " + x.setPaused(1, false) + " " + x.setPaused(1, false);
        });
        Check.due("one queue's pause is not the other's", "false true", () -> {
            LeftistSpooler x = submitted(0);
            x.setPaused(1, true);
            return x.isPaused(0) + " " + x.isPaused(1);
        });
    }

    /** Two jobs in queue a; both queues are paused. */
    private static LeftistSpooler paused() {
        LeftistSpooler x = submitted(2);
        x.setPaused(0, true);
        x.setPaused(1, true);
        return x;
    }

    private static void eachKindIsUndone() {
        Check.begin("promise 55, \"undoes the latest change\"");
        String before = Telling.ofSpooler(LeftistSpooler::new);
        for (Named kind : KINDS) {
            Check.due(kind.name + " changes something", false, () -> before.equals(Telling.ofSpooler(() -> after(kind.change))));
            Check.due(kind.name + ", undone", before, () -> Telling.ofSpooler(() -> after(x -> {
                kind.change.on(x);
                return x.undo();
            })));
            Check.due(kind.name + ", \"the number of changes that can still be undone\"", 0, () -> after(kind.change).undo());
        }
    }

    private static void changesThatLeaveEverything() {
        Check.begin("promise 55, \"can be undone if it succeeds, even if it leaves everything as it was\"");
        Named[] idle = {
            new Named("setPaused to false again", x -> x.setPaused(0, false)),
            new Named("changePriority of a single job to the same", x -> x.changePriority(0, 0)),
            new Named("mergeQueues of two empty queues", x -> x.mergeQueues(1, 2)),
            new Named("mergeQueues of an empty queue", x -> x.mergeQueues(1, 0)),
            new Named("runScript of nothing", x -> Texts.script(x, "")),
            new Named("runScript without a statement executed", x -> Texts.script(x, "cancel 39;"))};
        String text = "queue a1;queue b1;queue c1;owner o;job a o 0 1;";
        for (Named kind : idle) {
            Check.due(kind.name + " leaves everything", Telling.ofNow(() -> Texts.of(text)), () -> Telling.ofNow(() -> {
                LeftistSpooler x = Texts.of(text);
                kind.change.on(x);
                return x;
            }));
            Check.due(kind.name + " is a change", "0 " + NOTHING, () -> {
                LeftistSpooler x = Texts.of(text);
                kind.change.on(x);
                return x.undo() + " " + Check.answerOf(() -> x.undo());
            });
        }
    }

    private static void eightChanges() {
        Check.begin("promise 55, \"at most 8 changes are kept; a further change drops the oldest one\"");
        for (int count = 1; count <= 20; count++) {
            int made = count;
            int kept = Math.min(count, 8);
            Check.due(count + " changes, the first undo", kept - 1, () -> submitted(made).undo());
            Check.due(count + " changes, as many undone as are kept", "0 " + (count - kept) + " " + NOTHING, () -> {
                LeftistSpooler x = submitted(made);
                int left = -1;
                for (int n = 0; n < kept; n++) {
                    left = x.undo();
                }
                return left + " " + x.jobCount() + " " + Check.answerOf(() -> x.undo());
            });
        }
    }

    private static void ninthChangeOfEachKind() {
        Check.begin("promise 55, the ninth change drops the oldest one");
        for (Named kind : KINDS) {
            Check.due(kind.name + " as the ninth: 8 are kept", 7, () -> ninth(kind.change).undo());
            Check.due(kind.name + " as the ninth: the first pause stays", "0 true false " + NOTHING, () -> {
                LeftistSpooler x = ninth(kind.change);
                int left = 8;
                for (int n = 0; n < 8; n++) {
                    left = x.undo();
                }
                return left + " " + x.isPaused(0) + " " + x.isPaused(1) + " " + Check.answerOf(() -> x.undo());
            });
        }
        Check.due("a refused ninth call drops nothing", 7, () -> {
            LeftistSpooler x = submitted(8);
            Check.answerOf(() -> x.printNext(1));
            Check.answerOf(() -> x.submit(0, 0, 0, 100));
            Check.answerOf(() -> Texts.script(x, "cancel 40;"));
            return x.undo();
        });
    }

    /** Eight changes, the first of which pauses queue 0, and this one. */
    private static LeftistSpooler ninth(Change change) {
        LeftistSpooler x = new LeftistSpooler();
        x.setPaused(0, true);
        x.setPaused(0, true);
        x.setPaused(1, true);
        x.setPaused(1, false);
        x.changePriority(5, 99);
        x.changePriority(5, 60);
        x.setPaused(0, false);
        x.submit(1, 0, 99, 1);
        change.on(x);
        return x;
    }

    private static void changesAfterUndo() {
        Check.begin("promise 55, \"the latest change that has not been undone\"");
        Check.due("8 changes, 3 undone, 3 made: 8", "5 7 8", () -> {
            LeftistSpooler x = submitted(8);
            x.undo();
            x.undo();
            int left = x.undo();
            submitMore(x, 3);
            int after = x.undo();
            x.submit(0, 0, 0, 1);
            return left + " " + after + " " + x.jobCount();
        });
        Check.due("8 changes, 3 undone, 4 made: the oldest is dropped", "7 1", () -> {
            LeftistSpooler x = submitted(8);
            x.undo();
            x.undo();
            x.undo();
            submitMore(x, 4);
            int left = x.undo();
            while (x.undo() > 0) {
                continue;
            }
            return left + " " + x.jobCount();
        });
        Check.due("8 changes, all undone, one made", "0 0 " + NOTHING, () -> {
            LeftistSpooler x = submitted(8);
            while (x.undo() > 0) {
                continue;
            }
            x.submit(0, 0, 0, 1);
            return x.undo() + " " + x.jobCount() + " " + Check.answerOf(() -> x.undo());
        });
        Check.due("an undone change does not come back", 1, () -> {
            LeftistSpooler x = submitted(2);
            x.undo();
            x.setPaused(0, true);
            x.undo();
            return x.jobCount();
        });
    }

    private static void submitMore(LeftistSpooler x, int count) {
        for (int n = 0; n < count; n++) {
            x.submit(0, 0, 50, 1);
        }
    }

    private static void nothingToUndo() {
        Check.begin("promise 55, \"NoSuchElementException if there is no change to undo\"");
        Check.due("a new object", NOTHING, () -> new LeftistSpooler().undo());
        Check.due("after a setup", NOTHING, () -> submitted(0).undo());
        Check.due("after the only change was undone", "0 " + NOTHING, () -> {
            LeftistSpooler x = submitted(1);
            return x.undo() + " " + Check.answerOf(() -> x.undo());
        });
        Check.due("twice nothing", NOTHING + " " + NOTHING, () -> {
            LeftistSpooler x = submitted(0);
            return Check.answerOf(() -> x.undo()) + " " + Check.answerOf(() -> x.undo());
        });
        Check.due("a change after a refused undo", 0, () -> {
            LeftistSpooler x = submitted(0);
            Check.answerOf(() -> x.undo());
            x.submit(0, 0, 0, 1);
            return x.undo();
        });
    }

    private static LeftistSpooler withTexts(boolean isUndone) {
        LeftistSpooler x = new LeftistSpooler();
        x.cancel(0);
        x.writeHeap(0);
        x.saveState();
        Texts.script(x, "print");
        Texts.put(x, "pause slow;");
        if (isUndone) {
            x.undo();
        }
        return x;
    }

    private static void whatUndoLeaves() {
        Check.begin("promise 55, \"the input buffer, the reported text error, the output and the saved state stay as they are\"");
        Check.due("the length of the buffer", 11, () -> Telling.bufferLength(withTexts(true)));
        Check.due("the bytes of the buffer", "1 true", () -> {
            LeftistSpooler x = withTexts(true);
            return x.runScript() + " " + x.isPaused(1);
        });
        Check.due("the reported text error", "1 5", () -> Telling.report(withTexts(true)));
        Check.due("the output", "1(3(2,),)", () -> Texts.output(withTexts(true)));
        Check.due("the saved state", "6 true", () -> {
            LeftistSpooler x = withTexts(true);
            return x.restoreState() + " " + x.isCancelled(0);
        });
        Check.due("but the job waits again", "false true", () -> withTexts(false).isWaiting(0) + " " + withTexts(true).isWaiting(0));
        Check.due("an undone script leaves the buffer empty", 0, () -> {
            LeftistSpooler x = new LeftistSpooler();
            Texts.script(x, "pause slow;");
            x.undo();
            return Telling.bufferLength(x);
        });
        Check.due("no saved state comes by undo", NOTHING, () -> {
            LeftistSpooler x = submitted(1);
            x.undo();
            return x.restoreState();
        });
        Check.due("a state saved before the change stays saved", 0, () -> {
            LeftistSpooler x = submitted(0);
            x.saveState();
            x.submit(0, 0, 0, 1);
            x.undo();
            return x.restoreState();
        });
    }

    private static void countersAreTakenBack() {
        Check.begin("promises 40, 41 and 55, what is not listed as staying does not stay");
        Check.due("comparisons and swaps", "1 1 0 0", () -> {
            LeftistSpooler x = submitted(2);
            String then = x.comparisons() + " " + x.swaps();
            x.undo();
            return then + " " + x.comparisons() + " " + x.swaps();
        });
        Check.due("printed pages of queue, owner and part", "0 0 0.0", () -> {
            LeftistSpooler x = new LeftistSpooler();
            x.printNext(0);
            x.undo();
            return x.printedPages(0) + " " + x.printedPagesOfOwner(1) + " " + x.printedPart();
        });
    }

    private static void writingHeaps() {
        Check.begin("promise 56, \"an empty heap is written as nothing\"; parentheses \"if the root has a left child\"");
        Check.due("an empty heap", "0 ", () -> written(submitted(0)));
        Check.due("a root alone", "1 0", () -> written(submitted(1)));
        Check.due("a left child alone", "5 0(1,)", () -> written(submitted(2)));
        Check.due("two children", "6 0(1,2)", () -> written(submitted(3)));
        Check.due("handles of one and of two digits", "6 9(10,)", () -> {
            LeftistSpooler x = submitted(11);
            x.moveJob(9, 1);
            x.moveJob(10, 1);
            return x.writeHeap(1) + " " + Texts.output(x);
        });
        Check.due("the last handle alone", "2 39", () -> {
            LeftistSpooler x = submitted(40);
            x.moveJob(39, 1);
            return x.writeHeap(1) + " " + Texts.output(x);
        });
    }

    private static String written(LeftistSpooler x) {
        return x.writeHeap(0) + " " + Texts.output(x);
    }

    private static void longestOutput() {
        Check.begin("promise 56, 40 jobs");
        StringBuilder due = new StringBuilder("0");
        for (int n = 1; n < 40; n++) {
            due.insert(0, n + "(").append(",)");
        }
        LeftistSpooler x = Texts.of(BASE);
        for (int n = 0; n < 40; n++) {
            x.submit(0, 0, 99 - n, 1);
        }
        // 10 + 2 * 30 digits and 39 times a parenthesis, a comma and a parenthesis
        Check.due("a chain, its length", 187, () -> x.writeHeap(0));
        Check.due("a chain", due.toString(), () -> Texts.output(x));
        Check.due("its last byte and the one beyond", "41 -1", () -> x.outputByte(186) + " " + x.outputByte(187));
    }

    private static void bytesOfTheOutput() {
        Check.begin("promise 57, \"NONE if there is no byte with this index\"");
        int[] wrong = {-1, 6, 7, 199, 200, 201, Integer.MIN_VALUE, Integer.MAX_VALUE};
        LeftistSpooler x = submitted(3);
        Check.due("nothing written, index 0", -1, () -> x.outputByte(0));
        x.writeHeap(0);
        Check.due("digit, parenthesis, comma, parenthesis", "48 40 49 44 50 41", () -> x.outputByte(0) + " " + x.outputByte(1) + " " + x.outputByte(2)
            + " " + x.outputByte(3) + " " + x.outputByte(4) + " " + x.outputByte(5));
        for (int index : wrong) {
            Check.due("index " + index + " of 6 bytes", -1, () -> x.outputByte(index));
        }
        Check.begin("promise 56, \"replaces the former output\"");
        Check.due("by nothing", "0 -1", () -> x.writeHeap(1) + " " + x.outputByte(0));
        x.writeHeap(0);
        x.moveJob(1, 1);
        Check.due("a change leaves the output", "0(1,2)", () -> Texts.output(x));
        Check.due("by a shorter one", "1 1 -1", () -> x.writeHeap(1) + " " + Texts.output(x) + " " + x.outputByte(1));
        Check.due("a refused call leaves the output", "1", () -> {
            Check.answerOf(() -> x.writeHeap(2));
            return Texts.output(x);
        });
    }

    private static void callsThatAreNoChange() {
        Check.begin("promises 2 to 4, 6, 7 and 56 to 59, calls that are no change");
        Named[] calls = {
            new Named("appendInput", x -> x.appendInput(1, 2, 3, 4, 5)), new Named("truncateInput", x -> x.truncateInput(0)),
            new Named("loadSetup of an invalid text", x -> x.loadSetup()), new Named("errorCode", x -> x.errorCode()),
            new Named("writeHeap", x -> x.writeHeap(0)), new Named("outputByte", x -> x.outputByte(0)),
            new Named("saveState", x -> x.saveState()), new Named("isConsistent", x -> x.isConsistent()),
            new Named("mergeCost", x -> x.mergeCost(0, 1)), new Named("rankAfterMerge", x -> x.rankAfterMerge(0, 1)),
            new Named("positionWith", x -> x.positionWith(0, 1)), new Named("an invalid script", x -> Texts.script(x, "print"))};
        for (Named call : calls) {
            Check.due(call.name, NOTHING, () -> after(call.change).undo());
        }
    }

    private static void savingTheState() {
        Check.begin("promise 58, \"returns the number of jobs\"");
        Check.due("no job", 0, () -> submitted(0).saveState());
        Check.due("40 jobs", 40, () -> submitted(40).saveState());
        Check.begin("promise 58, \"replaces the state saved before\"");
        Check.due("the second one counts", 2, () -> {
            LeftistSpooler x = submitted(1);
            x.saveState();
            x.submit(0, 0, 0, 1);
            x.saveState();
            x.submit(0, 0, 0, 1);
            return x.restoreState();
        });
        Check.begin("promise 58, \"the saved state does not contain the changes that can be undone\"");
        Check.due("changes before saving can be undone after it", "2 2 1", () -> {
            LeftistSpooler x = submitted(3);
            x.saveState();
            return x.undo() + " " + x.jobCount() + " " + x.undo();
        });
        Check.due("not after restoring", "3 " + NOTHING, () -> {
            LeftistSpooler x = submitted(3);
            x.saveState();
            return x.restoreState() + " " + Check.answerOf(() -> x.undo());
        });
        Check.due("saving alters nothing else", Telling.ofNow(() -> submitted(3)), () -> Telling.ofNow(() -> {
            LeftistSpooler x = submitted(3);
            x.saveState();
            return x;
        }));
    }

    private static void restoringTheState() {
        Check.begin("promise 59, \"NoSuchElementException if no state is saved\"");
        Check.due("a new object", NOTHING, () -> new LeftistSpooler().restoreState());
        Check.due("after a setup", NOTHING, () -> submitted(0).restoreState());
        Check.due("a saved state that a valid setup dropped", NOTHING, () -> {
            LeftistSpooler x = submitted(1);
            x.saveState();
            Texts.setup(x, BASE);
            return x.restoreState();
        });
        Check.due("a saved state after an invalid setup", 1, () -> {
            LeftistSpooler x = submitted(1);
            x.saveState();
            Texts.setup(x, "queue");
            return x.restoreState();
        });
        Check.begin("promise 59, \"restores the saved state, which stays saved\"");
        Check.due("three times", "6 6 6 true", () -> {
            LeftistSpooler x = new LeftistSpooler();
            x.saveState();
            x.cancel(0);
            int first = x.restoreState();
            x.submit(0, 0, 0, 1);
            int second = x.restoreState();
            x.printNext(0);
            return first + " " + second + " " + x.restoreState() + " " + x.isWaiting(0);
        });
        for (Named kind : KINDS) {
            Check.due("all is as it was before " + kind.name, Telling.ofNow(LeftistSpooler::new), () -> Telling.ofNow(() -> after(x -> {
                x.saveState();
                kind.change.on(x);
                return x.restoreState();
            })));
            Check.due("all is as it was after " + kind.name, Telling.ofNow(() -> after(kind.change)), () -> Telling.ofNow(() -> after(x -> {
                kind.change.on(x);
                x.saveState();
                x.undo();
                return x.restoreState();
            })));
        }
    }

    private static void whatRestoringLeaves() {
        Check.begin("promise 59, \"no change can be undone afterwards\"");
        Check.due("after no change", NOTHING, () -> restored(0).undo());
        Check.due("after one change", NOTHING, () -> restored(1).undo());
        Check.due("after 9 changes", NOTHING, () -> restored(9).undo());
        Check.due("the first change after it", "0 " + NOTHING, () -> {
            LeftistSpooler x = restored(9);
            x.setPaused(0, true);
            return x.undo() + " " + Check.answerOf(() -> x.undo());
        });
        Check.due("a refused restoreState leaves the changes", 0, () -> {
            LeftistSpooler x = submitted(1);
            Check.answerOf(() -> x.restoreState());
            return x.undo();
        });
        Check.begin("promise 59, what is no part of the state");
        Check.due("buffer, error and output", "11 1 5 1(3(2,),)", () -> {
            LeftistSpooler x = withTexts(false);
            x.restoreState();
            return Telling.bufferLength(x) + " " + Telling.report(x) + " " + Texts.output(x);
        });
    }

    private static LeftistSpooler restored(int changes) {
        LeftistSpooler x = submitted(0);
        x.saveState();
        for (int n = 0; n < changes; n++) {
            x.submit(0, 0, 0, 1);
        }
        x.restoreState();
        return x;
    }

    private static void fullStates() {
        Check.begin("promises 55 and 59, 40 jobs");
        Check.due("undo from 40 jobs", Telling.ofNow(() -> submitted(39)), () -> Telling.ofNow(() -> {
            LeftistSpooler x = submitted(40);
            x.undo();
            return x;
        }));
        Check.due("restore 40 jobs", Telling.ofNow(() -> submitted(40)), () -> Telling.ofNow(() -> {
            LeftistSpooler x = submitted(40);
            x.saveState();
            x.mergeQueues(0, 1);
            x.cancel(20);
            x.restoreState();
            return x;
        }));
        Check.due("restore no job after 40", "0 0 -1 0 0", () -> {
            LeftistSpooler x = submitted(0);
            x.saveState();
            submitMore(x, 40);
            return x.restoreState() + " " + x.jobCount() + " " + x.root(0) + " " + x.comparisons() + " " + x.swaps();
        });
    }
}
