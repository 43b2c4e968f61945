/**
 * The terms "Heaps", "Merging" and "Operations" (promises 20 to 27, 40, 41 and 48 to 53): each case
 * in which the trees, the comparisons or the swaps are just so and no other way.
 */
final class HeapLimitTest {
    interface Change {
        void on(LeftistSpooler x);
    }

    private HeapLimitTest() {
    }

    static void run() {
        mergingWithAnEmptyHeap();
        mergingTwoJobs();
        exchangingChildren();
        insertingStepByStep();
        ranks();
        equalPriorities();
        removingTheRoot();
        removingALeaf();
        removingAnInnerJob();
        repairingUpToTheRoot();
        changingAPriority();
        moving();
        mergingQueues();
        countersOfAllQueues();
    }

    /** An object with count jobs in queue a, of the priorities 0, 6, 12 and so on, submitted one by one. */
    private static LeftistSpooler rising(int count) {
        LeftistSpooler x = Texts.of("queue a1;queue b1;owner o;");
        for (int n = 0; n < count; n++) {
            x.submit(0, 0, n * 6, 1);
        }
        return x;
    }

    private static LeftistSpooler equal(int count) {
        LeftistSpooler x = Texts.of("queue a1;queue b1;owner o;");
        for (int n = 0; n < count; n++) {
            x.submit(0, 0, 7, 1);
        }
        return x;
    }

    /** The heaps of queue a and queue b, the comparisons and the swaps. */
    private static String told(LeftistSpooler x) {
        return "[" + Texts.heap(x, 0) + "] [" + Texts.heap(x, 1) + "] " + x.comparisons() + " " + x.swaps();
    }

    private static void due(String theCase, int count, String due, Change change) {
        Check.due(theCase, due, () -> {
            LeftistSpooler x = rising(count);
            change.on(x);
            return told(x) + (x.isConsistent() ? "" : " inconsistent");
        });
    }

    private static void mergingWithAnEmptyHeap() {
        Check.begin("promise 40, \"if one of two heaps is empty, the result ... is the other one, without a comparison\"");
        due("a job into an empty queue", 0, "[0] [] 0 0", x -> x.submit(0, 0, 0, 1));
        due("an empty queue into an empty one", 0, "[] [] 0 0", x -> x.mergeQueues(0, 1));
        due("an empty queue into a full one", 3, "[0(1,2)] [] 2 1", x -> x.mergeQueues(1, 0));
        due("a full queue into an empty one", 3, "[] [0(1,2)] 2 1", x -> x.mergeQueues(0, 1));
        due("the only job is printed", 1, "[] [] 0 0", x -> x.printNext(0));
        due("the only job is cancelled", 1, "[] [] 0 0", x -> x.cancel(0));
        due("a root with a left child alone goes", 2, "[1] [] 1 1", x -> x.printNext(0));
        due("the only job's priority is changed", 1, "[0] [] 0 0", x -> x.changePriority(0, 99));
        due("the only job is moved to an empty queue", 1, "[] [0] 0 0", x -> x.moveJob(0, 1));
    }

    private static void mergingTwoJobs() {
        Check.begin("promise 40, \"the two roots are compared, which counts as one comparison\"");
        due("the new job follows the root", 1, "[0(1,)] [] 1 1", x -> x.submit(0, 0, 1, 1));
        due("the new job precedes the root", 1, "[1(0,)] [] 1 1", x -> {
            x.changePriority(0, 50);
            x.submit(0, 0, 49, 1);
        });
        due("the new job has the root's priority and a greater handle", 1, "[0(1,)] [] 1 1", x -> x.submit(0, 0, 0, 1));
    }

    private static void exchangingChildren() {
        Check.begin("promise 41, \"if the rank of its left child is less than the rank of its right child\"");
        due("ranks 0 and 1: one swap", 1, "[0(1,)] [] 1 1", x -> x.submit(0, 0, 1, 1));
        due("ranks 1 and 1: no swap", 2, "[0(1,2)] [] 2 1", x -> x.submit(0, 0, 50, 1));
        due("ranks 1 and 2 at the root: a swap", 4, "[0(2(3,4),1)] [] 6 3", x -> x.submit(0, 0, 50, 1));
        due("ranks 2 and 1 at the root: no swap there", 5, "[0(2(3,4),1(5,))] [] 8 4", x -> x.submit(0, 0, 50, 1));
        due("ranks 2 and 2 at the root: no swap", 6, "[0(2(3,4),1(5,6))] [] 10 4", x -> x.submit(0, 0, 50, 1));
    }

    private static void insertingStepByStep() {
        Check.begin("promise 48, \"to insert a job is to merge the heap of the queue and a heap that consists of this job only\"");
        String[] heaps = {"[] [] 0 0", "[0] [] 0 0", "[0(1,)] [] 1 1", "[0(1,2)] [] 2 1", "[0(1,2(3,))] [] 4 2", "[0(2(3,4),1)] [] 6 3",
            "[0(2(3,4),1(5,))] [] 8 4", "[0(2(3,4),1(5,6))] [] 10 4", "[0(2(3,4),1(5,6(7,)))] [] 13 5", "[0(2(3,4),1(6(7,8),5))] [] 16 6",
            "[0(2(3,4),1(6(7,8),5(9,)))] [] 19 7", "[0(1(6(7,8),5(9,10)),2(3,4))] [] 22 8"};
        for (int count = 0; count < heaps.length; count++) {
            due(count + " jobs of rising priority", count, heaps[count], x -> { });
        }
        due("15 jobs, a full tree", 15, "[0(1(6(7,8),5(9,10)),2(4(11,12),3(13,14)))] [] 34 11", x -> { });
    }

    private static void ranks() {
        Check.begin("promise 24, \"the rank of an empty tree is 0. The rank of a node is 1 plus the rank of its right child\"");
        Check.due("no child", 1, () -> rising(1).rank(0));
        Check.due("a left child alone", "1 1", () -> rising(2).rank(0) + " " + rising(2).rank(1));
        Check.due("two children without a child", 2, () -> rising(3).rank(0));
        Check.due("a right child of rank 1 with a left child alone", 2, () -> rising(4).rank(0));
        Check.due("full trees of 7 and 15", "3 4", () -> rising(7).rank(0) + " " + rising(15).rank(0));
        Check.due("31 jobs, the greatest full tree", "5 5", () -> equal(31).rank(0) + " " + equal(31).height(0));
        Check.due("the height of 2, 3 and 4 jobs", "2 2 3", () -> rising(2).height(0) + " " + rising(3).height(0) + " " + rising(4).height(0));
    }

    private static void equalPriorities() {
        Check.begin("promises 20 and 48 to 53, \"if both priorities are equal and its handle is smaller\"");
        Check.due("5 jobs in the order of their handles", "[0(2(3,4),1)] [] 6 3", () -> told(equal(5)));
        Check.due("a smaller handle comes later", "[] [0(1(2,),)] 2 2", () -> {
            LeftistSpooler x = equal(1);
            x.submit(1, 0, 7, 1);
            x.submit(1, 0, 7, 1);
            x.moveJob(0, 1);
            return told(x);
        });
        for (int from = 0; from < 2; from++) {
            int source = from;
            Check.due("merging from " + from, source == 0 ? "[] [0(1,)] 1 1" : "[0(1,)] [] 1 1", () -> {
                LeftistSpooler x = equal(1);
                x.submit(1, 0, 7, 1);
                x.mergeQueues(source, 1 - source);
                return told(x);
            });
        }
        Check.due("changed to the priority of a smaller handle", "[0(2,1)] [] 3 2", () -> {
            LeftistSpooler x = rising(3);
            x.changePriority(1, 0);
            return told(x);
        });
        Check.due("changed to the priority of a greater handle", "[1(2,0)] [] 4 2", () -> {
            LeftistSpooler x = rising(3);
            x.changePriority(0, 12);
            return told(x);
        });
    }

    private static void removingTheRoot() {
        Check.begin("promises 49 and 50, \"to remove the root is to merge its left and its right child\"");
        due("printed, two children", 3, "[1(2,)] [] 3 2", x -> x.printNext(0));
        due("cancelled, two children", 3, "[1(2,)] [] 3 2", x -> x.cancel(0));
        due("printed, two trees of 3 jobs", 7, "[1(2(3,4(6,)),5)] [] 13 6", x -> x.printNext(0));
        Check.due("the new root has no parent, the old one no child", "-1 -1 -1", () -> {
            LeftistSpooler x = rising(3);
            x.printNext(0);
            return x.parent(1) + " " + x.leftChild(0) + " " + x.rightChild(0);
        });
        Check.due("the left child alone becomes a root without a parent", -1, () -> {
            LeftistSpooler x = rising(2);
            x.printNext(0);
            return x.parent(1);
        });
    }

    private static void removingALeaf() {
        Check.begin("promise 50, a job without a child: nothing comes to its place");
        due("a left child alone", 2, "[0] [] 1 1", x -> x.cancel(1));
        due("a right child", 3, "[0(1,)] [] 2 1", x -> x.cancel(2));
        due("a left child beside a right one: a swap without a comparison", 3, "[0(2,)] [] 2 2", x -> x.cancel(1));
        due("a right child below a right one", 7, "[0(2(3,4),1(5,))] [] 10 4", x -> x.cancel(6));
        due("a left child below a right one", 7, "[0(2(3,4),1(6,))] [] 10 5", x -> x.cancel(5));
        Check.due("the ranks of its ancestors", "1 2", () -> {
            LeftistSpooler x = rising(7);
            x.cancel(6);
            return x.rank(1) + " " + x.rank(0);
        });
    }

    private static void removingAnInnerJob() {
        Check.begin("promise 50, \"to put the result at its place, as the same child of its parent\"");
        due("a right child with two children", 7, "[0(2(3,4),5(6,))] [] 11 5", x -> x.cancel(1));
        due("a left child with two children", 5, "[0(3(4,),1)] [] 7 4", x -> x.cancel(2));
        due("a right child with a left child alone", 4, "[0(1,3)] [] 4 2", x -> x.cancel(2));
        due("a right child with one child, beside a greater tree", 6, "[0(2(3,4),5)] [] 8 4", x -> x.cancel(1));
        due("a left child whose result has a smaller rank", 7, "[0(1(5,6),3(4,))] [] 11 6", x -> x.cancel(2));
        Check.due("the result's parent", 0, () -> {
            LeftistSpooler x = rising(4);
            x.cancel(2);
            return x.parent(3);
        });
    }

    private static void repairingUpToTheRoot() {
        Check.begin("promises 41 and 50, \"the ancestors of this place are repaired, from the parent up to the root\"");
        due("a swap at the grandparent alone", 7, "[0(1(5,6),2(3,))] [] 10 5", x -> x.cancel(4));
        due("swaps at the parent and the grandparent", 7, "[0(1(5,6),2(4,))] [] 10 6", x -> x.cancel(3));
        due("a swap at the third ancestor alone", 15, "[0(2(4(11,12),3(13,14)),1(6(7,8),5(9,)))] [] 34 12", x -> x.cancel(10));
        due("swaps at three ancestors", 15, "[0(2(4(11,12),3(13,14)),1(5(9,10),6(8,)))] [] 34 14", x -> x.cancel(7));
        Check.due("the ranks of all ancestors", "1 2 3", () -> {
            LeftistSpooler x = rising(15);
            x.cancel(7);
            return x.rank(6) + " " + x.rank(1) + " " + x.rank(0);
        });
    }

    private static void changingAPriority() {
        Check.begin("promise 51, \"removed from its heap and inserted again, even if the priority stays the same\"");
        due("a single job", 1, "[0] [] 0 0", x -> x.changePriority(0, 0));
        due("a left child", 3, "[0(2,1)] [] 3 2", x -> x.changePriority(1, 6));
        due("a right child", 3, "[0(1,2)] [] 3 1", x -> x.changePriority(2, 12));
        due("the root", 3, "[0(1(2,),)] [] 4 3", x -> x.changePriority(0, 0));
        due("the root to the end", 3, "[1(2,0)] [] 4 2", x -> x.changePriority(0, 99));
        due("a leaf to the top", 3, "[2(1(0,),)] [] 5 4", x -> {
            x.changePriority(0, 50);
            x.changePriority(2, 0);
        });
    }

    private static void moving() {
        Check.begin("promise 52, \"removed from its heap and inserted into the other one\"");
        due("the root to an empty queue", 3, "[1(2,)] [0] 3 2", x -> x.moveJob(0, 1));
        due("two jobs, a comparison in the other heap", 3, "[2] [0(1,)] 4 3", x -> {
            x.moveJob(0, 1);
            x.moveJob(1, 1);
        });
        due("all three jobs, the first queue is empty", 3, "[] [0(1,2)] 5 3", x -> {
            x.moveJob(0, 1);
            x.moveJob(1, 1);
            x.moveJob(2, 1);
        });
        due("there and back again", 1, "[0] [] 0 0", x -> {
            x.moveJob(0, 1);
            x.moveJob(0, 0);
        });
        due("a leaf leaves its heap", 3, "[0(2,)] [1] 2 2", x -> x.moveJob(1, 1));
    }

    private static void mergingQueues() {
        Check.begin("promise 53, merging two heaps");
        for (int from = 0; from < 2; from++) {
            int source = from;
            String heap = "[0(1,3(2,))]";
            due("from " + from + ": the same heap and counters", 3, (source == 0 ? "[] " + heap : heap + " []") + " 4 2", x -> {
                x.submit(1, 0, 5, 1);
                x.mergeQueues(source, 1 - source);
            });
        }
        Check.due("each job is in the queue into", "1 1 1 4", () -> {
            LeftistSpooler x = rising(3);
            x.submit(1, 0, 5, 1);
            x.mergeQueues(0, 1);
            return x.queueOf(0) + " " + x.queueOf(1) + " " + x.queueOf(2) + " " + x.size(1);
        });
        Check.due("a printed and a cancelled job stay outside", "-1 -1 1", () -> {
            LeftistSpooler x = rising(3);
            x.printNext(0);
            x.cancel(1);
            x.mergeQueues(0, 1);
            return x.queueOf(0) + " " + x.queueOf(1) + " " + x.queueOf(2);
        });
    }

    private static void countersOfAllQueues() {
        Check.begin("promises 40 and 41, \"in all merges since the setup\"");
        due("two jobs in each queue", 2, "[0(1,)] [2(3,)] 2 2", x -> {
            x.submit(1, 0, 0, 1);
            x.submit(1, 0, 0, 1);
        });
        due("forecasts are not counted", 3, "[0(1,2)] [3] 2 1", x -> {
            x.submit(1, 0, 5, 1);
            x.mergeCost(0, 1);
            x.rankAfterMerge(1, 0);
            x.positionWith(2, 0);
            x.isConsistent();
        });
        due("undo takes them back", 7, "[0(2(3,4),1(5,6))] [] 10 4", x -> {
            x.printNext(0);
            x.undo();
        });
        due("restoreState takes them back", 7, "[0(2(3,4),1(5,6))] [] 10 4", x -> {
            x.saveState();
            x.printNext(0);
            x.printNext(0);
            x.restoreState();
        });
        due("a refused change counts nothing", 3, "[0(1,2)] [] 2 1", x -> {
            Check.answerOf(() -> x.submit(0, 0, 100, 1));
            Check.answerOf(() -> x.moveJob(2, 0));
            Check.answerOf(() -> x.mergeQueues(0, 0));
        });
    }
}
