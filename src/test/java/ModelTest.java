import java.util.ArrayList;
import java.util.List;

/** Runs of calls, drawn by a fixed sequence of numbers, on the class and on the model side by side. */
final class ModelTest {
    private static final String[] QUEUES = {"fast", "slow", "a", "bb", "queue", "sixsix"};
    private static final String[] OWNERS = {"ann", "bob", "a", "owner", "cy", "dee", "abcdef", "z"};
    private static final String[] ODD = {"seventh", "toolongaword", "x", "100", "0", "1000", "99", "007", ";", "#", "A", "priority", "job"};

    private long seed;
    private LeftistSpooler x;
    private Model m;
    private int validSetups;
    private int validScripts;
    private final int[] errors = new int[6];
    private int longestHeap;
    // Falling priorities build high heaps.
    private boolean isFalling;

    static void run() {
        Check.begin("ModelTest");
        new ModelTest().allRuns();
    }

    private void allRuns() {
        for (int n = 0; n < 400; n++) {
            seed = 1000003L * n + 17;
            isFalling = n % 5 == 0;
            oneRun(n);
        }
        Check.due("texts of every kind were read", true, () -> validSetups > 300 && validScripts > 1000
            && errors[1] > 100 && errors[2] > 30 && errors[3] > 30 && errors[4] > 30 && errors[5] > 5);
        Check.due("high heaps were built: " + longestHeap, true, () -> longestHeap >= 12);
    }

    private int draw(int below) {
        seed = seed * 6364136223846793005L + 1442695040888963407L;
        return (int) ((seed >>> 33) % below);
    }

    private void oneRun(int n) {
        x = new LeftistSpooler();
        m = new Model();
        same("run " + n + " new", n);
        if (n % 4 != 0) {
            text(setupText(n % 8 < 4), true);
        }
        for (int call = 0; call < 100; call++) {
            step("run " + n + " call " + call + " ");
            if (call % 5 == 0 || n < 40) {
                same("run " + n + " after call " + call, n);
            }
        }
    }

    private int someQueue() {
        return draw(25) == 0 ? draw(3) * 7 - 7 : draw(Math.max(1, m.queues.size()));
    }

    private int someJob() {
        return draw(25) == 0 ? draw(2) * 41 - 1 : draw(m.w.jobs.size() + 1);
    }

    private int somePriority() {
        return draw(20) == 0 ? draw(2) * 101 - 1 : draw(3) == 0 ? draw(100) : draw(6);
    }

    private void step(String where) {
        int q = someQueue();
        int q2 = someQueue();
        int j = someJob();
        int p = somePriority();
        if (isFalling && draw(2) == 0) {
            int falling = Math.max(0, 99 - 2 * m.w.jobs.size());
            Check.due(where + "submit", want(() -> m.submit(0, 0, falling, 1)), () -> x.submit(0, 0, falling, 1));
            return;
        }
        switch (draw(16)) {
            case 0, 1, 2 -> {
                int o = draw(12) - 1;
                int pages = draw(15) == 0 ? draw(2) * 100 : 1 + draw(99);
                Check.due(where + "submit", want(() -> m.submit(q, o, p, pages)), () -> x.submit(q, o, p, pages));
            }
            case 3 -> Check.due(where + "printNext", want(() -> m.printNext(q)), () -> x.printNext(q));
            case 4 -> Check.due(where + "cancel", want(() -> m.cancel(j)), () -> x.cancel(j));
            case 5, 6 -> Check.due(where + "changePriority", want(() -> m.changePriority(j, p)), () -> x.changePriority(j, p));
            case 7 -> Check.due(where + "moveJob", want(() -> m.moveJob(j, q)), () -> x.moveJob(j, q));
            case 8 -> Check.due(where + "mergeQueues", want(() -> m.mergeQueues(q, q2)), () -> x.mergeQueues(q, q2));
            case 9 -> Check.due(where + "setPaused", want(() -> m.setPaused(q, p % 3 == 0)), () -> x.setPaused(q, p % 3 == 0));
            case 10 -> Check.due(where + "undo", want(() -> m.undo()), () -> x.undo());
            case 11 -> Check.due(where + "writeHeap", want(() -> m.writeHeap(q)), () -> x.writeHeap(q));
            case 12 -> {
                if (draw(2) == 0) {
                    Check.due(where + "saveState", want(() -> m.saveState()), () -> x.saveState());
                } else {
                    Check.due(where + "restoreState", want(() -> m.restoreState()), () -> x.restoreState());
                }
            }
            case 13 -> text(scriptText(), false);
            case 14 -> {
                if (draw(4) == 0) {
                    text(setupText(draw(2) == 0), true);
                } else {
                    text(scriptText(), false);
                }
            }
            default -> {
                int length = draw(700) - 20;
                Check.due(where + "appendInput", m.appendInput(p, q, -1, length, 0), () -> x.appendInput(p, q, -1, length, 0));
                Check.due(where + "truncateInput", m.truncateInput(length), () -> x.truncateInput(length));
            }
        }
    }

    private static Object want(Check.Call call) {
        return Check.answerOf(call);
    }

    private void text(String text, boolean isSetup) {
        if (draw(6) != 0) {
            m.truncateInput(0);
            x.truncateInput(0);
        }
        if (m.input.length() + text.length() <= 580) {
            m.input.append(text);
            Texts.put(x, text);
        }
        String read = m.input.toString();
        if (isSetup) {
            Check.due("loadSetup of " + read, m.loadSetup(), () -> x.loadSetup());
        } else {
            Check.due("runScript of " + read, m.runScript(), () -> x.runScript());
        }
        Check.due("errorCode of " + read, m.errorCode, () -> x.errorCode());
        Check.due("errorOffset of " + read, m.errorOffset, () -> x.errorOffset());
        errors[m.errorCode]++;
        if (m.errorCode == 0) {
            validSetups += isSetup ? 1 : 0;
            validScripts += isSetup ? 0 : 1;
        }
    }

    private String setupText(boolean isValid) {
        List<String> words = new ArrayList<>();
        int queues = 1 + draw(6);
        int owners = 1 + draw(8);
        for (int i = 0; i < queues; i++) {
            words.addAll(List.of("queue", QUEUES[i], "" + (1 + draw(50)), ";"));
        }
        for (int i = 0; i < owners; i++) {
            words.addAll(List.of("owner", OWNERS[i], ";"));
        }
        int jobs = draw(3) == 0 ? 25 : draw(12);
        for (int i = 0; i < jobs; i++) {
            words.addAll(List.of("job", QUEUES[draw(queues)], OWNERS[draw(owners)], "" + draw(draw(2) == 0 ? 100 : 4), "" + (1 + draw(99)), ";"));
        }
        if (!isValid) {
            spoil(words);
        }
        return joined(words);
    }

    private String scriptText() {
        List<String> words = new ArrayList<>();
        int statements = draw(8) == 0 ? 31 : draw(7);
        for (int i = 0; i < statements; i++) {
            String q = m.queues.get(draw(m.queues.size()));
            String q2 = m.queues.get(draw(m.queues.size()));
            String o = m.owners.get(draw(m.owners.size()));
            String j = "" + (draw(12) == 0 ? draw(45) : draw(Math.max(1, m.w.jobs.size())));
            String p = "" + draw(100);
            words.addAll(switch (draw(9)) {
                case 0, 1 -> List.of("submit", q, o, p, "" + (1 + draw(99)), ";");
                case 2 -> List.of("print", q, ";");
                case 3 -> List.of("cancel", j, ";");
                case 4 -> List.of("priority", j, p, ";");
                case 5 -> List.of("move", j, q, ";");
                case 6 -> q.equals(q2) && draw(3) > 0 ? List.of("print", q, ";") : List.of("merge", q, q2, ";");
                case 7 -> List.of("pause", q, ";");
                default -> List.of("resume", q, ";");
            });
        }
        if (draw(2) == 0) {
            spoil(words);
        }
        return joined(words);
    }

    private void spoil(List<String> words) {
        if (words.isEmpty()) {
            return;
        }
        int at = draw(words.size());
        switch (draw(4)) {
            case 0 -> words.remove(at);
            case 1 -> words.add(at, ODD[draw(ODD.length)]);
            case 2 -> words.set(at, words.get(draw(words.size())));
            default -> words.set(at, ODD[draw(ODD.length)]);
        }
    }

    private String joined(List<String> words) {
        StringBuilder text = new StringBuilder();
        boolean isTight = draw(3) > 0;
        char last = ';';
        for (String word : words) {
            char first = word.charAt(0);
            boolean isNeeded = Character.isLetter(first) && Character.isLetter(last) || Character.isDigit(first) && Character.isDigit(last);
            if (isNeeded || !isTight && draw(6) == 0) {
                text.append(draw(5) == 0 ? '\n' : ' ');
            }
            text.append(word);
            last = word.charAt(word.length() - 1);
        }
        return text.toString();
    }

    /** Compares everything that the calls tell; the order of the calls' answers is the same on both sides. */
    private void same(String where, int n) {
        Check.due(where + " counts", List.of(m.queues.size(), m.owners.size(), m.w.jobs.size(), m.w.comparisons, m.w.swaps,
            m.leastLoadedQueue(), m.meanRank(), m.printedPart(), m.errorCode, m.errorOffset, true),
            () -> List.of(x.queueCount(), x.ownerCount(), x.jobCount(), x.comparisons(), x.swaps(),
            x.leastLoadedQueue(), x.meanRank(), x.printedPart(), x.errorCode(), x.errorOffset(), x.isConsistent()));
        for (int i = -1; i <= m.queues.size(); i++) {
            sameQueue(where + " queue " + i, i);
        }
        for (int i = -1; i <= m.owners.size(); i++) {
            sameOwner(where + " owner " + i, i);
        }
        for (int i = -1; i <= m.w.jobs.size(); i++) {
            sameJob(where + " job " + i, i);
        }
        Check.due(where + " output", m.output, () -> Texts.output(x));
        Check.due(where + " counts after forecasts", List.of(m.w.comparisons, m.w.swaps), () -> List.of(x.comparisons(), x.swaps()));
    }

    private void sameQueue(String where, int q) {
        if (q >= 0 && q < m.queues.size()) {
            longestHeap = Math.max(longestHeap, m.height(q));
        }
        due(where, () -> m.root(q), () -> x.root(q));
        due(where, () -> m.height(q), () -> x.height(q));
        due(where, () -> m.size(q), () -> x.size(q));
        due(where, () -> m.waitingPages(q), () -> x.waitingPages(q));
        due(where, () -> m.queues.get(q) == null ? 0 : m.printedPages(q), () -> x.printedPages(q));
        due(where, () -> m.speeds.get(q), () -> x.speed(q));
        due(where, () -> m.queues.get(q) != null && m.w.paused[q], () -> x.isPaused(q));
        due(where, () -> m.printingObstacle(q), () -> x.printingObstacle(q));
        for (int i = -1; i < 7; i++) {
            int at = i;
            due(where + " letter " + i, () -> m.letter(m.queues, q, at), () -> x.queueNameByte(q, at));
            due(where + " cost with " + i, () -> m.mergeForecast(q, at, true), () -> x.mergeCost(q, at));
            due(where + " rank with " + i, () -> m.mergeForecast(q, at, false), () -> x.rankAfterMerge(q, at));
        }
        for (int i = -1; i < 41; i += 3) {
            int at = i;
            due(where + " job at " + i, () -> m.jobAt(q, at), () -> x.jobAt(q, at));
        }
    }

    private void sameOwner(String where, int o) {
        due(where, () -> m.pagesOfOwner(o, 'w'), () -> x.waitingPagesOfOwner(o));
        due(where, () -> m.pagesOfOwner(o, 'p'), () -> x.printedPagesOfOwner(o));
        for (int i = -1; i < 7; i++) {
            int at = i;
            due(where + " letter " + i, () -> m.letter(m.owners, o, at), () -> x.ownerNameByte(o, at));
        }
    }

    private void sameJob(String where, int j) {
        due(where, () -> m.w.jobs.get(j) == null ? 0 : m.w.queueOf(j), () -> x.queueOf(j));
        due(where, () -> m.w.jobs.get(j).owner, () -> x.ownerOf(j));
        due(where, () -> m.w.jobs.get(j).priority, () -> x.priority(j));
        due(where, () -> m.w.jobs.get(j).pages, () -> x.pages(j));
        due(where, () -> m.w.jobs.get(j).fate == 'w', () -> x.isWaiting(j));
        due(where, () -> m.w.jobs.get(j).fate == 'p', () -> x.isPrinted(j));
        due(where, () -> m.w.jobs.get(j).fate == 'c', () -> x.isCancelled(j));
        due(where, () -> m.leftChild(j), () -> x.leftChild(j));
        due(where, () -> m.rightChild(j), () -> x.rightChild(j));
        due(where, () -> m.parent(j), () -> x.parent(j));
        due(where, () -> m.rank(j), () -> x.rank(j));
        due(where, () -> m.depth(j), () -> x.depth(j));
        due(where, () -> m.positionOf(j), () -> x.positionOf(j));
        due(where, () -> m.pagesBefore(j), () -> x.pagesBefore(j));
        due(where, () -> m.minutesUntilPrinted(j), () -> x.minutesUntilPrinted(j));
        int p = somePriority();
        due(where + " with " + p, () -> m.positionWith(j, p), () -> x.positionWith(j, p));
    }

    private static void due(String where, Check.Call want, Check.Call got) {
        Check.due(where, want(want), got);
    }
}
