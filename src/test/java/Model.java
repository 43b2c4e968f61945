import java.util.ArrayDeque;
import java.util.ArrayList;
import java.util.Comparator;
import java.util.List;
import java.util.NoSuchElementException;
import java.util.regex.Matcher;
import java.util.regex.Pattern;

/**
 * The document once more, written another way than the class: trees of objects that are merged
 * by recursion and copied whole, and texts cut into tokens by a pattern.
 */
final class Model {
    static final class Node {
        int job;
        Node left;
        Node right;
        int rank = 1;

        Node copy() {
            Node n = new Node();
            n.job = job;
            n.rank = rank;
            n.left = left == null ? null : left.copy();
            n.right = right == null ? null : right.copy();
            return n;
        }
    }

    static final class Job {
        int owner;
        int priority;
        int pages;
        char fate = 'w';
        int printedFrom = -1;

        Job copy() {
            Job j = new Job();
            j.owner = owner;
            j.priority = priority;
            j.pages = pages;
            j.fate = fate;
            j.printedFrom = printedFrom;
            return j;
        }
    }

    static final class World {
        List<Job> jobs = new ArrayList<>();
        Node[] heaps = new Node[6];
        boolean[] paused = new boolean[6];
        int comparisons;
        int swaps;

        World copy() {
            World w = new World();
            for (Job j : jobs) {
                w.jobs.add(j.copy());
            }
            for (int i = 0; i < 6; i++) {
                w.heaps[i] = heaps[i] == null ? null : heaps[i].copy();
            }
            w.paused = paused.clone();
            w.comparisons = comparisons;
            w.swaps = swaps;
            return w;
        }

        boolean precedes(int a, int b) {
            int pa = jobs.get(a).priority;
            int pb = jobs.get(b).priority;
            return pa != pb ? pa < pb : a < b;
        }

        Node merge(Node a, Node b) {
            if (a == null) {
                return b;
            }
            if (b == null) {
                return a;
            }
            comparisons++;
            if (precedes(b.job, a.job)) {
                Node t = a;
                a = b;
                b = t;
            }
            a.right = merge(a.right, b);
            mend(a);
            return a;
        }

        void mend(Node n) {
            if (rank(n.left) < rank(n.right)) {
                Node t = n.left;
                n.left = n.right;
                n.right = t;
                swaps++;
            }
            n.rank = 1 + rank(n.right);
        }

        static int rank(Node n) {
            return n == null ? 0 : n.rank;
        }

        static boolean holds(Node n, int job) {
            return n != null && (n.job == job || holds(n.left, job) || holds(n.right, job));
        }

        Node without(Node n, int job) {
            if (n.job == job) {
                return merge(n.left, n.right);
            }
            if (holds(n.left, job)) {
                n.left = without(n.left, job);
            } else {
                n.right = without(n.right, job);
            }
            mend(n);
            return n;
        }

        int queueOf(int job) {
            for (int q = 0; q < 6; q++) {
                if (holds(heaps[q], job)) {
                    return q;
                }
            }
            return -1;
        }

        void insert(int q, int job) {
            Node n = new Node();
            n.job = job;
            heaps[q] = merge(heaps[q], n);
        }

        void remove(int job) {
            int q = queueOf(job);
            heaps[q] = without(heaps[q], job);
        }

        int add(int q, int owner, int priority, int pages) {
            Job j = new Job();
            j.owner = owner;
            j.priority = priority;
            j.pages = pages;
            jobs.add(j);
            insert(q, jobs.size() - 1);
            return jobs.size() - 1;
        }

        List<Integer> order(int q) {
            List<Integer> list = new ArrayList<>();
            collect(heaps[q], list);
            list.sort(Comparator.comparingInt((Integer j) -> jobs.get(j).priority).thenComparingInt(j -> j));
            return list;
        }

        static void collect(Node n, List<Integer> into) {
            if (n != null) {
                into.add(n.job);
                collect(n.left, into);
                collect(n.right, into);
            }
        }
    }

    static final class TextError extends RuntimeException {
        private static final long serialVersionUID = 1L;
        final int code;
        final int offset;

        TextError(int code, int offset) {
            this.code = code;
            this.offset = offset;
        }
    }

    private static final Pattern TOKEN = Pattern.compile("[ \n]*(?:([a-z]+)|([0-9]+)|(;)|([^ \n])|$)", Pattern.DOTALL);

    List<String> queues = new ArrayList<>();
    List<String> owners = new ArrayList<>();
    List<Integer> speeds = new ArrayList<>();
    World w = new World();
    World saved;
    final ArrayDeque<World> past = new ArrayDeque<>();
    final StringBuilder input = new StringBuilder();
    String output = "";
    int errorCode;
    int errorOffset = -1;

    // The text that is being read.
    private String text;
    private int pos;
    private int tokenAt;
    private String tokenText;
    private char tokenKind;

    Model() {
        input.append("queue fast 20;queue slow 5;owner ann;owner bob;job fast ann 50 10;job fast bob 30 4;"
            + "job fast ann 70 25;job fast bob 40 8;job slow ann 20 3;job slow bob 60 6;");
        loadSetup();
    }

    private void next() {
        Matcher m = TOKEN.matcher(text);
        m.region(pos, text.length());
        if (!m.lookingAt()) {
            throw new IllegalStateException("the pattern takes every text");
        }
        pos = m.end();
        tokenKind = 'e';
        tokenText = "";
        tokenAt = text.length();
        for (int g = 1; g <= 4; g++) {
            if (m.group(g) != null) {
                tokenKind = "wns?".charAt(g - 1);
                tokenText = m.group(g);
                tokenAt = m.start(g);
            }
        }
        if (tokenKind == 'w' && tokenText.length() > 8 || tokenKind == 'n' && tokenText.length() > 3 || tokenKind == '?') {
            throw new TextError(1, tokenAt);
        }
    }

    private void expect(char kind) {
        next();
        if (tokenKind != kind) {
            throw new TextError(1, tokenAt);
        }
    }

    private String name() {
        expect('w');
        if (tokenText.length() > 6) {
            throw new TextError(1, tokenAt);
        }
        return tokenText;
    }

    private int known(List<String> names) {
        int i = names.indexOf(name());
        if (i < 0) {
            throw new TextError(3, tokenAt);
        }
        return i;
    }

    private int number(int low, int high) {
        expect('n');
        int v = Integer.parseInt(tokenText);
        if (v < low || v > high) {
            throw new TextError(2, tokenAt);
        }
        return v;
    }

    private void limit(boolean over) {
        if (over) {
            throw new TextError(4, tokenAt);
        }
    }

    private boolean more() {
        next();
        if (tokenKind == 'n' || tokenKind == 's') {
            throw new TextError(1, tokenAt);
        }
        return tokenKind == 'w';
    }

    private void startText() {
        text = input.toString();
        input.setLength(0);
        pos = 0;
        errorCode = 0;
        errorOffset = -1;
    }

    int loadSetup() {
        startText();
        List<String> qs = new ArrayList<>();
        List<String> os = new ArrayList<>();
        List<Integer> ss = new ArrayList<>();
        World fresh = new World();
        try {
            while (more()) {
                switch (tokenText) {
                    case "queue": {
                        limit(qs.size() == 6);
                        String n = name();
                        if (qs.contains(n)) {
                            throw new TextError(3, tokenAt);
                        }
                        ss.add(number(1, 50));
                        qs.add(n);
                        break;
                    }
                    case "owner": {
                        limit(os.size() == 8);
                        String n = name();
                        if (os.contains(n)) {
                            throw new TextError(3, tokenAt);
                        }
                        os.add(n);
                        break;
                    }
                    case "job": {
                        limit(fresh.jobs.size() == 40);
                        int q = known(qs);
                        int o = known(os);
                        int p = number(0, 99);
                        int pages = number(1, 99);
                        fresh.add(q, o, p, pages);
                        break;
                    }
                    default:
                        throw new TextError(1, tokenAt);
                }
                expect('s');
            }
            if (qs.isEmpty() || os.isEmpty()) {
                throw new TextError(5, text.length());
            }
        } catch (TextError e) {
            errorCode = e.code;
            errorOffset = e.offset;
            return -1;
        }
        queues = qs;
        owners = os;
        speeds = ss;
        w = fresh;
        w.comparisons = 0;
        w.swaps = 0;
        saved = null;
        past.clear();
        return w.jobs.size();
    }

    interface Step {
        void run();
    }

    private Step step(String word, int done) {
        List<String> words = List.of("submit", "print", "cancel", "priority", "move", "merge", "pause", "resume");
        if (!words.contains(word)) {
            throw new TextError(1, tokenAt);
        }
        limit(done == 30);
        switch (word) {
            case "submit": {
                int q = known(queues);
                int o = known(owners);
                int p = number(0, 99);
                int pages = number(1, 99);
                return () -> submit(q, o, p, pages);
            }
            case "print": {
                int q = known(queues);
                return () -> printNext(q);
            }
            case "cancel": {
                int j = number(0, 39);
                return () -> cancel(j);
            }
            case "priority": {
                int j = number(0, 39);
                int p = number(0, 99);
                return () -> changePriority(j, p);
            }
            case "move": {
                int j = number(0, 39);
                int q = known(queues);
                return () -> moveJob(j, q);
            }
            case "merge": {
                int a = known(queues);
                int b = known(queues);
                if (a == b) {
                    throw new TextError(3, tokenAt);
                }
                return () -> mergeQueues(a, b);
            }
            default: {
                int q = known(queues);
                boolean to = word.equals("pause");
                return () -> setPaused(q, to);
            }
        }
    }

    int runScript() {
        startText();
        List<Step> steps = new ArrayList<>();
        try {
            while (more()) {
                steps.add(step(tokenText, steps.size()));
                expect('s');
            }
        } catch (TextError e) {
            errorCode = e.code;
            errorOffset = e.offset;
            return -1;
        }
        List<World> before = new ArrayList<>(past);
        World start = w.copy();
        int done = 0;
        try {
            for (Step s : steps) {
                s.run();
                done++;
            }
        } catch (RuntimeException e) {
            // The script ends here, as the document asks.
        }
        past.clear();
        past.addAll(before);
        remember(start);
        return done;
    }

    private void remember(World world) {
        past.addLast(world);
        if (past.size() > 8) {
            past.removeFirst();
        }
    }

    int appendInput(int... parts) {
        if (input.length() + 20 > 600) {
            return -1;
        }
        for (int p : parts) {
            for (int shift = 24; shift >= 0; shift -= 8) {
                input.append((char) (p >> shift & 255));
            }
        }
        return input.length();
    }

    boolean truncateInput(int length) {
        if (length < 0 || length > input.length()) {
            return false;
        }
        input.setLength(length);
        return true;
    }

    private void needQueue(int q) {
        queues.get(q);
    }

    private void needOwner(int o) {
        owners.get(o);
    }

    private void needJob(int j) {
        w.jobs.get(j);
    }

    private void needWaiting(int j) {
        need(w.jobs.get(j).fate == 'w');
    }

    private static void need(boolean ok) {
        if (!ok) {
            throw new IllegalStateException();
        }
    }

    private static void allow(boolean ok) {
        if (!ok) {
            throw new IllegalArgumentException();
        }
    }

    int letter(List<String> names, int name, int index) {
        String s = names.get(name);
        return index >= 0 && index < s.length() ? s.charAt(index) : -1;
    }

    int submit(int q, int o, int p, int pages) {
        needQueue(q);
        needOwner(o);
        allow(p >= 0 && p <= 99 && pages >= 1 && pages <= 99);
        need(w.jobs.size() < 40);
        remember(w.copy());
        return w.add(q, o, p, pages);
    }

    int printNext(int q) {
        needQueue(q);
        need(printingObstacle(q) == 0);
        remember(w.copy());
        int job = w.heaps[q].job;
        w.remove(job);
        w.jobs.get(job).fate = 'p';
        w.jobs.get(job).printedFrom = q;
        return job;
    }

    int cancel(int j) {
        needJob(j);
        needWaiting(j);
        remember(w.copy());
        int q = w.queueOf(j);
        w.remove(j);
        w.jobs.get(j).fate = 'c';
        return size(q);
    }

    int changePriority(int j, int p) {
        needJob(j);
        allow(p >= 0 && p <= 99);
        needWaiting(j);
        remember(w.copy());
        int q = w.queueOf(j);
        w.remove(j);
        int before = w.jobs.get(j).priority;
        w.jobs.get(j).priority = p;
        w.insert(q, j);
        return before;
    }

    int moveJob(int j, int q) {
        needJob(j);
        needQueue(q);
        needWaiting(j);
        need(w.queueOf(j) != q);
        remember(w.copy());
        w.remove(j);
        w.insert(q, j);
        return w.heaps[q].job;
    }

    int mergeQueues(int a, int b) {
        needQueue(a);
        needQueue(b);
        allow(a != b);
        remember(w.copy());
        w.heaps[b] = w.merge(w.heaps[b], w.heaps[a]);
        w.heaps[a] = null;
        return size(b);
    }

    boolean setPaused(int q, boolean to) {
        needQueue(q);
        remember(w.copy());
        boolean before = w.paused[q];
        w.paused[q] = to;
        return before;
    }

    int undo() {
        if (past.isEmpty()) {
            throw new NoSuchElementException();
        }
        w = past.removeLast();
        return past.size();
    }

    int saveState() {
        saved = w.copy();
        return w.jobs.size();
    }

    int restoreState() {
        if (saved == null) {
            throw new NoSuchElementException();
        }
        w = saved.copy();
        past.clear();
        return w.jobs.size();
    }

    int printingObstacle(int q) {
        needQueue(q);
        return w.paused[q] ? 1 : w.heaps[q] == null ? 2 : 0;
    }

    int root(int q) {
        needQueue(q);
        return w.heaps[q] == null ? -1 : w.heaps[q].job;
    }

    int size(int q) {
        needQueue(q);
        return w.order(q).size();
    }

    int height(int q) {
        needQueue(q);
        return heightOf(w.heaps[q]);
    }

    private static int heightOf(Node n) {
        return n == null ? 0 : 1 + Math.max(heightOf(n.left), heightOf(n.right));
    }

    /** The nodes from the root to a job, or none if it does not wait. */
    private List<Node> way(int j) {
        needJob(j);
        List<Node> nodes = new ArrayList<>();
        int q = w.queueOf(j);
        Node n = q < 0 ? null : w.heaps[q];
        while (n != null) {
            nodes.add(n);
            n = n.job == j ? null : World.holds(n.left, j) ? n.left : n.right;
        }
        return nodes;
    }

    private Node nodeOf(int j) {
        List<Node> nodes = way(j);
        return nodes.isEmpty() ? null : nodes.get(nodes.size() - 1);
    }

    int leftChild(int j) {
        Node n = nodeOf(j);
        return n == null || n.left == null ? -1 : n.left.job;
    }

    int rightChild(int j) {
        Node n = nodeOf(j);
        return n == null || n.right == null ? -1 : n.right.job;
    }

    int parent(int j) {
        List<Node> nodes = way(j);
        return nodes.size() < 2 ? -1 : nodes.get(nodes.size() - 2).job;
    }

    int rank(int j) {
        return World.rank(nodeOf(j));
    }

    int depth(int j) {
        needJob(j);
        needWaiting(j);
        return way(j).size() - 1;
    }

    int jobAt(int q, int position) {
        needQueue(q);
        List<Integer> order = w.order(q);
        return position >= 0 && position < order.size() ? order.get(position) : -1;
    }

    int positionOf(int j) {
        needJob(j);
        needWaiting(j);
        return w.order(w.queueOf(j)).indexOf(j);
    }

    int positionWith(int j, int p) {
        needJob(j);
        allow(p >= 0 && p <= 99);
        needWaiting(j);
        World then = w;
        w = w.copy();
        w.jobs.get(j).priority = p;
        int position = positionOf(j);
        w = then;
        return position;
    }

    int pagesBefore(int j) {
        needJob(j);
        needWaiting(j);
        int sum = 0;
        for (int other : w.order(w.queueOf(j))) {
            if (other == j) {
                break;
            }
            sum += w.jobs.get(other).pages;
        }
        return sum;
    }

    int minutesUntilPrinted(int j) {
        int all = pagesBefore(j) + w.jobs.get(j).pages;
        return (int) Math.ceil(all / (double) speeds.get(w.queueOf(j)));
    }

    int waitingPages(int q) {
        needQueue(q);
        return w.order(q).stream().mapToInt(j -> w.jobs.get(j).pages).sum();
    }

    int printedPages(int q) {
        needQueue(q);
        return w.jobs.stream().filter(j -> j.printedFrom == q).mapToInt(j -> j.pages).sum();
    }

    int pagesOfOwner(int o, char fate) {
        needOwner(o);
        return w.jobs.stream().filter(j -> j.owner == o && j.fate == fate).mapToInt(j -> j.pages).sum();
    }

    int leastLoadedQueue() {
        int best = 0;
        int bestMinutes = Integer.MAX_VALUE;
        for (int q = 0; q < queues.size(); q++) {
            int minutes = (int) Math.ceil(waitingPages(q) / (double) speeds.get(q));
            if (minutes < bestMinutes) {
                best = q;
                bestMinutes = minutes;
            }
        }
        return best;
    }

    int mergeForecast(int a, int b, boolean ofCost) {
        needQueue(a);
        needQueue(b);
        allow(a != b);
        World then = w.copy();
        then.comparisons = 0;
        Node result = then.merge(then.heaps[a], then.heaps[b]);
        return ofCost ? then.comparisons : World.rank(result);
    }

    double meanRank() {
        double sum = 0;
        double count = 0;
        for (int j = 0; j < w.jobs.size(); j++) {
            if (w.jobs.get(j).fate == 'w') {
                sum += rank(j);
                count++;
            }
        }
        return count == 0 ? 0.0 : sum / count;
    }

    float printedPart() {
        float all = 0;
        float done = 0;
        for (Job j : w.jobs) {
            all += j.pages;
            done += j.fate == 'p' ? j.pages : 0;
        }
        return all == 0 ? 0.0f : done / all;
    }

    int writeHeap(int q) {
        needQueue(q);
        output = write(w.heaps[q]);
        return output.length();
    }

    private static String write(Node n) {
        if (n == null) {
            return "";
        }
        return n.left == null ? "" + n.job : n.job + "(" + write(n.left) + "," + write(n.right) + ")";
    }

    int outputByte(int i) {
        return i >= 0 && i < output.length() ? output.charAt(i) : -1;
    }
}
