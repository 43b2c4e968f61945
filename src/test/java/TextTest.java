/** Promises 2 to 7: the input buffer, setups, scripts and text errors. */
final class TextTest {
    private static final String BASE = "queue a 1;owner b;";

    private TextTest() {
    }

    static void run() {
        appending();
        truncating();
        validSetups();
        fullBuffer();
        setupSyntax();
        setupNumbers();
        setupNames();
        setupLimits();
        setupEffects();
        validScripts();
        scriptErrors();
        scriptExecution();
        errorReports();
    }

    private static void appending() {
        Check.begin("promise 2");
        LeftistSpooler x = new LeftistSpooler();
        for (int n = 1; n <= 29; n++) {
            int length = 20 * n;
            Check.due("append " + n, length, () -> x.appendInput(0, 0, 0, 0, 0));
        }
        x.truncateInput(579);
        Check.due("append up to 599", 599, () -> x.appendInput(1, 2, 3, 4, 5));
        Check.due("append beyond 600", -1, () -> x.appendInput(1, 2, 3, 4, 5));
        Check.due("the length stays", true, () -> x.truncateInput(599));
        Check.due("the length is no greater", false, () -> x.truncateInput(600));
        x.truncateInput(580);
        Check.due("append up to 600", 600, () -> x.appendInput(1, 2, 3, 4, 5));
        Check.due("append to a full buffer", -1, () -> x.appendInput(1, 2, 3, 4, 5));
        x.truncateInput(581);
        Check.due("append to 581", -1, () -> x.appendInput(1, 2, 3, 4, 5));
        LeftistSpooler y = new LeftistSpooler();
        // "queu" "e ab" " 7;o" "wner" " z; "
        y.appendInput(0x71756575, 0x65206162, 0x20373b6f, 0x776e6572, 0x207a3b20);
        Check.due("the bytes stand most significant first", 0, () -> y.loadSetup());
        Check.due("the queue's name", "" + 'a' + 'b', () -> "" + (char) y.queueNameByte(0, 0) + (char) y.queueNameByte(0, 1));
        // A byte above 127 must not come out as another one.
        y.appendInput(0xf1756575, 0, 0, 0, 0);
        Check.due("a high byte starts no token", "-1 1 0", () -> y.loadSetup() + " " + y.errorCode() + " " + y.errorOffset());
    }

    private static void truncating() {
        Check.begin("promise 3");
        LeftistSpooler x = new LeftistSpooler();
        Check.due("of an empty buffer to 0", true, () -> x.truncateInput(0));
        Check.due("of an empty buffer to 1", false, () -> x.truncateInput(1));
        x.appendInput(0, 0, 0, 0, 0);
        Check.due("to -1", false, () -> x.truncateInput(-1));
        Check.due("to 21", false, () -> x.truncateInput(21));
        Check.due("to the greatest int", false, () -> x.truncateInput(Integer.MAX_VALUE));
        Check.due("to the least int", false, () -> x.truncateInput(Integer.MIN_VALUE));
        Check.due("to 20", true, () -> x.truncateInput(20));
        Check.due("to 7", true, () -> x.truncateInput(7));
        Check.due("the length is 7", 27, () -> x.appendInput(0, 0, 0, 0, 0));
    }

    private static void setup(String text, String result) {
        Check.due("setup " + text, result, () -> Texts.setupResult(text));
    }

    private static void script(String text, String result) {
        Check.due("script " + text, result, () -> Texts.scriptResult(text));
    }

    private static void validSetups() {
        Check.begin("promise 4, valid");
        setup(BASE, "0 0 -1");
        setup("owner b;queue a 50;", "0 0 -1");
        setup(" \n queue\na\n1 ;owner b ; \n", "0 0 -1");
        setup("queue a1;owner b;job a b0 1;job a b 99 99;", "2 0 -1");
        setup("queue a 001;owner b;job a b 000 099;", "1 0 -1");
        setup("queue queue 5;owner owner;queue owner 6;owner queue;queue job 7;job job owner 1 1;", "1 0 -1");
        setup("queue abcdef 5;owner abcdef;job abcdef abcdef 1 1;", "1 0 -1");
        setup("queue ab 5;queue abc 5;queue a 5;owner ab;owner a;", "0 0 -1");
    }

    private static void fullBuffer() {
        Check.begin("promise 4, a text of 600 bytes");
        StringBuilder text = new StringBuilder(BASE);
        while (text.length() < 589) {
            text.append(' ');
        }
        setup(text + "owner last;", "0 0 -1");
        setup(text + "owner lastt", "-1 1 600");
        setup(text + "owner last#", "-1 1 599");
    }

    private static void setupSyntax() {
        Check.begin("promise 4, SYNTAX");
        setup(";", "-1 1 0");
        setup("  ;", "-1 1 2");
        setup(BASE + ";", "-1 1 18");
        setup("5;", "-1 1 0");
        setup("print a;", "-1 1 0");
        setup("queues a 1;", "-1 1 0");
        setup("queu a 1;", "-1 1 0");
        setup("queue", "-1 1 5");
        setup("queue ", "-1 1 6");
        setup("queue a", "-1 1 7");
        setup("queue a 1", "-1 1 9");
        setup("queue a 1 \n", "-1 1 11");
        setup("queue 1;", "-1 1 6");
        setup("queue ;", "-1 1 6");
        setup("queue a b;", "-1 1 8");
        setup("queue a 1 owner b;", "-1 1 10");
        setup("queue a 1 2;", "-1 1 10");
        setup("queue a 1,", "-1 1 9");
        setup("queue abcdefg 1;", "-1 1 6");
        setup("queue abcdefgh 1;", "-1 1 6");
        setup("queue abcdefghi 1;", "-1 1 6");
        setup("queue a 0001;", "-1 1 8");
        setup("queue a 1000;", "-1 1 8");
        setup("queue a 99999999999999999999;", "-1 1 8");
        setup("Queue a 1;", "-1 1 0");
        setup("queue A 1;", "-1 1 6");
        setup("queue aB 1;", "-1 1 7");
        setup("queue a\t1;", "-1 1 7");
        setup("queue a\r1;", "-1 1 7");
        setup("queue a -1;", "-1 1 8");
        setup("queue a " + (char) 178 + ";", "-1 1 8");
        setup("queue " + (char) 233 + " 1;", "-1 1 6");
        setup("queue a 1;" + (char) 0, "-1 1 10");
        setup("queue " + (char) 96 + " 1;", "-1 1 6");
        setup("queue { 1;", "-1 1 6");
        setup("queue a /;", "-1 1 8");
        setup("queue a :;", "-1 1 8");
        setup(BASE + "job a abcdefg 1 1;", "-1 1 24");
        setup(BASE + "job abcdefg b 1 1;", "-1 1 22");
        setup(BASE + "job a b 1;", "-1 1 27");
        setup(BASE + "job", "-1 1 21");
    }

    private static void setupNumbers() {
        Check.begin("promise 4, OUT_OF_RANGE");
        setup("queue a 0;", "-1 2 8");
        setup("queue a 51;", "-1 2 8");
        setup("queue a 999;", "-1 2 8");
        setup("queue a 000;", "-1 2 8");
        setup(BASE + "job a b 100 1;", "-1 2 26");
        setup(BASE + "job a b 0 0;", "-1 2 28");
        setup(BASE + "job a b 0 100;", "-1 2 28");
        // The first error counts, not the one with the smaller code.
        setup("queue a 51,", "-1 2 8");
    }

    private static void setupNames() {
        Check.begin("promise 4, BAD_NAME");
        setup("queue a 1;queue a 2;", "-1 3 16");
        setup("queue a 1;owner b;owner b;", "-1 3 24");
        setup("job a b 1 1;", "-1 3 4");
        setup("owner b;job a b 1 1;", "-1 3 12");
        setup("queue a 1;job a b 1 1;", "-1 3 16");
        setup(BASE + "job b a 1 1;", "-1 3 22");
        setup(BASE + "job a a 1 1;", "-1 3 24");
        setup(BASE + "job aa b 1 1;", "-1 3 22");
        // The first error of the text is the known name, though no number follows.
        setup("queue a 1;queue a;", "-1 3 16");
    }

    private static void setupLimits() {
        Check.begin("promise 4, TOO_MANY and TOO_FEW");
        String six = "queue a 1;queue b 1;queue c 1;queue d 1;queue e 1;queue f 1;";
        setup(six + "owner a;", "0 0 -1");
        setup(six + "queue g 1;owner a;", "-1 4 60");
        setup(six + "queue a", "-1 4 60");
        setup(six + "queu", "-1 1 60");
        String eight = "owner a;owner b;owner c;owner d;owner e;owner f;owner g;owner h;";
        setup(eight + "queue a 1;", "0 0 -1");
        setup(eight + "owner i;queue a 1;", "-1 4 64");
        StringBuilder jobs = new StringBuilder(BASE);
        for (int i = 0; i < 40; i++) {
            jobs.append("job a b 1 1;");
        }
        setup(jobs.toString(), "40 0 -1");
        setup(jobs + "job x", "-1 4 " + jobs.length());
        setup(jobs + "owner c;", "40 0 -1");
        setup("", "-1 5 0");
        setup(" \n", "-1 5 2");
        setup("queue a 1; ", "-1 5 11");
        setup("owner b;", "-1 5 8");
        setup("owner b", "-1 1 7");
    }

    private static void setupEffects() {
        Check.begin("promise 4, effects");
        LeftistSpooler x = new LeftistSpooler();
        x.writeHeap(0);
        x.printNext(0);
        x.setPaused(1, true);
        x.saveState();
        Check.due("an invalid setup", -1, () -> Texts.setup(x, "queue z 9;owner z;job z z 1 1;job"));
        Check.due("leaves everything", "2 2 6 1 true 4", () -> x.queueCount() + " " + x.ownerCount() + " " + x.jobCount()
            + " " + x.comparisons() + " " + x.isPaused(1) + " " + x.printedPages(0));
        Check.due("the buffer is empty after it", false, () -> x.truncateInput(1));
        Check.due("the changes stay", 1, () -> x.undo());
        Check.due("the saved state stays", 6, () -> x.restoreState());
        x.printNext(0);
        Check.due("a valid setup", 3, () -> Texts.setup(x, "queue z 9;owner z;job z z 3 1;job z z 2 1;job z z 1 1;"));
        Check.due("replaces everything", "1 1 3 0 0 0 false", () -> x.queueCount() + " " + x.ownerCount() + " " + x.jobCount()
            + " " + x.comparisons() + " " + x.swaps() + " " + x.printedPages(0) + " " + x.isPaused(0));
        Check.due("the output stays", "1(0,3(2,))", () -> Texts.output(x));
        Check.due("no change is left", "throws.NoSuchElementException", () -> x.undo());
        Check.due("no state is saved", "throws.NoSuchElementException", () -> x.restoreState());
        Check.due("the buffer is empty", false, () -> x.truncateInput(1));
        Check.due("the heap is that of the jobs in order", "2(1(0,),)", () -> Texts.heap(x, 0));
    }

    private static void validScripts() {
        Check.begin("promise 5, valid");
        script("", "0 0 -1");
        script(" \n", "0 0 -1");
        script("submit fast ann 0 1;", "1 0 -1");
        script("submit slow bob 99 99;print fast;cancel 0;priority2 99;move 3slow;merge slow fast;pause slow;resume slow;", "8 0 -1");
        script("cancel 000;", "1 0 -1");
        // The greatest job number is in its range, though there is no such job to execute it.
        script("cancel 39;", "0 0 -1");
        script("priority 39 0;", "0 0 -1");
        script("move 39 fast;", "0 0 -1");
    }

    private static void scriptErrors() {
        Check.begin("promise 5, errors");
        script("queue fast 1;", "-1 1 0");
        script("print fast", "-1 1 10");
        script("print", "-1 1 5");
        script("print 1;", "-1 1 6");
        script("print fastest;", "-1 1 6");
        script("cancel fast;", "-1 1 7");
        script("priority 1;", "-1 1 10");
        script("prioritys 1 1;", "-1 1 0");
        script("priorityp 1 1;", "-1 1 0");
        script("merge slow fast slow;", "-1 1 16");
        script("cancel 40;", "-1 2 7");
        script("move 40 fast;", "-1 2 5");
        script("priority 40 1;", "-1 2 9");
        script("priority 39 100;", "-1 2 12");
        script("submit fast ann 100 1;", "-1 2 16");
        script("submit fast ann 1 0;", "-1 2 18");
        script("submit fast ann 1 100;", "-1 2 18");
        script("print ann;", "-1 3 6");
        script("submit ann ann 1 1;", "-1 3 7");
        script("submit fast fast 1 1;", "-1 3 12");
        script("merge fast fast;", "-1 3 11");
        script("merge x x;", "-1 3 6");
        script("merge fast x;", "-1 3 11");
        script("move 1 x;", "-1 3 7");
        script("pause x;", "-1 3 6");
        script("resume x;", "-1 3 7");
        StringBuilder thirty = new StringBuilder();
        for (int i = 0; i < 30; i++) {
            thirty.append("pause fast;");
        }
        script(thirty.toString(), "30 0 -1");
        script(thirty + " print", "-1 4 331");
        script(thirty + " paint", "-1 1 331");
        script(thirty + ";", "-1 1 330");
    }

    private static void scriptExecution() {
        Check.begin("promise 5, execution");
        LeftistSpooler x = new LeftistSpooler();
        Check.due("an invalid script", -1, () -> Texts.script(x, "print fast;print x;"));
        Check.due("is not executed", 1, () -> x.root(0));
        Check.due("is no change", "throws.NoSuchElementException", () -> x.undo());
        Check.due("empties the buffer", false, () -> x.truncateInput(1));
        Check.due("a script ends before what throws", 2, () -> Texts.script(x, "print fast;cancel 0;cancel 0;print slow;"));
        Check.due("the statements before remain", "true true 4", () -> x.isPrinted(1) + " " + x.isCancelled(0) + " " + x.root(1));
        Check.due("an executed script empties the buffer", false, () -> x.truncateInput(1));
        Check.due("a script without a statement executed", 0, () -> Texts.script(x, "cancel 39;print fast;"));
        Check.due("is a change", 1, () -> x.undo());
        Check.due("a whole script is one change", 0, () -> x.undo());
        Check.due("undone whole", "1 true", () -> x.root(0) + " " + x.isWaiting(0));
        stops(x, "pause fast;print fast;", 1);
        stops(x, "merge fast slow;print fast;", 1);
        stops(x, "cancel 2;priority 2 5;", 1);
        stops(x, "cancel 2;move 2 slow;", 1);
        stops(x, "move 2 fast;", 0);
        stops(x, "priority 6 5;", 0);
        stops(x, "move 6 slow;", 0);
        stops(x, "priority 2 70;move 2 slow;move 2 fast;pause fast;pause fast;resume fast;print fast;", 7);
        LeftistSpooler full = new LeftistSpooler();
        for (int i = 6; i < 39; i++) {
            full.submit(0, 0, 1, 1);
        }
        Check.due("the 41st job ends a script", 1, () -> Texts.script(full, "submit slow bob 7 8;submit slow bob 7 8;"));
        Check.due("the 40th job", "40 1 1 7 8", () -> full.jobCount() + " " + full.queueOf(39) + " " + full.ownerOf(39) + " "
            + full.priority(39) + " " + full.pages(39));
        Check.due("merge goes from the first into the second", "-1 4",
            () -> Texts.script(new LeftistSpooler(), "") == 0 ? mergedRoots() : "");
    }

    private static String mergedRoots() {
        LeftistSpooler x = new LeftistSpooler();
        Texts.script(x, "merge fast slow;");
        return x.root(0) + " " + x.root(1);
    }

    private static void stops(LeftistSpooler x, String text, int executed) {
        Check.due(text, executed, () -> Texts.script(x, text));
        x.undo();
    }

    private static void errorReports() {
        Check.begin("promises 6 and 7");
        LeftistSpooler x = new LeftistSpooler();
        Check.due("no text was read", "0 -1", () -> x.errorCode() + " " + x.errorOffset());
        Texts.setup(x, "queue a 0;");
        Check.due("after an invalid setup", "2 8", () -> x.errorCode() + " " + x.errorOffset());
        Texts.script(x, "merge slow slow;");
        Check.due("after an invalid script", "3 11", () -> x.errorCode() + " " + x.errorOffset());
        x.printNext(0);
        x.undo();
        x.saveState();
        x.restoreState();
        Texts.put(x, "abc");
        Check.due("the report stays", "3 11", () -> x.errorCode() + " " + x.errorOffset());
        x.truncateInput(0);
        x.runScript();
        Check.due("after a valid script", "0 -1", () -> x.errorCode() + " " + x.errorOffset());
        Texts.setup(x, "queue");
        Texts.setup(x, BASE);
        Check.due("after a valid setup", "0 -1", () -> x.errorCode() + " " + x.errorOffset());
    }
}
