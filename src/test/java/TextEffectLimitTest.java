/** Promises 4 to 7: what reading a text leaves and what it replaces, at each limit that the document names. */
final class TextEffectLimitTest {
    private static final String NOTHING = "throws.NoSuchElementException";
    private static final String BASE = "queue a 1;owner b;";
    private static final String PAUSES = "pause fast;".repeat(30);
    private static final String[] INVALID_SETUPS = {
        "#", "queue z 9;owner z;job z z 1 1;job", "queue z 51;", "queue z 9;queue z 9;", "queue z 9;owner z;job z y 1 1;",
        "queue a1;queue b1;queue c1;queue d1;queue e1;queue f1;queue g1;", "", "queue z 9;", "owner z;"};
    private static final String[] INVALID_SCRIPTS = {
        "#", "print fast", "print fast;cancel 40;", "print fast;print x;", "cancel 0;merge fast fast;", PAUSES + "print fast;"};

    private TextEffectLimitTest() {
    }

    static void run() {
        emptiesTheBuffer();
        invalidSetup();
        validSetup();
        countersAfterASetup();
        nothingToUndoOrRestore();
        invalidScript();
        scriptIsOneChange();
        scriptWithoutAStatementExecuted();
        scriptAsTheNinthChange();
        statementsAsMethods();
        endOfExecution();
        longestExecution();
        errorReports();
    }

    /** An object in the middle of its work: changes, a saved state, an output and a reported error. */
    private static LeftistSpooler busy() {
        LeftistSpooler x = new LeftistSpooler();
        x.submit(1, 1, 20, 9);
        x.printNext(0);
        x.saveState();
        x.cancel(5);
        x.setPaused(1, true);
        x.writeHeap(0);
        Texts.script(x, "cancel 40;");
        // The check may work on a copy of all this, of which no later setup shows anything.
        x.isConsistent();
        return x;
    }

    private static LeftistSpooler afterSetup(String text) {
        LeftistSpooler x = busy();
        Texts.setup(x, text);
        return x;
    }

    private static LeftistSpooler afterScript(String text) {
        LeftistSpooler x = busy();
        Texts.script(x, text);
        return x;
    }

    private static void emptiesTheBuffer() {
        Check.begin("promise 4, \"empties the buffer in any case\"");
        Check.due("a valid setup", 0, () -> Telling.bufferLength(afterSetup(BASE)));
        Check.due("a setup of 600 bytes", 0, () -> Telling.bufferLength(afterSetup(BASE + " ".repeat(582))));
        for (String text : INVALID_SETUPS) {
            Check.due("an invalid setup: " + text, 0, () -> Telling.bufferLength(afterSetup(text)));
        }
        Check.begin("promise 5, \"empties the buffer in any case\"");
        Check.due("a valid script", 0, () -> Telling.bufferLength(afterScript("print fast;")));
        Check.due("a script that ends early", 0, () -> Telling.bufferLength(afterScript("cancel 39;print fast;")));
        Check.due("an empty script", 0, () -> Telling.bufferLength(afterScript("")));
        Check.due("a script of 600 bytes", 0, () -> Telling.bufferLength(afterScript(" ".repeat(600))));
        for (String text : INVALID_SCRIPTS) {
            Check.due("an invalid script: " + text, 0, () -> Telling.bufferLength(afterScript(text)));
        }
    }

    private static void invalidSetup() {
        Check.begin("promise 4, \"an invalid setup leaves everything as it was\"");
        String before = Telling.ofOutput(busy()) + Telling.ofSpooler(TextEffectLimitTest::busy);
        for (String text : INVALID_SETUPS) {
            Check.due(text, before, () -> Telling.ofOutput(afterSetup(text)) + Telling.ofSpooler(() -> afterSetup(text)));
            Check.due("NONE of " + text, -1, () -> Texts.setup(busy(), text));
        }
        Check.due("an invalid setup after a new object", Telling.ofSpooler(LeftistSpooler::new), () -> Telling.ofSpooler(() -> {
            LeftistSpooler x = new LeftistSpooler();
            Texts.setup(x, INVALID_SETUPS[1]);
            return x;
        }));
    }

    private static void validSetup() {
        Check.begin("promise 4, \"a valid setup replaces everything except the output\"");
        String small = "queue z 9;owner y;job z y 3 1;";
        Check.due("as if it were the first setup", Telling.ofSpooler(() -> Texts.of(small)), () -> Telling.ofSpooler(() -> afterSetup(small)));
        Check.due("a setup without a job", Telling.ofSpooler(() -> Texts.of(BASE)), () -> Telling.ofSpooler(() -> afterSetup(BASE)));
        Check.due("the output stays", Telling.ofOutput(busy()), () -> Telling.ofOutput(afterSetup(small)));
        Check.due("no output stays", "", () -> Texts.output(Texts.of(small)));
        Check.due("a queue is not paused at first", "false false", () -> {
            LeftistSpooler x = busy();
            x.setPaused(0, true);
            x.isConsistent();
            Texts.setup(x, "queue a 1;queue b 1;owner b;");
            return x.isPaused(0) + " " + x.isPaused(1);
        });
        Check.due("a second setup counts its jobs anew", "2 1", () -> {
            LeftistSpooler x = Texts.of(BASE + "job a b 1 1;job a b 2 2;");
            return x.jobCount() + " " + Texts.setup(x, small);
        });
        Check.due("nothing of the jobs before is left", "1 0 true 0 0 1 1.0 0.0 1 1 1", () -> {
            LeftistSpooler x = Texts.of("queue a1;queue b1;owner a;owner b;" + "job b b 99 99;".repeat(40));
            for (int n = 0; n < 20; n++) {
                x.printNext(1);
            }
            x.isConsistent();
            Texts.setup(x, "queue z 9;owner y;job z y 99 1;");
            return x.jobCount() + " " + x.queueOf(0) + " " + x.isWaiting(0) + " " + x.positionOf(0) + " " + x.pagesBefore(0) + " "
                + x.minutesUntilPrinted(0) + " " + x.meanRank() + " " + x.printedPart() + " " + x.size(0) + " " + x.height(0) + " "
                + x.waitingPagesOfOwner(0);
        });
        Check.due("a smaller setup after a greater one", Telling.ofSpooler(() -> Texts.of(small)), () -> Telling.ofSpooler(() -> {
            LeftistSpooler x = Texts.of("queue a1;queue b1;queue c1;queue d1;queue e1;queue f1;owner a;owner b;" + "job f b 1 1;".repeat(40));
            Texts.setup(x, small);
            return x;
        }));
    }

    private static void countersAfterASetup() {
        Check.begin("promise 4, \"all counters are 0 after it\"");
        String jobs = BASE + "job a b 3 1;job a b 2 1;job a b 1 1;job a b 4 1;";
        for (String text : new String[] {BASE, jobs}) {
            Check.due("comparisons, swaps, printed pages after " + text, "0 0 0 0 0.0", () -> {
                LeftistSpooler x = afterSetup(text);
                return x.comparisons() + " " + x.swaps() + " " + x.printedPages(0) + " " + x.printedPagesOfOwner(0) + " " + x.printedPart();
            });
        }
        Check.due("counting begins again", "1 1", () -> {
            LeftistSpooler x = afterSetup(jobs);
            // The new job precedes the root; the whole heap becomes its right child and then its left one.
            x.submit(0, 0, 0, 1);
            return x.comparisons() + " " + x.swaps();
        });
    }

    private static void nothingToUndoOrRestore() {
        Check.begin("promise 4, \"no change can be undone, and no state is saved\"");
        Check.due("undo after a valid setup", NOTHING, () -> afterSetup(BASE).undo());
        Check.due("restoreState after a valid setup", NOTHING, () -> afterSetup(BASE).restoreState());
        Check.due("undo after an invalid setup", 3, () -> afterSetup("#").undo());
        Check.due("restoreState after an invalid setup", 7, () -> afterSetup("#").restoreState());
        Check.due("after 8 changes", NOTHING, () -> {
            LeftistSpooler x = new LeftistSpooler();
            for (int n = 0; n < 8; n++) {
                x.setPaused(0, true);
            }
            Texts.setup(x, BASE);
            return x.undo();
        });
        Check.due("the first change after it", "0 throws.NoSuchElementException", () -> {
            LeftistSpooler x = afterSetup(BASE);
            x.setPaused(0, true);
            return x.undo() + " " + Check.answerOf(() -> x.undo());
        });
    }

    private static void invalidScript() {
        Check.begin("promise 5, \"an invalid script is not executed\"");
        String before = Telling.ofOutput(busy()) + Telling.ofSpooler(TextEffectLimitTest::busy);
        for (String text : INVALID_SCRIPTS) {
            Check.due(text, before, () -> Telling.ofOutput(afterScript(text)) + Telling.ofSpooler(() -> afterScript(text)));
            Check.due("NONE of " + text, -1, () -> Texts.script(busy(), text));
        }
    }

    private static void scriptIsOneChange() {
        Check.begin("promise 5, \"its execution is one change\"");
        String text = "submit fast ann 1 1;print fast;cancel 0;priority 2 5;move 3 slow;merge fast slow;pause fast;resume slow;";
        Check.due("8 statements, one of each kind", 8, () -> Texts.script(busy(), text));
        Check.due("4 changes before it and this one", 4, () -> afterScript(text).undo());
        Check.due("undone, all is as before", Telling.ofSpooler(TextEffectLimitTest::busy), () -> Telling.ofSpooler(() -> {
            LeftistSpooler x = afterScript(text);
            x.undo();
            return x;
        }));
        Check.due("30 statements", "30 0 throws.NoSuchElementException", () -> {
            LeftistSpooler x = new LeftistSpooler();
            return Texts.script(x, PAUSES) + " " + x.undo() + " " + Check.answerOf(() -> x.undo());
        });
    }

    private static void scriptWithoutAStatementExecuted() {
        Check.begin("promise 5, \"one change, even if no statement is executed\"");
        String before = Telling.ofNow(TextEffectLimitTest::busy);
        for (String text : new String[] {"", " \n", "cancel 39;", "cancel 39;print fast;", "print slow;resume slow;"}) {
            Check.due("executed of " + text, 0, () -> Texts.script(busy(), text));
            Check.due("the change of " + text, 4, () -> afterScript(text).undo());
            Check.due("all else is as before " + text, before, () -> Telling.ofNow(() -> afterScript(text)));
        }
    }

    private static void scriptAsTheNinthChange() {
        Check.begin("promise 5, a script as the ninth change drops the oldest one");
        for (String text : new String[] {"", "cancel 39;", "submit fast ann 1 1;submit fast ann 1 1;"}) {
            Check.due(text, "7 14", () -> {
                LeftistSpooler x = afterEightSubmits(text);
                return x.undo() + " " + x.jobCount();
            });
            Check.due("the oldest one stays after " + text, "0 7 throws.NoSuchElementException", () -> {
                LeftistSpooler x = afterEightSubmits(text);
                while (x.undo() > 0) {
                    continue;
                }
                return "0 " + x.jobCount() + " " + Check.answerOf(() -> x.undo());
            });
        }
    }

    private static LeftistSpooler afterEightSubmits(String script) {
        LeftistSpooler x = new LeftistSpooler();
        for (int n = 0; n < 8; n++) {
            x.submit(0, 0, 1, 1);
        }
        Texts.script(x, script);
        return x;
    }

    interface Change {
        Object on(LeftistSpooler x);
    }

    /** A statement and the call that it stands for leave the same. */
    private static void same(String statement, Change method) {
        Check.due(statement, Telling.ofNow(() -> {
            LeftistSpooler x = busy();
            method.on(x);
            return x;
        }), () -> Telling.ofNow(() -> afterScript(statement)));
    }

    private static void statementsAsMethods() {
        Check.begin("promise 5, \"the statements of a script are executed ... as the methods\"");
        same("submit slow bob 0 99;", x -> x.submit(1, 1, 0, 99));
        same("submit fast ann 99 1;", x -> x.submit(0, 0, 99, 1));
        same("print fast;", x -> x.printNext(0));
        same("cancel 6;", x -> x.cancel(6));
        same("priority 6 99;", x -> x.changePriority(6, 99));
        same("priority 0 0;", x -> x.changePriority(0, 0));
        same("move 3 slow;", x -> x.moveJob(3, 1));
        same("move 6 fast;", x -> x.moveJob(6, 0));
        same("merge fast slow;", x -> x.mergeQueues(0, 1));
        same("merge slow fast;", x -> x.mergeQueues(1, 0));
        same("pause fast;", x -> x.setPaused(0, true));
        same("pause slow;", x -> x.setPaused(1, true));
        same("resume fast;", x -> x.setPaused(0, false));
        same("resume slow;", x -> x.setPaused(1, false));
    }

    private static LeftistSpooler afterScripts(String first, String second) {
        LeftistSpooler x = new LeftistSpooler();
        Texts.script(x, first);
        Texts.script(x, second);
        return x;
    }

    private static String firstStatements(String text, int count) {
        int end = 0;
        for (int n = 0; n < count; n++) {
            end = text.indexOf(';', end) + 1;
        }
        return text.substring(0, end);
    }

    /** Runs a script after another one, on a new object, and tells how many statements were executed. */
    private static void stops(String theCase, String before, String text, int due) {
        Check.due(theCase + ": " + before + text, due, () -> {
            LeftistSpooler x = new LeftistSpooler();
            Texts.script(x, before);
            return Texts.script(x, text);
        });
        Check.due("what follows is not executed: " + text, false, () -> afterScripts(before, text + "pause slow;").isPaused(1));
        Check.due("nothing but the statements before: " + text, Telling.ofNow(() -> afterScripts(before, firstStatements(text, due))),
            () -> Telling.ofNow(() -> afterScripts(before, text + "pause slow;")));
        Check.due("undone whole: " + text, Telling.ofNow(() -> afterScripts(before, "")), () -> Telling.ofNow(() -> {
            LeftistSpooler x = afterScripts(before, text);
            x.undo();
            return x;
        }));
    }

    private static void endOfExecution() {
        Check.begin("promise 5, \"execution ends before the first statement whose method would throw\"");
        stops("print of a paused queue", "pause fast;", "resume slow;print fast;", 1);
        stops("print of an empty queue", "merge fast slow;", "resume slow;print fast;", 1);
        stops("cancel of the first handle beyond the jobs", "", "cancel 5;cancel 6;", 1);
        stops("cancel of a printed job", "print fast;", "cancel 0;cancel 1;", 1);
        stops("cancel of a cancelled job", "", "cancel 0;cancel 0;", 1);
        stops("priority of the first handle beyond the jobs", "", "priority 5 1;priority 6 1;", 1);
        stops("priority of a printed job", "print fast;", "priority 0 1;priority 1 1;", 1);
        stops("priority of a cancelled job", "", "cancel 0;priority 0 1;", 1);
        stops("move of the first handle beyond the jobs", "", "move 5 fast;move 6 fast;", 1);
        stops("move of a printed job", "print fast;", "move 0 slow;move 1 slow;", 1);
        stops("move of a cancelled job", "", "cancel 0;move 0 slow;", 1);
        stops("move into its own queue", "", "move 0 slow;move 0 slow;", 1);
        stops("the very first statement", "", "cancel 39;", 0);
        stops("submit of a 41st job", "submit fast ann1 1;".repeat(30), "submit fast ann1 1;".repeat(5), 4);
        Check.due("merge of two empty queues and pausing twice never end it", 6,
            () -> Texts.script(new LeftistSpooler(), "merge fast slow;merge fast slow;pause fast;pause fast;resume slow;resume slow;"));
    }

    private static void longestExecution() {
        Check.begin("promise 5, \"returns the number of statements executed\"");
        Check.due("30 of 30", 30, () -> Texts.script(new LeftistSpooler(), "submit fast ann1 1;".repeat(30)));
        Check.due("the 40th job by a script", "4 40 1 1 7 8", () -> {
            LeftistSpooler x = new LeftistSpooler();
            Texts.script(x, "submit slow bob1 1;".repeat(30));
            int executed = Texts.script(x, "submit slow bob7 8;".repeat(5));
            return executed + " " + x.jobCount() + " " + x.queueOf(39) + " " + x.ownerOf(39) + " " + x.priority(39) + " " + x.pages(39);
        });
        Check.due("the statements before remain executed", "true true 4", () -> {
            LeftistSpooler x = new LeftistSpooler();
            Texts.script(x, "print fast;cancel 0;cancel 0;print slow;");
            return x.isPrinted(1) + " " + x.isCancelled(0) + " " + x.root(1);
        });
    }

    private static void errorReports() {
        Check.begin("promises 6 and 7, \"NO_ERROR if that text was valid or there was no such call\", NONE");
        Check.due("no such call", "0 -1", () -> Telling.report(new LeftistSpooler()));
        Check.due("bytes that were not read", "0 -1", () -> {
            LeftistSpooler x = new LeftistSpooler();
            x.appendInput(-1, -1, -1, -1, -1);
            x.truncateInput(21);
            return Telling.report(x);
        });
        Check.due("an invalid setup, offset 0", "1 0", () -> Telling.report(afterSetup("#")));
        Check.due("an invalid script, offset 0", "1 0", () -> Telling.report(afterScript("#")));
        Check.due("an invalid script, then a valid one", "0 -1", () -> Telling.report(afterScript("cancel 39;")));
        Check.due("an invalid script, then a valid setup", "0 -1", () -> Telling.report(afterSetup(BASE)));
        Check.due("an invalid setup, then an empty script", "0 -1", () -> {
            LeftistSpooler x = afterSetup("");
            return x.runScript() < 0 ? "invalid" : Telling.report(x);
        });
        Check.due("an empty script, then an empty setup", "5 0", () -> {
            LeftistSpooler x = afterScript("");
            x.loadSetup();
            return Telling.report(x);
        });
        Check.due("a refused change is no such call", "2 7", () -> {
            LeftistSpooler x = busy();
            Check.answerOf(() -> x.cancel(99));
            Check.answerOf(() -> x.undo());
            return Telling.report(x);
        });
    }
}
