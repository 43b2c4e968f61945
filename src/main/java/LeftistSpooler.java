import java.util.NoSuchElementException;

/** A print spooler that keeps each of its queues as a leftist heap with handles. */
public final class LeftistSpooler {
    public static final int NONE = -1;
    public static final int NO_ERROR = 0;
    public static final int SYNTAX = 1;
    public static final int OUT_OF_RANGE = 2;
    public static final int BAD_NAME = 3;
    public static final int TOO_MANY = 4;
    public static final int TOO_FEW = 5;
    public static final int CAN_PRINT = 0;
    public static final int PAUSED = 1;
    public static final int EMPTY = 2;

    private static final int MAX_QUEUES = 6;
    private static final int MAX_OWNERS = 8;
    private static final int MAX_JOBS = 40;
    private static final int MAX_SPEED = 50;
    private static final int MAX_PRIORITY = 99;
    private static final int MAX_PAGES = 99;
    private static final int MAX_STATEMENTS = 30;
    private static final int MAX_CHANGES = 8;
    private static final int MAX_INPUT = 600;
    private static final int APPENDED_BYTES = 20;
    private static final int MAX_NAME = 6;
    private static final int MAX_WORD = 8;
    private static final int MAX_DIGITS = 3;
    // 40 handles have 70 digits; 39 of them may have children, with 3 signs each.
    private static final int MAX_OUTPUT = 200;

    private static final String FIRST_QUEUES_AND_OWNERS = "queue fast 20;queue slow 5;owner ann;owner bob;";
    private static final String FIRST_FAST_JOBS =
        "job fast ann 50 10;job fast bob 30 4;job fast ann 70 25;job fast bob 40 8;";
    private static final String FIRST_SLOW_JOBS = "job slow ann 20 3;job slow bob 60 6;";

    // What became of a job.
    private static final int WAITING = 0;
    private static final int PRINTED = 1;
    private static final int CANCELLED = 2;

    // The kinds of tokens.
    private static final int END = 0;
    private static final int WORD = 1;
    private static final int NUMBER = 2;
    private static final int SEMICOLON = 3;
    private static final int WRONG = 4;

    // The kinds of script statements.
    private static final int SUBMIT = 0;
    private static final int PRINT = 1;
    private static final int CANCEL = 2;
    private static final int PRIORITY = 3;
    private static final int MOVE = 4;
    private static final int MERGE = 5;
    private static final int PAUSE = 6;
    private static final int RESUME = 7;

    private final Reader reader = new Reader();
    private final Script script = new Script();
    private final Output output = new Output();
    private final History history = new History();
    private final State state = new State();
    // A setup is built here before it is known to be valid, and heaps are emptied here to be checked.
    private final State scratch = new State();
    private final State saved = new State();
    private boolean hasSaved = false;
    private Setup setup = new Setup();
    private Setup draft = new Setup();

    public LeftistSpooler() {
        reader.appendText(FIRST_QUEUES_AND_OWNERS);
        reader.appendText(FIRST_FAST_JOBS);
        reader.appendText(FIRST_SLOW_JOBS);
        if (readSetup()) {
            adoptDraft();
        }
    }

    // ---- Texts ----

    public int appendInput(int a, int b, int c, int d, int e) {
        if (reader.length > MAX_INPUT - APPENDED_BYTES) {
            return NONE;
        }
        reader.appendFourBytes(a);
        reader.appendFourBytes(b);
        reader.appendFourBytes(c);
        reader.appendFourBytes(d);
        reader.appendFourBytes(e);
        return reader.length;
    }

    public boolean truncateInput(int length) {
        if (length < 0 || length > reader.length) {
            return false;
        }
        reader.length = length;
        return true;
    }

    public int loadSetup() {
        if (!readSetup()) {
            return NONE;
        }
        adoptDraft();
        return state.jobCount;
    }

    public int runScript() {
        if (!readScript()) {
            return NONE;
        }
        history.keep(state);
        int executed = 0;
        while (executed < script.count && execute(executed)) {
            executed++;
        }
        return executed;
    }

    public int errorCode() {
        return reader.errorKind;
    }

    public int errorOffset() {
        return reader.errorAt;
    }

    // ---- Queues, owners and jobs ----

    public int queueCount() {
        return setup.queues.count;
    }

    public int ownerCount() {
        return setup.owners.count;
    }

    public int jobCount() {
        return state.jobCount;
    }

    public int queueNameByte(int queue, int index) throws IndexOutOfBoundsException {
        checkQueue(queue);
        return setup.queues.letter(queue, index);
    }

    public int ownerNameByte(int owner, int index) throws IndexOutOfBoundsException {
        checkOwner(owner);
        return setup.owners.letter(owner, index);
    }

    public int queueOf(int job) throws IndexOutOfBoundsException {
        checkJob(job);
        return state.queue[job];
    }

    public int ownerOf(int job) throws IndexOutOfBoundsException {
        checkJob(job);
        return state.owner[job];
    }

    public int priority(int job) throws IndexOutOfBoundsException {
        checkJob(job);
        return state.heaps.priority[job];
    }

    public int pages(int job) throws IndexOutOfBoundsException {
        checkJob(job);
        return state.pages[job];
    }

    public boolean isWaiting(int job) throws IndexOutOfBoundsException {
        checkJob(job);
        return state.fate[job] == WAITING;
    }

    public boolean isPrinted(int job) throws IndexOutOfBoundsException {
        checkJob(job);
        return state.fate[job] == PRINTED;
    }

    public boolean isCancelled(int job) throws IndexOutOfBoundsException {
        checkJob(job);
        return state.fate[job] == CANCELLED;
    }

    // ---- Heaps ----

    public int root(int queue) throws IndexOutOfBoundsException {
        checkQueue(queue);
        return state.root[queue];
    }

    public int leftChild(int job) throws IndexOutOfBoundsException {
        checkJob(job);
        return state.heaps.left[job];
    }

    public int rightChild(int job) throws IndexOutOfBoundsException {
        checkJob(job);
        return state.heaps.right[job];
    }

    public int parent(int job) throws IndexOutOfBoundsException {
        checkJob(job);
        return state.heaps.above[job];
    }

    public int rank(int job) throws IndexOutOfBoundsException {
        checkJob(job);
        return state.heaps.rankOf(job);
    }

    public int depth(int job) throws IndexOutOfBoundsException, IllegalStateException {
        checkJob(job);
        checkWaits(job);
        return state.heaps.ancestors(job);
    }

    public int height(int queue) throws IndexOutOfBoundsException {
        checkQueue(queue);
        return state.longestPath(queue);
    }

    public int size(int queue) throws IndexOutOfBoundsException {
        checkQueue(queue);
        return state.jobsIn(queue);
    }

    // ---- Printing order and pages ----

    public int jobAt(int queue, int position) throws IndexOutOfBoundsException {
        checkQueue(queue);
        if (position < 0 || position >= state.jobsIn(queue)) {
            return NONE;
        }
        int job = state.firstAfter(queue, NONE);
        for (int n = 0; n < position; n++) {
            job = state.firstAfter(queue, job);
        }
        return job;
    }

    public int positionOf(int job) throws IndexOutOfBoundsException, IllegalStateException {
        checkJob(job);
        checkWaits(job);
        return state.jobsAhead(job, state.heaps.priority[job]);
    }

    public int pagesBefore(int job) throws IndexOutOfBoundsException, IllegalStateException {
        checkJob(job);
        checkWaits(job);
        return state.pagesAhead(job);
    }

    public int minutesUntilPrinted(int job) throws IndexOutOfBoundsException, IllegalStateException {
        checkJob(job);
        checkWaits(job);
        return setup.minutes(state.queue[job], state.pagesAhead(job) + state.pages[job]);
    }

    public int waitingPages(int queue) throws IndexOutOfBoundsException {
        checkQueue(queue);
        return state.pagesIn(queue);
    }

    public int printedPages(int queue) throws IndexOutOfBoundsException {
        checkQueue(queue);
        return state.printed[queue];
    }

    public int speed(int queue) throws IndexOutOfBoundsException {
        checkQueue(queue);
        return setup.speeds[queue];
    }

    public boolean isPaused(int queue) throws IndexOutOfBoundsException {
        checkQueue(queue);
        return state.paused[queue];
    }

    public int leastLoadedQueue() {
        int best = 0;
        int bestMinutes = setup.minutes(0, state.pagesIn(0));
        for (int queue = 1; queue < setup.queues.count; queue++) {
            int minutes = setup.minutes(queue, state.pagesIn(queue));
            if (minutes < bestMinutes) {
                best = queue;
                bestMinutes = minutes;
            }
        }
        return best;
    }

    public int waitingPagesOfOwner(int owner) throws IndexOutOfBoundsException {
        checkOwner(owner);
        return state.pagesOfOwner(owner, WAITING);
    }

    public int printedPagesOfOwner(int owner) throws IndexOutOfBoundsException {
        checkOwner(owner);
        return state.pagesOfOwner(owner, PRINTED);
    }

    public int printingObstacle(int queue) throws IndexOutOfBoundsException {
        checkQueue(queue);
        return state.obstacle(queue);
    }

    // ---- Counters, forecasts and measures ----

    public int comparisons() {
        return state.heaps.compared;
    }

    public int swaps() {
        return state.heaps.swapped;
    }

    public int mergeCost(int from, int into) throws IndexOutOfBoundsException, IllegalArgumentException {
        checkTwoQueues(from, into);
        return state.heaps.comparisonsToMerge(state.root[from], state.root[into]);
    }

    public int rankAfterMerge(int from, int into) throws IndexOutOfBoundsException, IllegalArgumentException {
        checkTwoQueues(from, into);
        return state.heaps.rankOfMerged(state.root[from], state.root[into]);
    }

    public int positionWith(int job, int priority)
            throws IndexOutOfBoundsException, IllegalArgumentException, IllegalStateException {
        checkJob(job);
        checkPriority(priority);
        checkWaits(job);
        return state.jobsAhead(job, priority);
    }

    public double meanRank() {
        int jobs = state.waitingJobs();
        return jobs == 0 ? 0.0 : (double) state.sumOfRanks() / (double) jobs;
    }

    public float printedPart() {
        int all = state.pagesOfAllJobs();
        return all == 0 ? 0.0f : (float) state.pagesOfAllPrinted() / (float) all;
    }

    public boolean isConsistent() {
        for (int job = 0; job < state.jobCount && job < MAX_JOBS; job++) {
            if (!state.isSound(job)) {
                return false;
            }
        }
        scratch.copyFrom(state);
        for (int queue = 0; queue < setup.queues.count; queue++) {
            if (!state.empties(queue, scratch.heaps)) {
                return false;
            }
        }
        return true;
    }

    // ---- Changes ----

    public int submit(int queue, int owner, int priority, int pages)
            throws IndexOutOfBoundsException, IllegalArgumentException, IllegalStateException {
        checkQueue(queue);
        checkOwner(owner);
        checkPriority(priority);
        if (pages < 1 || pages > MAX_PAGES) {
            throw new IllegalArgumentException("pages are 1 to 99");
        }
        if (state.isFull()) {
            throw new IllegalStateException("there are 40 jobs");
        }
        history.keep(state);
        return state.addJob(queue, owner, priority, pages);
    }

    public int printNext(int queue) throws IndexOutOfBoundsException, IllegalStateException {
        checkQueue(queue);
        if (state.obstacle(queue) != CAN_PRINT) {
            throw new IllegalStateException("the queue is paused or empty");
        }
        history.keep(state);
        int job = state.root[queue];
        state.endJob(job, PRINTED);
        return job;
    }

    public int cancel(int job) throws IndexOutOfBoundsException, IllegalStateException {
        checkJob(job);
        checkWaits(job);
        history.keep(state);
        int queue = state.queue[job];
        state.endJob(job, CANCELLED);
        return state.jobsIn(queue);
    }

    public int changePriority(int job, int priority)
            throws IndexOutOfBoundsException, IllegalArgumentException, IllegalStateException {
        checkJob(job);
        checkPriority(priority);
        checkWaits(job);
        history.keep(state);
        int before = state.heaps.priority[job];
        state.insertAgain(job, state.queue[job], priority);
        return before;
    }

    public int moveJob(int job, int queue) throws IndexOutOfBoundsException, IllegalStateException {
        checkJob(job);
        checkQueue(queue);
        if (!state.canMove(job, queue)) {
            throw new IllegalStateException("the job is not waiting, or is in this queue");
        }
        history.keep(state);
        state.insertAgain(job, queue, state.heaps.priority[job]);
        return state.root[queue];
    }

    public int mergeQueues(int from, int into) throws IndexOutOfBoundsException, IllegalArgumentException {
        checkTwoQueues(from, into);
        history.keep(state);
        state.joinQueues(from, into);
        return state.jobsIn(into);
    }

    public boolean setPaused(int queue, boolean paused) throws IndexOutOfBoundsException {
        checkQueue(queue);
        history.keep(state);
        boolean before = state.paused[queue];
        state.holdQueue(queue, paused);
        return before;
    }

    public int undo() throws NoSuchElementException {
        if (history.count == 0) {
            throw new NoSuchElementException("there is no change to undo");
        }
        history.takeBack(state);
        return history.count;
    }

    // ---- Output and saved state ----

    public int writeHeap(int queue) throws IndexOutOfBoundsException {
        checkQueue(queue);
        output.length = 0;
        writeTree(state.heaps, output, state.root[queue], 1);
        return output.length;
    }

    public int outputByte(int index) {
        return output.at(index);
    }

    public int saveState() {
        saved.copyFrom(state);
        hasSaved = true;
        return state.jobCount;
    }

    public int restoreState() throws NoSuchElementException {
        if (!hasSaved) {
            throw new NoSuchElementException("no state is saved");
        }
        state.copyFrom(saved);
        history.clear();
        return state.jobCount;
    }

    // ---- Checks of arguments ----

    private void checkQueue(int queue) {
        if (queue < 0 || queue >= setup.queues.count || queue >= MAX_QUEUES) {
            throw new IndexOutOfBoundsException("there is no such queue");
        }
    }

    private void checkOwner(int owner) {
        if (owner < 0 || owner >= setup.owners.count || owner >= MAX_OWNERS) {
            throw new IndexOutOfBoundsException("there is no such owner");
        }
    }

    private void checkJob(int job) {
        if (job < 0 || job >= state.jobCount || job >= MAX_JOBS) {
            throw new IndexOutOfBoundsException("there is no such job");
        }
    }

    private void checkWaits(int job) {
        if (!state.waits(job)) {
            throw new IllegalStateException("the job is not waiting");
        }
    }

    private void checkTwoQueues(int from, int into) {
        checkQueue(from);
        checkQueue(into);
        if (from == into) {
            throw new IllegalArgumentException("both queues are the same");
        }
    }

    private static void checkPriority(int priority) {
        if (priority < 0 || priority > MAX_PRIORITY) {
            throw new IllegalArgumentException("a priority is 0 to 99");
        }
    }

    // ---- Reading a setup ----

    /** Reads the input as a setup into draft and scratch and tells whether it is valid. */
    private boolean readSetup() {
        draft.clear();
        scratch.clear();
        reader.begin();
        for (int n = 0; n <= MAX_INPUT && reader.startsStatement(); n++) {
            if (reader.isWord("queue")) {
                readQueue();
            } else if (reader.isWord("owner")) {
                readOwner();
            } else if (reader.isWord("job")) {
                readJob();
            } else {
                reader.fail(SYNTAX);
            }
        }
        if (draft.queues.count == 0 || draft.owners.count == 0) {
            reader.fail(TOO_FEW);
        }
        return reader.isValid();
    }

    private void readQueue() {
        if (draft.queues.count >= MAX_QUEUES) {
            reader.fail(TOO_MANY);
        }
        long name = reader.newName(draft.queues);
        int speed = reader.number(1, MAX_SPEED);
        reader.semicolon();
        if (reader.isValid()) {
            draft.addQueue(name, speed);
        }
    }

    private void readOwner() {
        if (draft.owners.count >= MAX_OWNERS) {
            reader.fail(TOO_MANY);
        }
        long name = reader.newName(draft.owners);
        reader.semicolon();
        if (reader.isValid()) {
            draft.owners.add(name);
        }
    }

    private void readJob() {
        if (scratch.isFull()) {
            reader.fail(TOO_MANY);
        }
        int queue = reader.knownName(draft.queues);
        int owner = reader.knownName(draft.owners);
        int priority = reader.number(0, MAX_PRIORITY);
        int pages = reader.number(1, MAX_PAGES);
        reader.semicolon();
        if (reader.isValid()) {
            scratch.addJob(queue, owner, priority, pages);
        }
    }

    private void adoptDraft() {
        Setup former = setup;
        setup = draft;
        draft = former;
        state.copyFrom(scratch);
        state.heaps.clearCounters();
        history.clear();
        hasSaved = false;
    }

    // ---- Reading and executing a script ----

    /** Reads the input as a script and tells whether it is valid. */
    private boolean readScript() {
        script.count = 0;
        reader.begin();
        for (int n = 0; n <= MAX_INPUT && reader.startsStatement(); n++) {
            int kind = statementKind();
            if (kind == NONE) {
                reader.fail(SYNTAX);
            } else if (script.count >= MAX_STATEMENTS) {
                reader.fail(TOO_MANY);
            } else {
                readStatement(kind);
            }
        }
        return reader.isValid();
    }

    private int statementKind() {
        if (reader.isWord("submit")) {
            return SUBMIT;
        }
        if (reader.isWord("print")) {
            return PRINT;
        }
        if (reader.isWord("cancel")) {
            return CANCEL;
        }
        if (reader.isWord("priority")) {
            return PRIORITY;
        }
        if (reader.isWord("move")) {
            return MOVE;
        }
        if (reader.isWord("merge")) {
            return MERGE;
        }
        if (reader.isWord("pause")) {
            return PAUSE;
        }
        return reader.isWord("resume") ? RESUME : NONE;
    }

    private void readStatement(int kind) {
        int a = NONE;
        int b = NONE;
        int c = NONE;
        int d = NONE;
        switch (kind) {
            case SUBMIT:
                a = reader.knownName(setup.queues);
                b = reader.knownName(setup.owners);
                c = reader.number(0, MAX_PRIORITY);
                d = reader.number(1, MAX_PAGES);
                break;
            case CANCEL:
                a = reader.number(0, MAX_JOBS - 1);
                break;
            case PRIORITY:
                a = reader.number(0, MAX_JOBS - 1);
                b = reader.number(0, MAX_PRIORITY);
                break;
            case MOVE:
                a = reader.number(0, MAX_JOBS - 1);
                b = reader.knownName(setup.queues);
                break;
            case MERGE:
                a = reader.knownName(setup.queues);
                b = reader.knownName(setup.queues);
                if (a == b) {
                    reader.fail(BAD_NAME);
                }
                break;
            default:
                a = reader.knownName(setup.queues);
                break;
        }
        reader.semicolon();
        if (reader.isValid()) {
            script.add(kind, a, b, c, d);
        }
    }

    /** Executes a statement, or answers false and changes nothing if its method would throw. */
    private boolean execute(int index) {
        if (index < 0 || index >= MAX_STATEMENTS) {
            return false;
        }
        int a = script.first[index];
        int b = script.second[index];
        switch (script.kind[index]) {
            case SUBMIT:
                return state.addJob(a, b, script.third[index], script.fourth[index]) != NONE;
            case PRINT:
                return state.obstacle(a) == CAN_PRINT && state.endJob(state.root[a], PRINTED);
            case CANCEL:
                return state.endJob(a, CANCELLED);
            case PRIORITY:
                return state.waits(a) && state.insertAgain(a, state.queue[a], b);
            case MOVE:
                return state.canMove(a, b) && state.insertAgain(a, b, state.heaps.priority[a]);
            case MERGE:
                return state.joinQueues(a, b);
            case PAUSE:
                return state.holdQueue(a, true);
            default:
                return state.holdQueue(a, false);
        }
    }

    // ---- Writing a heap ----

    private static void writeTree(Heaps heaps, Output output, int job, int level) {
        if (!Heaps.isNode(job) || level > MAX_JOBS) {
            return;
        }
        output.addNumber(job);
        if (heaps.left[job] == NONE) {
            return;
        }
        output.add('(');
        writeTree(heaps, output, heaps.left[job], level + 1);
        output.add(',');
        writeTree(heaps, output, heaps.right[job], level + 1);
        output.add(')');
    }

    private static void copyRow(int[] from, int[] to) {
        System.arraycopy(from, 0, to, 0, Math.min(from.length, to.length));
    }

    /** The input buffer, the tokens of the text in it, and the first error found there. */
    private static final class Reader {
        final int[] text = new int[MAX_INPUT];
        int length = 0;
        // The buffer is emptied when reading begins; the text that is read reaches up to here.
        int end = 0;
        int next = 0;
        int token = END;
        int tokenAt = 0;
        long word = 0;
        int value = 0;
        int errorKind = NO_ERROR;
        int errorAt = NONE;

        void appendText(String characters) {
            for (int i = 0; i < characters.length(); i++) {
                appendByte(characters.charAt(i));
            }
        }

        void appendFourBytes(int bytes) {
            appendByte(bytes >>> 24);
            appendByte(bytes >>> 16);
            appendByte(bytes >>> 8);
            appendByte(bytes);
        }

        private void appendByte(int bits) {
            if (length >= 0 && length < MAX_INPUT) {
                text[length] = bits & 255;
                length++;
            }
        }

        void begin() {
            end = length;
            length = 0;
            next = 0;
            errorKind = NO_ERROR;
            errorAt = NONE;
        }

        boolean isValid() {
            return errorKind == NO_ERROR;
        }

        /** Reports an error of the latest token, if it is the first one of the text. */
        void fail(int kind) {
            if (errorKind == NO_ERROR) {
                errorKind = kind;
                errorAt = tokenAt;
            }
        }

        /** Reads the first word of a statement; answers false after an error or at the end. */
        boolean startsStatement() {
            readToken();
            if (token != WORD && token != END) {
                fail(SYNTAX);
            }
            return isValid() && token == WORD;
        }

        boolean isWord(String letters) {
            return token == WORD && word == packed(letters);
        }

        /** Reads a name that stands in names and answers its number, or NONE after an error. */
        int knownName(Names names) {
            readToken();
            if (!accepts(WORD, MAX_NAME)) {
                return NONE;
            }
            int number = names.find(word);
            if (number == NONE) {
                fail(BAD_NAME);
            }
            return number;
        }

        /** Reads a name that does not stand in names; what it answers after an error is free. */
        long newName(Names names) {
            readToken();
            if (accepts(WORD, MAX_NAME) && names.find(word) != NONE) {
                fail(BAD_NAME);
            }
            return word;
        }

        /** Reads a number from low to high and answers it, or NONE after an error. */
        int number(int low, int high) {
            readToken();
            if (!accepts(NUMBER, MAX_DIGITS)) {
                return NONE;
            }
            if (value < low || value > high) {
                fail(OUT_OF_RANGE);
                return NONE;
            }
            return value;
        }

        void semicolon() {
            readToken();
            accepts(SEMICOLON, 1);
        }

        /** Tells whether the text has no error and the token is of this kind and length. */
        private boolean accepts(int kind, int most) {
            if (token != kind || next - tokenAt > most) {
                fail(SYNTAX);
            }
            return isValid();
        }

        /** Reads the next token, but stays at the token of an error. */
        private void readToken() {
            if (!isValid()) {
                return;
            }
            while (next < end && isBlank(nextByte())) {
                next++;
            }
            tokenAt = next;
            int first = nextByte();
            if (isLetter(first)) {
                readWord();
            } else if (isDigit(first)) {
                readDigits();
            } else if (first == ';') {
                token = SEMICOLON;
                next++;
            } else {
                token = first == NONE ? END : WRONG;
            }
        }

        private void readWord() {
            word = 0;
            while (next < end && isLetter(nextByte())) {
                if (next - tokenAt < MAX_WORD) {
                    word |= (long) nextByte() << (8 * (next - tokenAt));
                }
                next++;
            }
            token = next - tokenAt > MAX_WORD ? WRONG : WORD;
        }

        private void readDigits() {
            value = 0;
            while (next < end && isDigit(nextByte())) {
                if (next - tokenAt < MAX_DIGITS) {
                    value = value * 10 + nextByte() - '0';
                }
                next++;
            }
            token = NUMBER;
        }

        private int nextByte() {
            return next >= 0 && next < end && next < MAX_INPUT ? text[next] : NONE;
        }

        private static long packed(String letters) {
            long bits = 0;
            for (int i = 0; i < letters.length() && i < MAX_WORD; i++) {
                bits |= (long) letters.charAt(i) << (8 * i);
            }
            return bits;
        }

        private static boolean isBlank(int sign) {
            return sign == ' ' || sign == '\n';
        }

        private static boolean isLetter(int sign) {
            return sign >= 'a' && sign <= 'z';
        }

        private static boolean isDigit(int sign) {
            return sign >= '0' && sign <= '9';
        }
    }

    /** Names in the order of the setup, each packed into a long with its first letter lowest. */
    private static final class Names {
        final long[] packed = new long[MAX_OWNERS];
        int count = 0;

        void add(long name) {
            if (count >= 0 && count < MAX_OWNERS) {
                packed[count] = name;
                count++;
            }
        }

        int find(long name) {
            for (int i = 0; i < count && i < MAX_OWNERS; i++) {
                if (packed[i] == name) {
                    return i;
                }
            }
            return NONE;
        }

        int letter(int name, int index) {
            if (name < 0 || name >= MAX_OWNERS || index < 0 || index >= MAX_NAME) {
                return NONE;
            }
            int letter = (int) (packed[name] >>> (8 * index)) & 255;
            return letter == 0 ? NONE : letter;
        }
    }

    /** What a setup lays down and no change touches. */
    private static final class Setup {
        final Names queues = new Names();
        final Names owners = new Names();
        final int[] speeds = new int[MAX_QUEUES];

        void clear() {
            queues.count = 0;
            owners.count = 0;
        }

        void addQueue(long name, int speed) {
            int queue = queues.count;
            if (queue >= 0 && queue < MAX_QUEUES) {
                speeds[queue] = speed;
                queues.add(name);
            }
        }

        /** The minutes that a queue needs for pages, rounded up. */
        int minutes(int queue, int pages) {
            int speed = queue >= 0 && queue < MAX_QUEUES ? speeds[queue] : 0;
            return speed > 0 ? (pages + speed - 1) / speed : 0;
        }
    }

    /** The statements of a valid script, with their parts in the order of the text. */
    private static final class Script {
        final int[] kind = new int[MAX_STATEMENTS];
        final int[] first = new int[MAX_STATEMENTS];
        final int[] second = new int[MAX_STATEMENTS];
        final int[] third = new int[MAX_STATEMENTS];
        final int[] fourth = new int[MAX_STATEMENTS];
        int count = 0;

        void add(int what, int a, int b, int c, int d) {
            if (count >= 0 && count < MAX_STATEMENTS) {
                kind[count] = what;
                first[count] = a;
                second[count] = b;
                third[count] = c;
                fourth[count] = d;
                count++;
            }
        }
    }

    /** Leftist heaps over the jobs; a job that is in no heap has rank 0 and no links. */
    private static final class Heaps {
        final int[] priority = new int[MAX_JOBS];
        final int[] left = new int[MAX_JOBS];
        final int[] right = new int[MAX_JOBS];
        final int[] above = new int[MAX_JOBS];
        final int[] ranks = new int[MAX_JOBS];
        int compared = 0;
        int swapped = 0;
        // The winners of the comparisons of one merge, from the root down.
        final int[] path = new int[MAX_JOBS];

        static boolean isNode(int job) {
            return job >= 0 && job < MAX_JOBS;
        }

        void copyFrom(Heaps other) {
            copyRow(other.priority, priority);
            copyRow(other.left, left);
            copyRow(other.right, right);
            copyRow(other.above, above);
            copyRow(other.ranks, ranks);
            compared = other.compared;
            swapped = other.swapped;
        }

        void clearCounters() {
            compared = 0;
            swapped = 0;
        }

        int rankOf(int job) {
            return job >= 0 && job < MAX_JOBS ? ranks[job] : 0;
        }

        boolean precedes(int job, int other) {
            if (!isNode(job) || !isNode(other)) {
                return false;
            }
            return comesBefore(job, other, priority[other]);
        }

        /** Tells whether job precedes other if other has this priority. */
        boolean comesBefore(int job, int other, int otherPriority) {
            return priority[job] < otherPriority || priority[job] == otherPriority && job < other;
        }

        int ancestors(int job) {
            int count = 0;
            int at = job;
            while (count < MAX_JOBS && isNode(at) && isNode(above[at])) {
                at = above[at];
                count++;
            }
            return count;
        }

        /** Makes the job a heap of its own. */
        void plant(int job, int itsPriority) {
            if (isNode(job)) {
                priority[job] = itsPriority;
                unlink(job);
                ranks[job] = 1;
            }
        }

        private void unlink(int job) {
            left[job] = NONE;
            right[job] = NONE;
            above[job] = NONE;
            ranks[job] = 0;
        }

        /** Merges two heaps and answers the root of the result, which is below no job. */
        int merge(int one, int other) {
            int a = one;
            int b = other;
            int depth = 0;
            while (depth < MAX_JOBS && isNode(a) && isNode(b)) {
                compared++;
                if (precedes(a, b)) {
                    path[depth] = a;
                    a = right[a];
                } else {
                    path[depth] = b;
                    b = right[b];
                }
                depth++;
            }
            int result = isNode(a) ? a : b;
            for (int i = depth - 1; i >= 0; i--) {
                int winner = path[i];
                right[winner] = result;
                setAbove(result, winner);
                settle(winner);
                result = winner;
            }
            setAbove(result, NONE);
            return result;
        }

        private void setAbove(int job, int itsParent) {
            if (isNode(job)) {
                above[job] = itsParent;
            }
        }

        /** Exchanges the children of a job if their ranks ask for it and computes its rank. */
        private void settle(int job) {
            if (rankOf(left[job]) < rankOf(right[job])) {
                int child = left[job];
                left[job] = right[job];
                right[job] = child;
                swapped++;
            }
            ranks[job] = 1 + rankOf(right[job]);
        }

        /** Takes a job out of the heap with this root and answers the root afterwards. */
        int takeOut(int root, int job) {
            if (!isNode(job)) {
                return root;
            }
            int place = above[job];
            int rest = merge(left[job], right[job]);
            unlink(job);
            if (!isNode(place)) {
                return rest;
            }
            if (left[place] == job) {
                left[place] = rest;
            } else {
                right[place] = rest;
            }
            setAbove(rest, place);
            int repaired = place;
            for (int n = 0; n < MAX_JOBS && isNode(repaired); n++) {
                settle(repaired);
                repaired = above[repaired];
            }
            return root;
        }

        int comparisonsToMerge(int one, int other) {
            int a = one;
            int b = other;
            int count = 0;
            while (count < MAX_JOBS && isNode(a) && isNode(b)) {
                if (precedes(a, b)) {
                    a = right[a];
                } else {
                    b = right[b];
                }
                count++;
            }
            return count;
        }

        int rankOfMerged(int one, int other) {
            int a = one;
            int b = other;
            int depth = 0;
            while (depth < MAX_JOBS && isNode(a) && isNode(b)) {
                if (precedes(a, b)) {
                    path[depth] = left[a];
                    a = right[a];
                } else {
                    path[depth] = left[b];
                    b = right[b];
                }
                depth++;
            }
            int result = rankOf(isNode(a) ? a : b);
            // The child of the smaller rank becomes the right one, whichever it is.
            for (int i = depth - 1; i >= 0; i--) {
                result = 1 + Math.min(result, rankOf(path[i]));
            }
            return result;
        }

        /** Tells whether the order, the links and the ranks round a job in a heap are right. */
        boolean isSound(int job) {
            if (!isNode(job) || precedes(job, above[job])) {
                return false;
            }
            return isChildOf(left[job], job)
                && isChildOf(right[job], job)
                && rankOf(left[job]) >= rankOf(right[job])
                && ranks[job] == 1 + rankOf(right[job])
                && (!isNode(above[job]) || left[above[job]] == job || right[above[job]] == job);
        }

        private boolean isChildOf(int job, int itsParent) {
            return !isNode(job) || above[job] == itsParent;
        }

        boolean isOutside(int job) {
            return isNode(job) && left[job] == NONE && right[job] == NONE && above[job] == NONE && ranks[job] == 0;
        }
    }

    /** Everything that a change may alter. */
    private static final class State {
        final Heaps heaps = new Heaps();
        int jobCount = 0;
        final int[] owner = new int[MAX_JOBS];
        final int[] pages = new int[MAX_JOBS];
        final int[] fate = new int[MAX_JOBS];
        // NONE for a job that is not waiting.
        final int[] queue = new int[MAX_JOBS];
        final int[] root = new int[MAX_QUEUES];
        final int[] printed = new int[MAX_QUEUES];
        final boolean[] paused = new boolean[MAX_QUEUES];

        void clear() {
            jobCount = 0;
            heaps.clearCounters();
            for (int i = 0; i < MAX_QUEUES; i++) {
                root[i] = NONE;
                printed[i] = 0;
                paused[i] = false;
            }
        }

        void copyFrom(State other) {
            heaps.copyFrom(other.heaps);
            jobCount = other.jobCount;
            copyRow(other.owner, owner);
            copyRow(other.pages, pages);
            copyRow(other.fate, fate);
            copyRow(other.queue, queue);
            copyRow(other.root, root);
            copyRow(other.printed, printed);
            for (int i = 0; i < MAX_QUEUES; i++) {
                paused[i] = other.paused[i];
            }
        }

        boolean isFull() {
            return jobCount >= MAX_JOBS;
        }

        boolean waits(int job) {
            return job >= 0 && job < jobCount && job < MAX_JOBS && fate[job] == WAITING && isQueue(queue[job]);
        }

        private static boolean isQueue(int number) {
            return number >= 0 && number < MAX_QUEUES;
        }

        boolean canMove(int job, int target) {
            return waits(job) && queue[job] != target;
        }

        int obstacle(int number) {
            if (!isQueue(number) || paused[number]) {
                return PAUSED;
            }
            return root[number] == NONE ? EMPTY : CAN_PRINT;
        }

        /** Adds a job and answers its handle, or NONE if there are too many. */
        int addJob(int target, int itsOwner, int itsPriority, int itsPages) {
            if (isFull() || jobCount < 0 || !isQueue(target)) {
                return NONE;
            }
            int job = jobCount;
            jobCount++;
            owner[job] = itsOwner;
            pages[job] = itsPages;
            fate[job] = WAITING;
            queue[job] = target;
            heaps.plant(job, itsPriority);
            root[target] = heaps.merge(root[target], job);
            return job;
        }

        /** Takes a waiting job out of its queue for good; answers false if it is not waiting. */
        boolean endJob(int job, int itsFate) {
            if (!waits(job)) {
                return false;
            }
            int source = queue[job];
            root[source] = heaps.takeOut(root[source], job);
            queue[job] = NONE;
            fate[job] = itsFate;
            if (itsFate == PRINTED) {
                printed[source] += pages[job];
            }
            return true;
        }

        /** Takes a waiting job out of its queue and inserts it; answers false if it is not waiting. */
        boolean insertAgain(int job, int target, int itsPriority) {
            if (!waits(job) || !isQueue(target)) {
                return false;
            }
            int source = queue[job];
            root[source] = heaps.takeOut(root[source], job);
            heaps.plant(job, itsPriority);
            root[target] = heaps.merge(root[target], job);
            queue[job] = target;
            return true;
        }

        /** Merges two queues; answers false if there are no such two. */
        boolean joinQueues(int from, int into) {
            if (!isQueue(from) || !isQueue(into) || from == into) {
                return false;
            }
            root[into] = heaps.merge(root[from], root[into]);
            root[from] = NONE;
            for (int job = 0; job < jobCount && job < MAX_JOBS; job++) {
                if (queue[job] == from) {
                    queue[job] = into;
                }
            }
            return true;
        }

        boolean holdQueue(int number, boolean isHeld) {
            if (!isQueue(number)) {
                return false;
            }
            paused[number] = isHeld;
            return true;
        }

        int jobsIn(int number) {
            int count = 0;
            for (int job = 0; job < jobCount && job < MAX_JOBS; job++) {
                if (queue[job] == number) {
                    count++;
                }
            }
            return count;
        }

        int pagesIn(int number) {
            int sum = 0;
            for (int job = 0; job < jobCount && job < MAX_JOBS; job++) {
                if (queue[job] == number) {
                    sum += pages[job];
                }
            }
            return sum;
        }

        int pagesOfOwner(int number, int itsFate) {
            int sum = 0;
            for (int job = 0; job < jobCount && job < MAX_JOBS; job++) {
                if (owner[job] == number && fate[job] == itsFate) {
                    sum += pages[job];
                }
            }
            return sum;
        }

        int pagesOfAllJobs() {
            int sum = 0;
            for (int job = 0; job < jobCount && job < MAX_JOBS; job++) {
                sum += pages[job];
            }
            return sum;
        }

        int pagesOfAllPrinted() {
            int sum = 0;
            for (int number = 0; number < MAX_QUEUES; number++) {
                sum += printed[number];
            }
            return sum;
        }

        int waitingJobs() {
            int count = 0;
            for (int job = 0; job < jobCount && job < MAX_JOBS; job++) {
                if (waits(job)) {
                    count++;
                }
            }
            return count;
        }

        /** The sum of the ranks of the waiting jobs; the others have rank 0. */
        int sumOfRanks() {
            int sum = 0;
            for (int job = 0; job < jobCount && job < MAX_JOBS; job++) {
                sum += heaps.rankOf(job);
            }
            return sum;
        }

        int longestPath(int number) {
            int longest = 0;
            for (int job = 0; job < jobCount && job < MAX_JOBS; job++) {
                if (queue[job] == number) {
                    longest = Math.max(longest, 1 + heaps.ancestors(job));
                }
            }
            return longest;
        }

        /** The first job of a queue in printing order that job precedes; the very first one for NONE. */
        int firstAfter(int number, int job) {
            int first = NONE;
            for (int other = 0; other < jobCount && other < MAX_JOBS; other++) {
                boolean isLater = queue[other] == number && (job == NONE || heaps.precedes(job, other));
                if (isLater && (first == NONE || heaps.precedes(other, first))) {
                    first = other;
                }
            }
            return first;
        }

        /** The number of jobs that would be printed before a waiting job if it had this priority. */
        int jobsAhead(int job, int itsPriority) {
            if (!waits(job)) {
                return 0;
            }
            int count = 0;
            for (int other = 0; other < jobCount && other < MAX_JOBS; other++) {
                if (other != job && queue[other] == queue[job] && heaps.comesBefore(other, job, itsPriority)) {
                    count++;
                }
            }
            return count;
        }

        int pagesAhead(int job) {
            if (!waits(job)) {
                return 0;
            }
            int sum = 0;
            for (int other = 0; other < jobCount && other < MAX_JOBS; other++) {
                if (queue[other] == queue[job] && heaps.precedes(other, job)) {
                    sum += pages[other];
                }
            }
            return sum;
        }

        /** Tells whether a job is rightly linked in the heap of its queue, or has left all heaps. */
        boolean isSound(int job) {
            if (!waits(job)) {
                boolean isOver = fate[job] == PRINTED || fate[job] == CANCELLED;
                return isOver && queue[job] == NONE && heaps.isOutside(job);
            }
            boolean isRoot = root[queue[job]] == job;
            return heaps.isSound(job) && isRoot == (heaps.above[job] == NONE);
        }

        /** Tells whether a copy of the heaps gives the jobs of a queue in the order by selection. */
        boolean empties(int number, Heaps copy) {
            if (!isQueue(number)) {
                return false;
            }
            int top = root[number];
            int selected = firstAfter(number, NONE);
            for (int n = 0; n < MAX_JOBS && top != NONE && top == selected; n++) {
                top = copy.takeOut(top, top);
                selected = firstAfter(number, selected);
            }
            return top == NONE && selected == NONE;
        }
    }

    /** The states before the latest changes; the newest one replaces the oldest one. */
    private static final class History {
        final State[] states = new State[MAX_CHANGES];
        int count = 0;
        int next = 0;

        History() {
            for (int i = 0; i < MAX_CHANGES; i++) {
                states[i] = new State();
            }
        }

        void clear() {
            count = 0;
        }

        void keep(State state) {
            State kept = states[Math.floorMod(next, MAX_CHANGES)];
            if (kept != null) {
                kept.copyFrom(state);
            }
            next = Math.floorMod(next + 1, MAX_CHANGES);
            count = Math.min(count + 1, MAX_CHANGES);
        }

        void takeBack(State state) {
            next = Math.floorMod(next - 1, MAX_CHANGES);
            State kept = states[next];
            if (kept != null) {
                state.copyFrom(kept);
            }
            count--;
        }
    }

    /** The bytes that writeHeap wrote. */
    private static final class Output {
        final int[] bytes = new int[MAX_OUTPUT];
        int length = 0;

        void add(int sign) {
            if (length >= 0 && length < MAX_OUTPUT) {
                bytes[length] = sign;
                length++;
            }
        }

        void addNumber(int number) {
            if (number >= 10) {
                add('0' + number / 10);
            }
            add('0' + number % 10);
        }

        int at(int index) {
            return index >= 0 && index < length && index < MAX_OUTPUT ? bytes[index] : NONE;
        }
    }
}
