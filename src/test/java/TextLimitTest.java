/** Promises 4 to 7: setup text, script text, tokens and text errors, at each limit that the document names. */
final class TextLimitTest {
    private static final String BASE = "queue a 1;owner b;";
    private static final String SIX = "queue a1;queue b1;queue c1;queue d1;queue e1;queue f1;";
    private static final String EIGHT = "owner a;owner b;owner c;owner d;owner e;owner f;owner g;owner h;";

    private TextLimitTest() {
    }

    static void run() {
        queuesAndOwners();
        jobsOfASetup();
        allFull();
        numbersOfASetup();
        numbersOfAScript();
        longNumbers();
        namesOfASetup();
        namesOfAScript();
        sameNames();
        unknownNames();
        laterNames();
        secondQueueOfMerge();
        wordsOfEightLetters();
        brokenStatements();
        blanks();
        statements();
        severalErrorsOfOneToken();
        firstErrorOfATextCounts();
        endOfAText();
        textsOfSixHundredBytes();
    }

    private static void setup(String theCase, String text, String due) {
        Check.due(theCase + ": " + text, due, () -> Texts.setupResult(text));
    }

    private static void script(String theCase, String text, String due) {
        Check.due(theCase + ": " + text, due, () -> Texts.scriptResult(text));
    }

    private static String errorOfSetup(String text) {
        LeftistSpooler x = new LeftistSpooler();
        Texts.setup(x, text);
        return Telling.report(x);
    }

    private static String errorOfScript(String text) {
        LeftistSpooler x = new LeftistSpooler();
        Texts.script(x, text);
        return Telling.report(x);
    }

    private static String padded(String text, int length) {
        return text + " ".repeat(length - text.length());
    }

    private static void queuesAndOwners() {
        Check.begin("promise 4, \"1 to 6 queues and 1 to 8 owners\"");
        setup("1 queue and 1 owner, the fewest", BASE, "0 0 -1");
        setup("6 queues, the most", SIX + "owner a;", "0 0 -1");
        setup("a seventh queue: TOO_MANY at its first word", SIX + " queue g1;owner a;", "-1 4 55");
        setup("a seventh queue after an owner", SIX + "owner a;queue g1;", "-1 4 62");
        setup("8 owners, the most", EIGHT + "queue a1;", "0 0 -1");
        setup("a ninth owner: TOO_MANY at its first word", EIGHT + "\nowner i;queue a1;", "-1 4 65");
        setup("a ninth owner after a queue", EIGHT + "queue a1;owner i;", "-1 4 73");
        setup("no queue: TOO_FEW at the end", "owner a;", "-1 5 8");
        setup("8 owners and no queue", EIGHT, "-1 5 64");
        setup("no owner: TOO_FEW at the end", "queue a1;", "-1 5 9");
        setup("6 queues and no owner", SIX, "-1 5 54");
        setup("neither a queue nor an owner", "", "-1 5 0");
        setup("neither, with blanks", " \n ", "-1 5 3");
        Check.due("6 queues and 8 owners are kept", "6 8 102 104", () -> {
            LeftistSpooler x = Texts.of(SIX + EIGHT);
            return x.queueCount() + " " + x.ownerCount() + " " + x.queueNameByte(5, 0) + " " + x.ownerNameByte(7, 0);
        });
    }

    private static void jobsOfASetup() {
        Check.begin("promise 4, \"at most 40 jobs\"; \"returns the number of jobs\"");
        String job = "job a b 1 1;";
        setup("no job", BASE, "0 0 -1");
        setup("1 job", BASE + job, "1 0 -1");
        setup("39 jobs", BASE + job.repeat(39), "39 0 -1");
        setup("40 jobs, the most", BASE + job.repeat(40), "40 0 -1");
        setup("a 41st job: TOO_MANY at its first word", BASE + job.repeat(41), "-1 4 498");
        setup("the first word of a 41st job alone", BASE + job.repeat(40) + "\njob", "-1 4 499");
        setup("40 jobs and another owner", BASE + job.repeat(40) + "owner c;", "40 0 -1");
        setup("40 jobs and another queue", BASE + job.repeat(40) + "queue c1;", "40 0 -1");
        Check.due("the 40th job is kept", "40 98 7", () -> {
            LeftistSpooler x = Texts.of(BASE + job.repeat(39) + "job a b 98 7;");
            return x.jobCount() + " " + x.priority(39) + " " + x.pages(39);
        });
    }

    private static void allFull() {
        Check.begin("promise 4, everything full");
        String forty = padded(SIX + EIGHT + "job f h1 1;".repeat(39), 588) + "job a a99 9;";
        setup("6 queues, 8 owners, 40 jobs, 600 bytes", forty, forty.length() == 600 ? "40 0 -1" : "not 600");
        Check.due("all of it is kept", "6 8 40 0 0 99 9 5 7", () -> {
            LeftistSpooler x = Texts.of(forty);
            return x.queueCount() + " " + x.ownerCount() + " " + x.jobCount() + " " + x.queueOf(39) + " " + x.ownerOf(39) + " "
                + x.priority(39) + " " + x.pages(39) + " " + x.queueOf(38) + " " + x.ownerOf(38);
        });
    }

    /** A number at its place: its range from low to high, of one to three digits, with zeros before it. */
    private static void range(boolean isSetup, String what, String before, String after, int low, int high) {
        for (int value : new int[] {0, low, low - 1, low + 1, high - 1, high, high + 1, 100, 999}) {
            for (int digits = 1; digits <= 3 && value >= 0; digits++) {
                String number = value < 10 || digits > 1 ? String.format("%0" + digits + "d", value) : "" + value;
                boolean isGood = value >= low && value <= high;
                String text = before + number + after;
                Check.due(what + ": " + number, isGood ? "0 -1" : "2 " + before.length(),
                    () -> isSetup ? errorOfSetup(text) : errorOfScript(text));
            }
            String four = before + String.format("%04d", Math.max(0, value)) + after;
            Check.due(what + " of four digits: " + four, "1 " + before.length(), () -> isSetup ? errorOfSetup(four) : errorOfScript(four));
        }
        String negative = before + "-1" + after;
        Check.due(what + " -1: no token starts so", "1 " + before.length(), () -> isSetup ? errorOfSetup(negative) : errorOfScript(negative));
    }

    private static void numbersOfASetup() {
        Check.begin("promise 4, \"OUT_OF_RANGE\"");
        range(true, "a speed of 1 to 50", "queue a ", ";owner b;", 1, 50);
        range(true, "a priority of 0 to 99", BASE + "job a b ", " 1;", 0, 99);
        range(true, "1 to 99 pages", BASE + "job a b 0 ", ";", 1, 99);
        Check.due("the least numbers are kept", "1 0 1", () -> {
            LeftistSpooler x = Texts.of("queue a 001;owner b;job a b 000 001;");
            return x.speed(0) + " " + x.priority(0) + " " + x.pages(0);
        });
        Check.due("the greatest numbers are kept", "50 99 99", () -> {
            LeftistSpooler x = Texts.of("queue a 050;owner b;job a b 099 099;");
            return x.speed(0) + " " + x.priority(0) + " " + x.pages(0);
        });
    }

    private static void numbersOfAScript() {
        Check.begin("promise 5, \"OUT_OF_RANGE\"");
        range(false, "submit, a priority of 0 to 99", "submit fast ann ", " 1;", 0, 99);
        range(false, "submit, 1 to 99 pages", "submit fast ann 0 ", ";", 1, 99);
        range(false, "cancel, \"JOB is 0 to 39\"", "cancel ", ";", 0, 39);
        range(false, "priority, \"JOB is 0 to 39\"", "priority ", " 1;", 0, 39);
        range(false, "priority, a priority of 0 to 99", "priority 0 ", ";", 0, 99);
        range(false, "move, \"JOB is 0 to 39\"", "move ", " slow;", 0, 39);
    }

    private static void longNumbers() {
        Check.begin("promise 4, \"a number ... has at most 3\" digits");
        setup("3 digits", "queue a 007;owner b;", "0 0 -1");
        setup("4 digits in the range: SYNTAX", "queue a 0007;owner b;", "-1 1 8");
        setup("4 digits out of the range: SYNTAX", "queue a 1000;owner b;", "-1 1 8");
        setup("2 to the power of 32, and 1", "queue a 4294967297;owner b;", "-1 1 8");
        setup("2 to the power of 64, and 1", "queue a 18446744073709551617;owner b;", "-1 1 8");
        setup("500 digits", "queue a " + "0".repeat(499) + "1;owner b;", "-1 1 8");
        setup("a number that the end of the text ends", "queue a 0007", "-1 1 8");
    }

    /** A name at its place: names of 1 and 6 letters are good or unknown, names of 7 and more are SYNTAX. */
    private static void name(boolean isSetup, String what, String before, String after, String dueIfShort) {
        String at = " " + before.length();
        for (String name : new String[] {"z", "zyxwvu", "zyxwvut", "zyxwvuts", "zyxwvutsr", "z".repeat(100)}) {
            String due = name.length() > 6 ? "1" + at : dueIfShort;
            String text = before + name + after;
            Check.due(what + " of " + name.length() + " letters: " + text, due, () -> isSetup ? errorOfSetup(text) : errorOfScript(text));
        }
        String none = before + after;
        Check.due(what + " missing: " + none, "1 " + (before.length() + (after.startsWith(" ") ? 1 : 0)),
            () -> isSetup ? errorOfSetup(none) : errorOfScript(none));
    }

    private static void namesOfASetup() {
        Check.begin("promise 4, \"a name has 1 to 6 lower-case letters\"; \"of more than 6 letters is a syntax error\"");
        name(true, "a new queue's name", "queue ", " 1;owner b;", "0 -1");
        name(true, "a new owner's name", "queue a 1;owner ", ";", "0 -1");
        name(true, "a job's queue", BASE + "job ", "; b 1 1;", "3 22");
        name(true, "a job's owner", BASE + "job a ", ";1 1;", "3 24");
        setup("the longest names are known again", "queue abcdef 1;owner uvwxyz;job abcdef uvwxyz 1 1;", "1 0 -1");
        setup("the shortest names are known again", "queue a 1;owner z;job a z 1 1;", "1 0 -1");
        setup("no capital letter: byte 65", "queue A 1;", "-1 1 6");
        setup("no byte before a: 96", "queue ` 1;", "-1 1 6");
        setup("no byte after z: 123", "queue { 1;", "-1 1 6");
    }

    private static void namesOfAScript() {
        Check.begin("promise 5, names of 1 to 6 letters and longer ones");
        name(false, "submit's queue", "submit ", ";ann 1 1;", "3 7");
        name(false, "submit's owner", "submit fast ", ";1 1;", "3 12");
        name(false, "print's queue", "print ", ";", "3 6");
        name(false, "move's queue", "move 0 ", ";", "3 7");
        name(false, "merge's first queue", "merge ", ";slow;", "3 6");
        name(false, "merge's second queue", "merge slow ", ";", "3 11");
        name(false, "pause's queue", "pause ", ";", "3 6");
        name(false, "resume's queue", "resume ", ";", "3 7");
    }

    private static void sameNames() {
        Check.begin("promise 4, \"no two queues have the same name, and no two owners have the same name\"");
        setup("two queues", "queue a 1;queue a 2;owner b;", "-1 3 16");
        setup("two owners", "queue a 1;owner b;owner b;", "-1 3 24");
        setup("two queues of the longest name", "queue abcdef 1;queue abcdef 1;owner b;", "-1 3 21");
        setup("the sixth queue and the first", SIX.replace("queue f", "queue a") + "owner b;", "-1 3 51");
        setup("the sixth queue and the fifth", SIX.replace("queue f", "queue e") + "owner b;", "-1 3 51");
        setup("the eighth owner and the first", EIGHT.replace("owner h", "owner a") + "queue a1;", "-1 3 62");
        setup("the eighth owner and the seventh", EIGHT.replace("owner h", "owner g") + "queue a1;", "-1 3 62");
        setup("a queue and an owner may", "queue a 1;owner a;job a a 1 1;", "1 0 -1");
        setup("names that differ in the last of 6 letters", "queue abcdef 1;queue abcdeg 1;owner abcdef;owner abcdeg;", "0 0 -1");
        setup("names that differ in the first letter", "queue abcdef 1;queue bbcdef 1;owner b;", "0 0 -1");
        setup("one name begins another", "queue ab 1;queue a 1;queue abc 1;owner ab;owner a;owner abc;", "0 0 -1");
        setup("a name of an earlier setup", "queue fast 1;owner ann;", "0 0 -1");
    }

    private static void unknownNames() {
        Check.begin("promises 4 and 5, \"another name belongs to no queue or no owner\"");
        setup("a job's queue is an owner's name", BASE + "job b b 1 1;", "-1 3 22");
        setup("a job's owner is a queue's name", BASE + "job a a 1 1;", "-1 3 24");
        setup("a longer name", BASE + "job aa b 1 1;", "-1 3 22");
        setup("a shorter name", "queue ab 1;owner b;job a b 1 1;", "-1 3 23");
        setup("a name of the setup before", BASE + "job fast b 1 1;", "-1 3 22");
        setup("an owner of the setup before", BASE + "job a ann 1 1;", "-1 3 24");
        script("submit's queue is an owner", "submit ann ann 1 1;", "-1 3 7");
        script("submit's owner is a queue", "submit fast fast 1 1;", "-1 3 12");
        script("print's queue is an owner", "print ann;", "-1 3 6");
        script("move's queue is an owner", "move 0 ann;", "-1 3 7");
        script("merge's first queue is an owner", "merge ann fast;", "-1 3 6");
        script("merge's second queue is an owner", "merge fast ann;", "-1 3 11");
        script("pause's queue is an owner", "pause bob;", "-1 3 6");
        script("resume's queue is an owner", "resume bob;", "-1 3 7");
        Check.due("names of an invalid setup stay unknown", "-1 3 6", () -> {
            LeftistSpooler x = new LeftistSpooler();
            Texts.setup(x, "queue new 1;owner own;job");
            return Texts.script(x, "pause new;") + " " + Telling.report(x);
        });
        Check.due("names of the setup before are unknown", "-1 3 6", () -> {
            LeftistSpooler x = Texts.of(BASE);
            return Texts.script(x, "pause fast;") + " " + Telling.report(x);
        });
    }

    private static void laterNames() {
        Check.begin("promise 4, \"QUEUE is the name of an earlier queue and OWNER is the name of an earlier owner\"");
        setup("the queue just before", "owner b;queue a 1;job a b 1 1;", "1 0 -1");
        setup("the owner just before", "queue a 1;owner b;job a b 1 1;", "1 0 -1");
        setup("the sixth queue and the eighth owner", SIX + EIGHT + "job f h 1 1;", "1 0 -1");
        setup("a later queue", "queue c 1;owner b;job a b 1 1;queue a 1;", "-1 3 22");
        setup("a later owner", "queue a 1;owner c;job a b 1 1;owner b;", "-1 3 24");
        setup("no queue at all", "owner b;job a b 1 1;", "-1 3 12");
        setup("no owner at all", "queue a 1;job a b 1 1;", "-1 3 16");
        setup("queues and owners between jobs", "queue a 1;owner b;job a b 1 1;queue c 1;owner d;job c d 1 1;", "2 0 -1");
    }

    private static void secondQueueOfMerge() {
        Check.begin("promise 5, \"the second queue of merge is the first one\"");
        script("the first queue twice", "merge fast fast;", "-1 3 11");
        script("the last queue twice", "merge slow slow;", "-1 3 11");
        script("two queues", "merge fast slow;", "1 0 -1");
        script("an unknown queue twice", "merge none none;", "-1 3 6");
        script("a long name twice", "merge fastest fastest;", "-1 1 6");
    }

    private static void wordsOfEightLetters() {
        Check.begin("promise 5, \"a word ... has at most 8\" letters");
        script("8 letters, the longest word", "priority 0 1;", "1 0 -1");
        for (char ninth = 'a'; ninth <= 'z'; ninth++) {
            script("9 letters", "priority" + ninth + " 0 1;", "-1 1 0");
        }
        script("16 letters", "prioritypriority 0 1;", "-1 1 0");
        script("7 letters of it", "priorit 0 1;", "-1 1 0");
        script("a word that begins with a statement's", "prints fast;", "-1 1 0");
        script("8 letters that are no statement's", "abcdefgh;", "-1 1 0");
        setup("9 letters for a name", "queue abcdefghi 1;", "-1 1 6");
        setup("9 letters for a number", "queue a abcdefghi;", "-1 1 8");
        setup("9 letters for a semicolon", "queue a 1 abcdefghi", "-1 1 10");
        setup("9 letters at the end of the text", BASE + "abcdefghi", "-1 1 18");
        setup("a setup's word is 9 letters long", "queueueue a 1;", "-1 1 0");
        setup("600 letters", "q".repeat(600), "-1 1 0");
    }

    /** Each statement is broken at each of its tokens: by the end, by tokens of other kinds, by a byte of no token. */
    private static void broken(boolean isSetup, String prefix, String... tokens) {
        StringBuilder text = new StringBuilder(prefix);
        for (int k = 0; k < tokens.length; k++) {
            String good = text.toString();
            if (k > 0) {
                Check.due("the end within: " + good, "1 " + good.length(), () -> isSetup ? errorOfSetup(good) : errorOfScript(good));
            }
            for (String wrong : new String[] {"word", "7", ";", "#", "A"}) {
                if (k > 0 && kind(wrong) == kind(tokens[k])) {
                    continue;
                }
                String bad = good + wrong;
                Check.due("\"" + wrong + "\" after: " + good, "1 " + good.length(), () -> isSetup ? errorOfSetup(bad) : errorOfScript(bad));
            }
            text.append(tokens[k]).append(' ');
        }
        String whole = text.toString();
        Check.due("whole: " + whole, "0 -1", () -> isSetup ? errorOfSetup(whole) : errorOfScript(whole));
    }

    private static char kind(String token) {
        char first = token.charAt(0);
        return Character.isLowerCase(first) ? 'w' : Character.isDigit(first) ? 'n' : first;
    }

    private static void brokenStatements() {
        Check.begin("promise 4, \"SYNTAX: the token cannot stand at this place ..., or the text ends within a statement\"");
        broken(true, "owner b;", "queue", "a", "1", ";");
        broken(true, "queue a 1;", "owner", "b", ";");
        broken(true, BASE, "job", "a", "b", "1", "1", ";");
        Check.begin("promise 5, \"SYNTAX: the token cannot stand at this place ..., or the text ends within a statement\"");
        broken(false, "", "submit", "fast", "ann", "1", "1", ";");
        broken(false, "", "print", "fast", ";");
        broken(false, "", "cancel", "1", ";");
        broken(false, "", "priority", "1", "1", ";");
        broken(false, "", "move", "1", "slow", ";");
        broken(false, "", "merge", "fast", "slow", ";");
        broken(false, "", "pause", "fast", ";");
        broken(false, "", "resume", "fast", ";");
        script("a setup's statement in a script", "owner b;", "-1 1 0");
        setup("a script's statement in a setup", BASE + "pause a;", "-1 1 18");
        setup("a semicolon twice", "queue a 1;;owner b;", "-1 1 10");
    }

    private static void blanks() {
        Check.begin("promise 4, \"necessary only between two words and between two numbers\"");
        setup("none but the necessary ones", "queue a1;owner b;job a b1 1;", "1 0 -1");
        setup("none between two words", "queuea 1;owner b;", "-1 1 0");
        setup("none between a word and a name", BASE + "job ab 1 1;", "-1 3 22");
        setup("none between two numbers", BASE + "job a b 11;", "-1 1 28");
        setup("before, between and after", " \n queue \n a\n\n1 ; \nowner\nb\n;\n", "0 0 -1");
        setup("within a word", "que ue a 1;", "-1 1 0");
        setup("within a number", BASE + "job a b 1 1 1;", "-1 1 30");
        script("none but the necessary ones", "priority0 1;move0slow;cancel0;submit fast ann1 1;merge slow fast;", "5 0 -1");
        script("none between word and name", "printfast;", "-1 1 0");
    }

    private static void statements() {
        Check.begin("promise 5, \"a script consists of at most 30 statements\"");
        script("no statement", "", "0 0 -1");
        script("no statement but blanks", " \n ", "0 0 -1");
        script("1 statement", "pause fast;", "1 0 -1");
        String thirty = "pause fast;".repeat(30);
        script("29 statements", "pause fast;".repeat(29), "29 0 -1");
        script("30 statements, the most", thirty, "30 0 -1");
        script("30 statements and blanks", thirty + " \n", "30 0 -1");
        script("31 statements: TOO_MANY at the 31st one's first word", thirty + "pause fast;", "-1 4 330");
        script("31 statements with a blank before", thirty + "\nresume fast;", "-1 4 331");
        for (String word : new String[] {"submit", "print", "cancel", "priority", "move", "merge", "pause", "resume"}) {
            script("the first word of a 31st statement alone", thirty + word, "-1 4 330");
        }
        script("a wrong 30th statement", "pause fast;".repeat(29) + "pause x;", "-1 3 325");
    }

    private static void severalErrorsOfOneToken() {
        Check.begin("promises 4 and 5, \"if several errors apply to one token, the error with the smallest code\"");
        setup("a number too long and out of range: SYNTAX", "queue a 9999;", "-1 1 8");
        setup("an unknown name too long: SYNTAX", BASE + "job abcdefg b 1 1;", "-1 1 22");
        setup("the end within a statement without an owner: SYNTAX", "queue a 1", "-1 1 9");
        setup("the end within a statement without a queue: SYNTAX", "owner b", "-1 1 7");
        script("a 31st statement of no known word: SYNTAX", "pause fast;".repeat(30) + "paus fast;", "-1 1 330");
        script("a 31st statement that begins with a setup's word", "pause fast;".repeat(30) + "queue a 1;", "-1 1 330");
        script("a 31st statement of a word too long: SYNTAX", "pause fast;".repeat(30) + "abcdefghi fast;", "-1 1 330");
        script("a number in place of a 31st statement: SYNTAX", "pause fast;".repeat(30) + "1", "-1 1 330");
        script("a semicolon in place of a 31st statement: SYNTAX", "pause fast;".repeat(30) + ";", "-1 1 330");
        script("a byte of no token in place of a 31st statement: SYNTAX", "pause fast;".repeat(30) + "#", "-1 1 330");
        script("merge of a name too long twice: SYNTAX", "merge fast fastest;", "-1 1 11");
    }

    private static void firstErrorOfATextCounts() {
        Check.begin("promises 4 and 5, \"from left to right, and the first error is reported\"");
        setup("OUT_OF_RANGE before SYNTAX", "queue a 51,", "-1 2 8");
        setup("BAD_NAME before OUT_OF_RANGE", BASE + "job x b 100 1;", "-1 3 22");
        setup("BAD_NAME before the end", BASE + "queue a", "-1 3 24");
        setup("TOO_MANY before BAD_NAME", SIX + "queue a1;", "-1 4 54");
        setup("TOO_MANY before SYNTAX", EIGHT + "owner 1", "-1 4 64");
        setup("SYNTAX before TOO_FEW", "queue a 1;#", "-1 1 10");
        setup("OUT_OF_RANGE of priority before that of pages", BASE + "job a b 100 100;", "-1 2 26");
        script("OUT_OF_RANGE before BAD_NAME", "move 40 x;", "-1 2 5");
        script("BAD_NAME before TOO_MANY", "pause x;" + "pause fast;".repeat(30), "-1 3 6");
        script("TOO_MANY before BAD_NAME", "pause fast;".repeat(30) + "pause x;", "-1 4 330");
        script("BAD_NAME before SYNTAX", "print x", "-1 3 6");
        script("the first of two BAD_NAMEs", "merge x y;", "-1 3 6");
    }

    private static void endOfAText() {
        Check.begin("promise 7, \"the offset of an error at the end of the text is the length of the text\"");
        setup("an empty text", "", "-1 5 0");
        setup("a text of one blank", "\n", "-1 5 1");
        setup("right after the last token", "queue a 1", "-1 1 9");
        setup("after blanks", "queue a 1 \n ", "-1 1 12");
        setup("after the last semicolon", "queue a 1;", "-1 5 10");
        setup("after the last semicolon and blanks", "queue a 1; \n", "-1 5 12");
        script("within a script", "cancel", "-1 1 6");
        script("within a script, after blanks", "cancel\n ", "-1 1 8");
        setup("600 blanks", " ".repeat(600), "-1 5 600");
        script("600 blanks are a valid script", " ".repeat(600), "0 0 -1");
    }

    private static void textsOfSixHundredBytes() {
        Check.begin("promises 4 and 5, \"the input buffer holds at most 600 bytes\"");
        setup("the last byte ends the last statement", padded(BASE, 599 - 7) + "owner c;", "0 0 -1");
        setup("the last byte is read", padded(BASE, 599) + "#", "-1 1 599");
        setup("the last statement has no semicolon", padded(BASE, 600 - 7) + "owner c", "-1 1 600");
        setup("the last byte is a digit", padded(BASE, 600 - 9) + "queue c 1", "-1 1 600");
        script("the last byte ends a statement", padded("pause fast;".repeat(29), 600 - 11) + "pause fast;", "30 0 -1");
        script("the last byte ends a 31st statement", padded("pause fast;".repeat(30), 600 - 11) + "pause fast;", "-1 4 589");
        script("the last byte is a letter", padded("pause fast;", 600 - 10) + "pause fast", "-1 1 600");
    }
}
