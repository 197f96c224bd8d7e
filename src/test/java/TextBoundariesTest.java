/** Boundary cases of promises 1 to 4: a new object, THE TEXT, its reading, its faults. */
public final class TextBoundariesTest {
    private static final int NONE = Boundaries.NONE;

    public static void main(String[] args) throws Exception {
        Boundaries.run(TextBoundariesTest.class, 1, 4);
    }

    private static void due(String what, long got, long want) {
        Boundaries.due(what, got, want);
    }

    private static int read(StaggerRadar x, String text) {
        return Boundaries.read(x, text);
    }

    private static StaggerRadar radarOf(String text) {
        return Boundaries.radarOf(text);
    }

    private static String many(String one, int times) {
        return Boundaries.many(one, times);
    }

    private static void fault(String text, int kind, int place) {
        StaggerRadar x = new StaggerRadar();
        due("read: " + text, read(x, text) == NONE ? 1 : 0, kind != 0 ? 1 : 0);
        due("FAULT of " + text, x.fault(false), kind);
        due("place of " + text, x.fault(true), place);
    }

    // ---- promise 1

    @Boundaries.Sentence(promise = 1, says = "No GAPS, no TARGETS.")
    static void empty() {
        StaggerRadar x = new StaggerRadar();
        due("GAPS", x.count(0), 0);
        due("TARGETS", x.count(8), 0);
        due("the first GAP", Boundaries.gapOf(x, 0, 0), Boundaries.THROWN);
        due("the first TARGET", Boundaries.targetOf(x, 0, 0), Boundaries.THROWN);
        due("BLIND", x.blind(0), 0);
        due("HITS", x.hits(0), 0);
        due("MAKERS", x.makers(0), 0);
        due("FOUND", x.found(0, false), NONE);
        due("PICTURE", x.picture(0, false), NONE);
        due("JOINED", x.joined(1, 2, 3, 4, 5), 0);
        due("TRACKS", x.track(NONE, 0), 0);
    }

    @Boundaries.Sentence(promise = 1, says = "WAVE (60 at first), NOTCH (0), PULSE (1), LIMIT (500), NEED (2), SPAN (100), FLOOR (1)")
    static void settingsAtFirst() {
        StaggerRadar x = new StaggerRadar();
        for (int what = 0; what < 7; what++) {
            due(Boundaries.WORDS[what], x.count(what + 1), Boundaries.FIRSTS[what]);
        }
    }

    @Boundaries.Sentence(promise = 1, says = "NOW is 0 at first.")
    static void nowAtFirst() {
        StaggerRadar x = new StaggerRadar();
        due("NOW", x.count(9), 0);
        due("GONE", x.count(10), 0);
        due("ACTS", x.count(17), 0);
        due("bytes", x.count(18), 0);
        due("LOOKS", x.count(19), 0);
        due("none to UNDO", x.undo(), NONE);
        for (int k = 0; k < 3; k++) {
            Boundaries.due("no image " + k, x.again(k), false);
        }
    }

    @Boundaries.Sentence(promise = 1, says = "NONE = -1: There is none.")
    static void none() {
        due("NONE", StaggerRadar.NONE, -1);
    }

    // ---- promise 2

    @Boundaries.Sentence(promise = 2, says = "those of eight, the highest first")
    static void highestFirst() {
        StaggerRadar x = new StaggerRadar();
        due("eight bytes", x.type(0x6761702032313B20L), 8);
        due("a GAP", x.read(), 1);
        due("it is 21", x.gapOf(0, 0), 21);
    }

    @Boundaries.Sentence(promise = 2, says = "up to the first one that is 0")
    static void firstZero() {
        StaggerRadar x = new StaggerRadar();
        due("the lowest is 0", x.type(0x6761702032313B00L), 7);
        due("the highest is 0", x.type(0x0061702032313B20L), 7);
        due("only the highest is not", x.type(0x2000000000000000L), 8);
        due("what comes behind a 0 does not", x.type(0x67617020003B3B3BL), 12);
        due("all are 0", x.type(0L), 12);
        due("none is 0", x.type(0x32323B2020202020L), 20);
        due("two GAPS", x.read(), 2);
        due("21", x.gapOf(0, 0), 21);
        due("22", x.gapOf(1, 0), 22);
        for (int size = 0; size <= 8; size++) {
            due(size + " bytes", new StaggerRadar().type(size == 0 ? 0 : -1L << 64 - 8 * size), size);
        }
    }

    @Boundaries.Sentence(promise = 2, says = "Bytes come (those above 127, too)")
    static void highBytes() {
        StaggerRadar x = new StaggerRadar();
        due("eight of 255", x.type(-1L), 8);
        due("128", x.type(Long.MIN_VALUE), 9);
        due("127, 128", x.type(0x7F80000000000000L), 11);
        due("a FAULT", x.read(), NONE);
        due("at the first one", x.fault(true), 0);
    }

    @Boundaries.Sentence(promise = 2, says = "how many THE TEXT has")
    static void emptyText() {
        StaggerRadar x = new StaggerRadar();
        due("none yet", x.type(0L), 0);
        due("one", x.type(Boundaries.eight(" ")), 1);
        x.read();
        due("none again", x.type(0L), 0);
        due("three", x.type(Boundaries.eight("gap")), 3);
        x.read();
        due("none behind a FAULT", x.type(0L), 0);
    }

    private static StaggerRadar typed(int bytes) {
        StaggerRadar x = new StaggerRadar();
        Boundaries.typeAll(x, "gap 10;" + many(" ", bytes - 7));
        due("bytes", x.count(18), bytes);
        return x;
    }

    @Boundaries.Sentence(promise = 2, says = "THE TEXT has at most 400 bytes.")
    static void fullText() {
        StaggerRadar x = typed(392);
        due("400", x.type(Boundaries.eight("gap 11; ")), 400);
        due("no byte more is no more", x.type(0L), 400);
        due("one more", x.type(Boundaries.eight(" ")), NONE);
        due("400 are read", x.read(), 2);
        due("and empty", x.count(18), 0);
        due("it fills anew", typed(399).type(Boundaries.eight(";")), 400);
        due("7 at 393", typed(393).type(Boundaries.eight("gap 11;")), 400);
        due("8 at 393", typed(393).type(Boundaries.eight("gap 11; ")), NONE);
        due("8 at 399", typed(399).type(-1L), NONE);
        due("one behind which a 0 is, at 399", typed(399).type(0x2000202020202020L), 400);
    }

    @Boundaries.Sentence(promise = 2, says = "NONE, and nothing comes, if it would have more than 400.")
    static void nothingComes() {
        StaggerRadar x = typed(393);
        due("8 at 393", x.type(Boundaries.eight("gap 11;x")), NONE);
        due("393 still", x.count(18), 393);
        due("fewer can come", x.type(Boundaries.eight("gap 12;")), 400);
        due("refused again", x.type(Boundaries.eight("z")), NONE);
        due("400 still", x.count(18), 400);
        due("without what was refused", x.read(), 2);
        due("12", x.gapOf(1, 0), 12);
        due("no FAULT", x.fault(false), 0);
    }

    // ---- promise 3

    @Boundaries.Sentence(promise = 3, says = "A text: any number of (none, too)")
    static void nothingTold() {
        due("no byte", new StaggerRadar().read(), 0);
        due("a blank", read(new StaggerRadar(), " "), 0);
        due("a line", read(new StaggerRadar(), "\n"), 0);
        due("400 blanks", read(new StaggerRadar(), many(" \n", 200)), 0);
        due("one", read(new StaggerRadar(), "wave 7;"), 0);
    }

    @Boundaries.Sentence(promise = 3, says = "A text: any number of (400 bytes full of them)")
    static void fullOfSentences() {
        StaggerRadar x = new StaggerRadar();
        String text = "gap 60;gap 4;gap 59;gap 5;gap 32;" + many("go 2999 500 99;", 8) + many("span 7;", 34);
        text = text + many(" ", 400 - text.length() - 8) + "floor 9;";
        due("bytes", text.length(), 400);
        due("five GAPS", read(x, text), 5);
        due("eight TARGETS", x.count(8), 8);
        due("FLOOR, told last", x.count(7), 9);
        due("the last TARGET", x.targetOf(7, 1), 47984);
    }

    @Boundaries.Sentence(promise = 3, says = "with blanks (32, 10) between where one likes")
    static void blanks() {
        StaggerRadar x = new StaggerRadar();
        due("none", read(x, "gap4;gap60;come1 2 3;"), 2);
        due("many", read(x, " \n gap \n\n 4 \n;\n\n gap\n60\n ; come\n1\n2\n3\n;\n "), 2);
        due("TARGETS", x.count(8), 1);
    }

    @Boundaries.Sentence(promise = 3, says = "it is empty then")
    static void emptyThen() {
        StaggerRadar x = new StaggerRadar();
        read(x, "gap 10;");
        due("empty", x.count(18), 0);
        due("read() of the empty one", x.read(), 0);
        due("no GAP is left", x.count(0), 0);
        read(x, "gap 10");
        due("empty by a FAULT, too", x.count(18), 0);
        due("bytes from 0 on", x.type(Boundaries.eight("gap 11;")), 7);
        due("nothing is left of it", x.read(), 1);
        due("11", x.gapOf(0, 0), 11);
    }

    @Boundaries.Sentence(promise = 3, says = "all is as at first, but as told")
    static void asAtFirst() {
        StaggerRadar x = Boundaries.busy();
        for (int what = 0; what < 7; what++) {
            x.set(what, Boundaries.MOST[what]);
            x.set(what, Boundaries.LEAST[what]);
        }
        x.read();
        x.gap(50, true);
        due("no FAULT is told", read(x, "  "), 0);
        Boundaries.dueSame("as at first", Boundaries.told(x), Boundaries.told(new StaggerRadar()));
    }

    @Boundaries.Sentence(promise = 3, says = "how many GAPS (none to 5)")
    static void howMany() {
        StaggerRadar x = new StaggerRadar();
        String text = "";
        for (int gaps = 0; gaps <= 5; gaps++) {
            due(gaps + " GAPS", read(x, text), gaps);
            text = text + "gap " + (30 - gaps) + ";";
        }
    }

    @Boundaries.Sentence(promise = 3, says = "NONE: a FAULT (all but THE TEXT, the FAULT stays).")
    static void faultStays() {
        StaggerRadar x = Boundaries.busy();
        int[] before = Boundaries.told(x);
        before[18] = 0;
        before[20] = 3;
        before[21] = 17;
        due("THE TEXT has bytes", x.count(18), 6);
        due("told last, but a FAULT", read(x, "wave 7;gap 9;go 1 1 1;"), NONE);
        Boundaries.dueSame("but for THE TEXT and the FAULT", Boundaries.told(x), before);
        due("what can be UNDONE is still that", x.undo(), 7);
        due("the 8th TARGET came last", x.count(8), 7);
    }

    @Boundaries.Sentence(promise = 3, says = "WAVE, 2 to 999, NOTCH, 0 to 49, PULSE, 0 to 9, LIMIT, 1 to 1000, NEED, 1 to 5, SPAN, 1 to 200, FLOOR, 1 to 200")
    static void leastAndMostTold() {
        for (int what = 0; what < 7; what++) {
            StaggerRadar x = new StaggerRadar();
            String word = Boundaries.WORDS[what];
            read(x, word + " " + Boundaries.LEAST[what] + ";");
            due("the least " + word, x.count(what + 1), Boundaries.LEAST[what]);
            read(x, word + " " + Boundaries.MOST[what] + ";");
            due("the most " + word, x.count(what + 1), Boundaries.MOST[what]);
            due("nothing else, " + word, x.count(what == 0 ? 2 : what), Boundaries.FIRSTS[what == 0 ? 1 : what - 1]);
        }
    }

    @Boundaries.Sentence(promise = 3, says = "come, go: a TARGET of RANGE N, 0 to 2999 (SPOT: 16 times that), SPEED N, 0 to 500, of come 0 less that, STRENGTH N")
    static void leastAndMostTargets() {
        StaggerRadar x = radarOf("come 0 0 1;go 0 0 1;come 2999 500 99;go 2999 500 99;go 2998 499 98;");
        int[][] due = {{0, 0, 1}, {0, 0, 1}, {47984, -500, 99}, {47984, 500, 99}, {47968, 499, 98}};
        for (int t = 0; t < due.length; t++) {
            for (int what = 1; what <= 3; what++) {
                due("TARGET " + t + ", " + what, x.targetOf(t, what), due[t][what - 1]);
            }
        }
    }

    @Boundaries.Sentence(promise = 3, says = "Later ones strike")
    static void laterStrikes() {
        for (int what = 0; what < 7; what++) {
            String word = Boundaries.WORDS[what];
            String some = word + " " + Boundaries.LEAST[what] + ";" + word + " " + Boundaries.MOST[what] + ";";
            due("the later " + word, radarOf(some).count(what + 1), Boundaries.MOST[what]);
            due("as it was at first, " + word, radarOf(some + word + " " + Boundaries.FIRSTS[what] + ";").count(what + 1),
                Boundaries.FIRSTS[what]);
        }
    }

    @Boundaries.Sentence(promise = 3, says = "but gap, come, go, which are further ones; GAPS are put in order as they come")
    static void furtherOnes() {
        StaggerRadar x = radarOf("gap 60;go 1 1 1;gap 4;come 1 1 1;gap 59;go 1 1 1;gap 5;gap 30;");
        int[] rising = {4, 5, 30, 59, 60};
        for (int k = 0; k < 5; k++) {
            due("GAP " + k, x.gapOf(k, 0), rising[k]);
        }
        due("TARGETS alike", x.count(8), 3);
        due("the second one", x.targetOf(1, 2), -1);
    }

    @Boundaries.Sentence(promise = 3, says = "NUMBERS, 1 to 4 digits")
    static void digits() {
        StaggerRadar x = radarOf("notch 0;pulse 00;span 010;limit 0999;floor 0007;wave 2;gap 0060;go 0000 0000 0001;");
        due("0", x.count(2), 0);
        due("00", x.count(3), 0);
        due("010", x.count(6), 10);
        due("0999", x.count(4), 999);
        due("0007", x.count(7), 7);
        due("2", x.count(1), 2);
        due("0060", x.gapOf(0, 0), 60);
        due("0000", x.targetOf(0, 1), 0);
        due("four digits", radarOf("limit 1000;").count(4), 1000);
    }

    @Boundaries.Sentence(promise = 3, says = "read() without a FAULT leaves none to UNDO")
    static void noneToUndo() {
        StaggerRadar x = new StaggerRadar();
        x.gap(10, false);
        read(x, "x");
        due("with a FAULT one is left", x.count(17), 1);
        x.read();
        due("without, none", x.count(17), 0);
        due("without, none", x.undo(), NONE);
        x.gap(11, false);
        due("a new one", x.undo(), 0);
        due("is UNDONE", x.count(0), 0);
    }

    // ---- promise 4

    @Boundaries.Sentence(promise = 4, says = "its FAULT (0 without, and at first), or (place) its place (NONE without)")
    static void without() {
        StaggerRadar x = new StaggerRadar();
        due("at first", x.fault(false), 0);
        due("at first", x.fault(true), NONE);
        read(x, "gap 3;");
        due("with", x.fault(false), 2);
        due("with", x.fault(true), 4);
        x.read();
        due("without", x.fault(false), 0);
        due("without", x.fault(true), NONE);
        read(x, "?");
        due("with", x.fault(false), 1);
        due("the place 0 is one", x.fault(true), 0);
    }

    @Boundaries.Sentence(promise = 4, says = "Of the latest read()")
    static void latest() {
        StaggerRadar x = new StaggerRadar();
        read(x, "gap 61;");
        x.gap(10, false);
        x.undo();
        x.set(0, 1);
        Boundaries.typeAll(x, "gap 10;gap 10;");
        due("not by what comes behind it", x.fault(false), 2);
        due("not by what comes behind it", x.fault(true), 4);
        x.read();
        due("by the next one", x.fault(false), 3);
        due("by the next one", x.fault(true), 11);
    }

    @Boundaries.Sentence(promise = 4, says = "the end's: how many bytes there are; 1 the end, if more must come")
    static void end() {
        String[] cut = {"gap", "gap 10", "wave", "wave 7", "come", "come 1", "come 1 2", "come 1 2 3", "go 1 2", "go"};
        for (String text : cut) {
            fault(text, 1, text.length());
            fault(text + " ", 1, text.length() + 1);
            fault("gap 9;" + text + "\n\n", 1, text.length() + 8);
            fault(text + many(" ", 400 - text.length()), 1, 400);
        }
    }

    @Boundaries.Sentence(promise = 4, says = "the byte from 0 on")
    static void firstAndLastByte() {
        fault(";", 1, 0);
        fault("7", 1, 0);
        fault("q", 1, 0);
        fault(many(" ", 399) + ";", 1, 399);
        fault(many(" ", 399) + "7", 1, 399);
        fault(many(" ", 399) + "q", 1, 399);
        fault(many(" ", 397) + "gap", 1, 400);
        fault(many(" ", 393) + "gap 10;", 0, NONE);
        fault(many(" ", 394) + "gap 3;", 2, 398);
    }

    @Boundaries.Sentence(promise = 4, says = "1 the first token that can not stand there")
    static void wrongTokens() {
        fault(" 10;", 1, 1);
        fault("gap 10;;", 1, 7);
        fault("gap 10; 11;", 1, 8);
        fault("gap;", 1, 3);
        fault("gap gap 10;", 1, 4);
        fault("gap 10 11;", 1, 7);
        fault("gap 10 gap 11;", 1, 7);
        fault("wave 10 10 10;", 1, 8);
        fault("come;", 1, 4);
        fault("come 1;", 1, 6);
        fault("come 1 1;", 1, 8);
        fault("come 1 1 go;", 1, 9);
        fault("go 1 1 1 1;", 1, 9);
        fault("go 1 1 1 go 1 1 1;", 1, 9);
        fault("gap ? ! ;", 1, 4);
    }

    @Boundaries.Sentence(promise = 4, says = "words, letters a to z (another word can not stand)")
    static void words() {
        for (String word : new String[] {"gap", "wave", "notch", "pulse", "limit", "need", "span", "floor"}) {
            fault(word + " 5;", 0, NONE);
            fault(" " + word.substring(1) + " 5;", 1, 1);
            fault(" " + word.substring(0, word.length() - 1) + " 5;", 1, 1);
            fault(" " + word + word + " 5;", 1, 1);
            fault(" " + word + "z5;", 1, 1);
            fault(" a" + word + " 5;", 1, 1);
        }
        for (String word : new String[] {"come", "go"}) {
            fault(word + " 5 5 5;", 0, NONE);
            fault(" " + word.substring(1) + " 5 5 5;", 1, 1);
            fault(" " + word.substring(0, word.length() - 1) + " 5 5 5;", 1, 1);
            fault(" " + word + "s 5 5 5;", 1, 1);
        }
        fault("gapwave 5;", 1, 0);
        fault("a", 1, 0);
        fault(many("gap", 133) + "g", 1, 0);
    }

    @Boundaries.Sentence(promise = 4, says = "1 the first token that can not stand there (a word of which one letter is another)")
    static void spelling() {
        for (String word : new String[] {"gap", "wave", "notch", "pulse", "limit", "need", "span", "floor", "come", "go"}) {
            String numbers = word.equals("come") || word.equals("go") ? " 5 5 5;" : " 5;";
            for (int i = 0; i < word.length(); i++) {
                char before = word.charAt(i) == 'a' ? 'z' : (char) (word.charAt(i) - 1);
                char after = word.charAt(i) == 'z' ? 'a' : (char) (word.charAt(i) + 1);
                fault("\n" + word.substring(0, i) + before + word.substring(i + 1) + numbers, 1, 1);
                fault("\n" + word.substring(0, i) + after + word.substring(i + 1) + numbers, 1, 1);
            }
        }
    }

    @Boundaries.Sentence(promise = 4, says = "TOKENS, each as long as it goes")
    static void asLongAsItGoes() {
        fault("gap 1 0;", 1, 6);
        fault("ga p10;", 1, 0);
        fault("gap1 0;", 1, 5);
        fault("go 1 11;", 1, 7);
        fault("go111 1 1;", 0, NONE);
        fault("gap10wave 7;", 1, 5);
        fault("gap10;wave7;go1 1 1;", 0, NONE);
        fault("gap 10 ; ;", 1, 9);
    }

    @Boundaries.Sentence(promise = 4, says = "1 a byte that begins none")
    static void strangeBytes() {
        int[] bytes = {1, 9, 11, 13, 31, 33, 47, 58, 60, 64, 65, 71, 90, 91, 95, 96, 123, 127, 128, 160, 200, 255};
        for (int sign : bytes) {
            String one = String.valueOf((char) sign);
            fault(one, 1, 0);
            fault("gap" + one + "10;", 1, 3);
            fault("gap " + one + ";", 1, 4);
            fault("gap 1" + one + "0;", 1, 5);
            fault("gap 10" + one + ";", 1, 6);
            fault("gap 10;" + one, 1, 7);
            fault("ga" + one + "p 10;", 1, 0);
        }
    }

    @Boundaries.Sentence(promise = 4, says = "NUMBERS, 1 to 4 digits (a longer row of digits is none)")
    static void longRows() {
        fault("gap 00010;", 1, 4);
        fault("gap 10000;", 1, 4);
        fault("gap 0010;", 0, NONE);
        fault("gap 9999;", 2, 4);
        fault("wave 00060;", 1, 5);
        fault("wave 99999;", 1, 5);
        fault("wave 0060;", 0, NONE);
        fault("go 00001 1 1;", 1, 3);
        fault("go 1 00001 1;", 1, 5);
        fault("go 1 1 00001;", 1, 7);
        fault("gap " + many("9", 396), 1, 4);
        fault("gap " + many("0", 395) + ";", 1, 4);
        fault("12345", 1, 0);
        fault("gap 4294967306;", 1, 4);
    }

    @Boundaries.Sentence(promise = 4, says = "If there is none [of 1], the first by place")
    static void wrongTokenFirst() {
        fault("gap 3;gap 10;gap 10;x", 1, 20);
        fault("gap 10;gap 10;", 3, 11);
        fault("gap 10;gap 10;;", 1, 14);
        fault("gap 3", 1, 5);
        fault("gap 10;gap 10;gap 3;", 3, 11);
        fault("gap 3;gap 10;gap 10;", 2, 4);
        fault("wave 0;notch 99;", 2, 5);
        fault("go 3000 501 0;", 2, 3);
        fault("go 1 501 0;", 2, 5);
        fault("go 1 1 0;", 2, 7);
        fault("gap 4;gap 5;gap 6;gap 7;gap 8;gap 9;wave 1;", 4, 30);
        fault("gap 4;gap 5;gap 6;gap 7;gap 8;wave 1;gap 9;", 2, 35);
        fault(many("go 1 1 1;", 9) + "gap", 1, 84);
    }

    @Boundaries.Sentence(promise = 4, says = "2 a NUMBER that can not be (as above): GAPS, each 4 to 60")
    static void wrongGaps() {
        for (int gap : new int[] {0, 1, 3, 61, 64, 99, 100, 260, 999, 9999}) {
            fault("gap " + gap + ";", 2, 4);
            fault("wave 7;gap " + gap + ";gap 10;", 2, 11);
        }
        fault("gap 4;", 0, NONE);
        fault("gap 60;", 0, NONE);
    }

    @Boundaries.Sentence(promise = 4, says = "2 a NUMBER that can not be (as above): WAVE to FLOOR")
    static void wrongSettings() {
        for (int what = 0; what < 7; what++) {
            String word = Boundaries.WORDS[what];
            fault(word + " " + Boundaries.LEAST[what] + ";", 0, NONE);
            fault(word + " " + Boundaries.MOST[what] + ";", 0, NONE);
            fault(word + " " + (Boundaries.MOST[what] + 1) + ";", 2, word.length() + 1);
            fault(word + " 9999;", 2, word.length() + 1);
            if (Boundaries.LEAST[what] > 0) {
                fault(word + " " + (Boundaries.LEAST[what] - 1) + ";", 2, word.length() + 1);
                fault(word + " 0000;", 2, word.length() + 1);
            }
            fault(word + " 9999;" + word + " 5;", 2, word.length() + 1);
        }
    }

    @Boundaries.Sentence(promise = 4, says = "2 a NUMBER that can not be (as above): RANGE 0 to 2999, SPEED 0 to 500, STRENGTH 1 to 99")
    static void wrongTargets() {
        for (String word : new String[] {"come", "go"}) {
            int at = word.length() + 1;
            fault(word + " 0 0 1;" + word + " 2999 500 99;", 0, NONE);
            fault(word + " 3000 500 99;", 2, at);
            fault(word + " 9999 500 99;", 2, at);
            fault(word + " 2999 501 99;", 2, at + 5);
            fault(word + " 2999 9999 99;", 2, at + 5);
            fault(word + " 2999 500 100;", 2, at + 9);
            fault(word + " 2999 500 0;", 2, at + 9);
            fault(word + " 2999 500 9999;", 2, at + 9);
        }
    }

    @Boundaries.Sentence(promise = 4, says = "3 a GAP that is there already (at it)")
    static void gapTwice() {
        fault("gap 4;gap 4;", 3, 10);
        fault("gap 60;gap 60;", 3, 11);
        fault("gap 10;wave 7;gap 11;gap 12;gap 0010;", 3, 32);
        fault("gap 10;gap 11;gap 12;gap 13;gap 13;", 3, 32);
        fault("gap 10;gap 11;gap 12;gap 13;gap 10;", 3, 32);
        StaggerRadar x = new StaggerRadar();
        x.gap(10, false);
        due("it is there already, but not in the text", read(x, "gap 10;"), 1);
    }

    @Boundaries.Sentence(promise = 4, says = "4 the word gap of a 6th")
    static void sixthGap() {
        String five = "gap 4;gap 5;gap 6;gap 7;gap 8;";
        fault(five, 0, NONE);
        fault(five + "gap 9;", 4, 30);
        fault(five + " \n gap 9;", 4, 33);
        fault(five + "gap 4;", 4, 30);
        fault(five + "gap 3;", 4, 30);
        fault(five + "gap 9;gap 3;", 4, 30);
        fault(five + "go 1 1 1;", 0, NONE);
        fault(five + "wave 7;wave 8;", 0, NONE);
        fault("gap 4;gap 4;gap 6;gap 7;gap 8;gap 9;", 3, 10);
    }

    @Boundaries.Sentence(promise = 4, says = "4 come or go of a 9th")
    static void ninthTarget() {
        String eight = many("come 1 1 1;", 4) + many("go 1 1 1;", 4);
        fault(eight, 0, NONE);
        fault(eight + "go 1 1 1;", 4, 80);
        fault(eight + "come 1 1 1;", 4, 80);
        fault(eight + "\ngo 3000 1 1;", 4, 81);
        fault(eight + "come 1 1 0;", 4, 80);
        fault(eight + "gap 4;gap 5;gap 6;gap 7;gap 8;", 0, NONE);
        fault(eight + "gap 4;gap 5;gap 6;gap 7;gap 8;go 1 1 1;", 4, 110);
        fault(many("come 1 1 1;", 8) + "gap 3;go 1 1 1;", 2, 92);
    }
}
