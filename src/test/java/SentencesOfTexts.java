/** Promises 7 and 8, sentence by sentence. */
final class SentencesOfTexts {
    private static final int NONE = Run.NONE, BAD = Run.BAD, FULL = Run.FULL;
    private static final String FIRST_NAMED = "Refusals, the first that the call's words name; they change nothing";
    private static final String TOKENS = "TOKENS, each as long as can be: WORDS (a .. z), NUMBERS (digits, as many as stand there, "
        + "0 ahead of others, too; more than 2 are too long), the SIGN ; ; blanks (32) may stand between.";
    private static final String TEXT = "TEXT: CLAUSES, one or more, with ; between.";
    private static final String CLAUSE = "CLAUSE: a WORD, then just as many NUMBERS as it needs: node (3: SIZE, p, q: 9 for NONE), "
        + "most, least, sum (3 likewise: KINDS 1, 2, 3), row (5: NODE, ROW, three numbers), told (2: NODE, value; 9 for NONE), "
        + "done (2 likewise), hint (4: NODE, three numbers).";
    private static final String FAULT = "FAULT: the place of the first byte of the first TOKEN, from left to right, that can't stand there "
        + "(THE TAPE's size, if it ends too early), also of a byte that begins none, of a WORD that is none of these, of a NUMBER that is too long.";
    private static final String DONE = "Without FAULT they are done, one behind the other, as if called so; those that would be refused aren't.";
    private static final String WEB = "node 2 0 -1 -1;node 3 0 0 -1";

    private SentencesOfTexts() { }

    static void tell(Sentences s) {
        feed(s);
        text(s);
        words(s);
        numbers(s);
        signs(s);
        clauses(s);
        needs(s);
        faults(s);
        refused(s);
    }

    /** Each of these texts has its FAULT at this place. */
    private static void fault(int place, String... texts) {
        for (String text : texts) Run.of(WEB).reads(text, -100 - place).prints(0, "0/2").due(0, "count 4", "count 1", "count 2")
            .due(2, "count 0");
    }

    private static String bytes(int n, String call) {
        return (call + ";").repeat(n);
    }

    private static void feed(Sentences s) {
        s.of(7, "A byte (0 .. 255) comes behind THE TAPE: how many it has.", "0, 255, behind those that are there", () -> {
            Run.of().due(1, "feed 0").due(2, "feed 255").due(3, "feed 0").due(3, "count 4");
            Run.of(WEB).feeds("told 0 ").due(8, "feed 49").due(1, "text").due(1, "of 0 4");
        })
            .breaks("public int feed(", "letter < 0", "letter <= 0")
            .breaks("public int feed(", "letter > BYTE", "letter >= BYTE")
            .breaks("public int feed(", "return tape.size;", "return tape.size - 1;")
            .breaks("void add(int letter)", "bytes[size++] = letter;", "bytes[0] = letter;\n            size++;");
        s.of(7, "BAD;", "one below, one above", () -> Run.of("feed 65")
            .refuses(BAD, "feed -1", "feed 256", "feed 2147483647", "feed -2147483648").due(2, "feed 66"))
            .breaks("public int feed(", "letter < 0", "letter < -1")
            .breaks("public int feed(", "letter > BYTE", "letter > 256")
            .breaks("public int feed(", "return BAD;", "return FULL;");
        s.of(7, "FULL.", "the 61st", () -> Run.of(bytes(59, "feed 32")).due(60, "feed 32").refuses(FULL, "feed 32", "feed 0")
            .due(60, "count 4"))
            .breaks("public int feed(", "tape.size >= TAPE", "tape.size >= TAPE - 1")
            .breaks("public int feed(", "tape.size >= TAPE", "tape.size > TAPE")
            .breaks("public int feed(", "return FULL;", "return BAD;");
        s.of(7, FIRST_NAMED, "BAD ahead of FULL", () -> Run.of(bytes(60, "feed 32")).refuses(BAD, "feed -1", "feed 256"))
            .breaks("public int feed(", "if (letter < 0", "if (tape.size >= TAPE) return FULL;\n        if (letter < 0");
        s.of(7, "THE TAPE (60 bytes at most) is read as a TEXT.", "all 60 bytes", () -> {
            Run.of(WEB).reads("told 0 1" + ";told 1 01".repeat(5) + "; ", -160).due(NONE, "of 0 4");
            Run.of(WEB).reads("told 0 1" + ";told 1 01".repeat(5) + "  ", 6).due(1, "of 0 4", "of 1 4");
            Run.of(WEB).reads("told 0 0;" + " ".repeat(43) + "told 1 0", 2).due(0, "of 0 4", "of 1 4");
            Run.of(WEB).feeds(" ".repeat(52) + "told 0 1").due(60, "count 4").refuses(FULL, "feed 49").due(1, "text")
                .due(1, "of 0 4");
        })
            .breaks(" TAPE = 60", " TAPE = 60", " TAPE = 59")
            .breaks(" TAPE = 60", " TAPE = 60", " TAPE = 61");
    }

    private static void text(Sentences s) {
        String words = "THE TAPE, which is empty then (by a FAULT, too), is a TEXT: how many CLAUSES were done; -100 less the place of its FAULT.";
        s.of(8, words, "empty then", () -> Run.of(WEB).reads("told 0 1", 1).due(0, "count 4").reads("told 0 0", 1)
            .due(0, "of 0 4"))
            .breaks("public int text(", "tape.size = 0;", "if (fault != NONE) tape.size = 0;");
        s.of(8, words, "empty by a FAULT", () -> Run.of(WEB).reads("told 0 x", -107).due(0, "count 4").reads("told 0 0", 1)
            .due(0, "of 0 4").reads("x", -100).due(0, "count 4").due(1, "feed 0"))
            .breaks("public int text(", "tape.size = 0;", "if (fault == NONE) tape.size = 0;");
        s.of(8, "(but THE TAPE, where told)", "it is empty, whatever was refused", () -> Run.of(WEB)
            .reads("told 2 0;node 4 9 9", 0).due(0, "count 4").reads("told 0 1;", -109).due(0, "count 4", "count 1"))
            .breaks("public int text(", "tape.size = 0;", "if (answer > 0) tape.size = 0;");
        s.of(8, words, "empty: bytes of an earlier one don't count", () -> Run.of(WEB).reads("toldtold", -100).reads("told", -104)
            .reads("told 0 19", 0).reads("told 0 1", 1).due(1, "of 0 4").reads("told 0 0;told 1 0", 2).reads("told 0 1", 1)
            .due(0, "of 1 4").reads("told 0    ", -110).reads("told 0", -106))
            .breaks("private void readToken()", "while (at < size && isLetter(bytes[at]))", "while (at < TAPE && isLetter(bytes[at]))")
            .breaks("private void readNumber()", "at < size", "at < TAPE")
            .breaks("private void readToken()", "while (at < size && bytes[at] == ' ')", "while (at < TAPE && bytes[at] == ' ')")
            .breaks("private void readToken()", "if (at >= size) {", "if (at >= TAPE || bytes[at] == 0) {");
        s.of(8, words, "how many CLAUSES: one, six", () -> Run.of(WEB).reads("told 0 1", 1)
            .reads("told 0 1;told 0 0;told 0 9;done 1 2;done 1 0;done 1 9", 6))
            .breaks("public int text(", "answer++;", "answer = 1;")
            .breaks("public int text(", "answer++;", "answer += 2;");
        s.of(8, words, "-100 less places 0 and 60", () -> Run.of(WEB).reads("", -100).reads(";", -100)
            .reads("told 0" + " ".repeat(54), -160).reads(" ".repeat(60), -160))
            .breaks("public int text(", "answer = FAULT - fault;", "answer = FAULT + fault;")
            .breaks("public int text(", "answer = FAULT - fault;", "answer = FAULT - fault - 1;")
            .breaks("FAULT = -100", "FAULT = -100", "FAULT = -99");
        s.of(8, words, "no byte at all", () -> Run.of(WEB).due(-100, "text", "text").reads("told 0 1", 1).due(-100, "text"))
            .breaks("int findFault()", "if (token != WORD_TOKEN) return begin;",
                "if (token == END) return NONE;\n                    if (token != WORD_TOKEN) return begin;");
    }

    private static void words(Sentences s) {
        s.of(8, TOKENS, "a WORD as long as can be", () -> fault(0, "toldx 0 1", "tolddone 0 1", "tol 0 1", "nodenode 2 9 9",
            "t 0 1", "to ld 0 1", "sumx 2 0 9", "hints 0 1 1 1"))
            .breaks("private boolean isRead(", "text.length() != at - begin", "text.length() > at - begin")
            .breaks("private boolean isRead(", "for (int i = 0; i < text.length(); i++)",
                "for (int i = 1; i < text.length() - 1; i++)");
        s.of(8, TOKENS, "a WORD, a NUMBER of all 60 bytes", () -> fault(0, "z".repeat(60), "told".repeat(15), "1".repeat(60)))
            .breaks("private void readToken()", "while (at < size && isLetter(bytes[at]))", "while (isLetter(bytes[at]))")
            .breaks("private void readNumber()", "at < size && ", "");
        s.of(8, TOKENS, "a .. z: just what is ahead of a begins none, just what is behind z, too", () -> {
            fault(0, "tolda 0 1", "toldz 0 1", "atold 0 1", "ztold 0 1");
            fault(4, "told` 0 1", "told{ 0 1", "toldA 0 1", "toldZ 0 1", "told_0 1");
            fault(0, "Told 0 1", "TOLD 0 1", "`told 0 1", "{told 0 1");
        })
            .breaks("private static boolean isLetter(", "letter >= 'a'", "letter > 'a'")
            .breaks("private static boolean isLetter(", "letter >= 'a'", "letter >= '`'")
            .breaks("private static boolean isLetter(", "letter <= 'z'", "letter < 'z'")
            .breaks("private static boolean isLetter(", "letter <= 'z'", "letter <= '{'")
            .breaks("private static boolean isLetter(", "return letter >= 'a'",
                "return letter >= 'A' && letter <= 'Z' || letter >= 'a'");
    }

    private static void numbers(Sentences s) {
        s.of(8, TOKENS, "a NUMBER as long as can be", () -> {
            Run.of(WEB).reads("row 0 0 12 0 0", 1).due(12, "cell 0 0 0").reads("row 0 0 1 11 0", 1).due(11, "cell 0 0 1");
            fault(7, "told 0 111", "told 0 1111");
            fault(7, "told 01;told 0 1");
        })
            .breaks("private void readNumber()", "while (at < size && isDigit(bytes[at]))",
                "if (at < size && isDigit(bytes[at]))");
        s.of(8, TOKENS, "digits: just what is ahead of 0 begins none, just what is behind 9, too", () -> {
            fault(6, "told 0/1", "told 0:1", "told 0/ 1", "told 0: 1", "told 0-1");
            fault(5, "told /0 1", "told :0 1", "told -0 1", "told +0 1");
            Run.of(WEB).reads("hint 0 0 9 0;hint 1 9 0 0", 2).prints(0, "0/2 hint 0:9").prints(1, "1/3 <0 hint 9:0:0");
        })
            .breaks("private static boolean isDigit(", "letter >= '0'", "letter > '0'")
            .breaks("private static boolean isDigit(", "letter >= '0'", "letter >= '/'")
            .breaks("private static boolean isDigit(", "letter <= '9'", "letter < '9'")
            .breaks("private static boolean isDigit(", "letter <= '9'", "letter <= ':'");
        s.of(8, TOKENS, "0 ahead of others, too", () -> Run.of(WEB)
            .reads("told 00 01;done 01 02;row 01 01 01 02 09;node 02 01 00", 4).due(1, "of 0 4").due(2, "of 1 5", "cell 1 1 1")
            .due(0, "of 2 3")
            .reads("told 0 09;done 01 09", 2).due(NONE, "of 0 4", "of 1 5"))
            .breaks("private void readToken()", "at - begin > DIGITS ?",
                "at - begin > DIGITS || at - begin == 2 && bytes[begin] == '0' ?")
            .breaks("private static int noneIfNine(", "number == NINE", "number > NINE");
        s.of(8, TOKENS, "two digits, three", () -> {
            Run.of(WEB).reads("row 0 0 00 12 00", 1).due(12, "cell 0 0 1").reads("told 99 0;told 0 99;told 10 0", 0)
                .due(NONE, "of 0 4");
            fault(7, "told 0 001", "told 0 000", "told 0 123", "told 0 1234567890");
            fault(5, "told 000 1", "told 001 1");
        })
            .breaks("DIGITS = 2", "DIGITS = 2", "DIGITS = 1")
            .breaks("DIGITS = 2", "DIGITS = 2", "DIGITS = 3");
    }

    private static void signs(Sentences s) {
        s.of(8, TOKENS, "the SIGN, and its neighbours", () -> {
            Run.of(WEB).reads("told 0 1;told 1 1", 2).reads("told 0 1 ; told 1 1", 2).reads("told 0 1; told 1 1", 2);
            fault(8, "told 0 1:told 1 1", "told 0 1<told 1 1", "told 0 1,told 1 1", "told 0 1.", "told 0 1\u00bb");
        })
            .breaks("private void readToken()", "bytes[at] == ';'", "bytes[at] == ';' || bytes[at] == ':'")
            .breaks("private void readToken()", "bytes[at] == ';'", "bytes[at] >= ';'")
            .breaks("private void readToken()", "bytes[at] == ';' ? SIGN_TOKEN", "bytes[at] == ',' ? SIGN_TOKEN");
        s.of(8, TOKENS, "blanks, some, one or none", () -> {
            Run.of(WEB).reads("told 0 1;told   1   2  ;   done 1 0", 3).due(2, "of 1 4").reads("told0 0;done1 1", 2)
                .due(0, "of 0 4").due(1, "of 1 5");
            Run.of(WEB).reads("  told 0 1  ", 1).due(1, "of 0 4").reads("told01", -106);
        })
            .breaks("private void readToken()", "while (at < size && bytes[at] == ' ') at++;",
                "if (at < size && bytes[at] == ' ') at++;")
            .breaks("private void readToken()", "while (at < size && bytes[at] == ' ') at++;", "");
        s.of(8, TOKENS, "only 32 is a blank", () -> {
            fault(4, "told\t0 1", "told\n0 1", "told\r0 1", "told\u00a00 1", "told!0 1", "told\u001f0 1", "told\u00000 1");
            fault(8, "told 0 1\n", "told 0 1\u0000", "told 0 1!");
        })
            .breaks("private void readToken()", "bytes[at] == ' '", "bytes[at] <= ' '")
            .breaks("private void readToken()", "bytes[at] == ' '", "(bytes[at] == ' ' || bytes[at] == 160)")
            .breaks("private void readToken()", "bytes[at] == ' '", "(bytes[at] == ' ' || bytes[at] == '!')");
    }

    private static void clauses(Sentences s) {
        String begins = "if (token != WORD_TOKEN) return begin;";
        s.of(8, TEXT, "none is too few", () -> {
            fault(0, "");
            fault(2, "  ");
            fault(0, ";", ";told 0 1");
        })
            .breaks("int findFault()", begins, "if (token == END && i == 0) return NONE;\n                    " + begins)
            .breaks("int findFault()", begins, "if (token == SIGN_TOKEN) continue;\n                    " + begins);
        s.of(8, TEXT, "; between, not behind the last", () -> {
            fault(9, "told 0 1;", "told 0 1;;told 1 1", "told 0 1;;");
            fault(10, "told 0 1; ", "told 0 1; ; told 1 1");
        })
            .breaks("int findFault()", begins, "if (token == END && i > 0) return NONE;\n                    " + begins)
            .breaks("int findFault()", begins, "if (token == SIGN_TOKEN && i > 0) continue;\n                    " + begins);
        s.of(8, TEXT, "not without ; between", () -> fault(9, "told 0 1 told 1 1", "told 0 1 x", "told 0 1 told 1 1;"))
            .breaks("int findFault()", "if (token != SIGN_TOKEN) return begin;",
                "if (token == WORD_TOKEN) continue;\n                    if (token != SIGN_TOKEN) return begin;");
        s.of(8, TEXT, "one, and as many as there is room for", () -> Run.of(WEB).reads("told 0 1", 1)
            .reads("told0 1;told0 0;told0 1;told0 0;told0 1;told0 0;done1 1", 7).due(0, "of 0 4").due(1, "of 1 5"))
            .breaks("public int text(", "i <= TAPE && ", "i < 6 && ")
            .breaks("int findFault()", "for (int i = 0; i <= size; i++)", "for (int i = 0; i < size / 2 - 1; i++)");
    }

    /** Each WORD with a NUMBER too few, at the end and ahead of a SIGN, and with one too many. */
    private static void need(Sentences s, String edge, String clause, String fewer, String more) {
        s.of(8, CLAUSE, edge, () -> {
            int shorter = clause.lastIndexOf(' ');
            String few = clause.substring(0, shorter);
            fault(shorter, few, few + ";told 0 1");
            fault(shorter + 1, few + " told 0 1", few + " ");
            fault(clause.length() + 1, clause + " 9", clause + " 1 1");
        })
            .breaks("NEEDS = {", "{3, 3, 3, 3, 5, 2, 2, 4}", fewer)
            .breaks("NEEDS = {", "{3, 3, 3, 3, 5, 2, 2, 4}", more);
    }

    private static void needs(Sentences s) {
        need(s, "node: not 2, not 4", "node 2 9 9", "{2, 3, 3, 3, 5, 2, 2, 4}", "{4, 3, 3, 3, 5, 2, 2, 4}");
        need(s, "most: not 2, not 4", "most 2 0 9", "{3, 2, 3, 3, 5, 2, 2, 4}", "{3, 4, 3, 3, 5, 2, 2, 4}");
        need(s, "least: not 2, not 4", "least 2 0 9", "{3, 3, 2, 3, 5, 2, 2, 4}", "{3, 3, 4, 3, 5, 2, 2, 4}");
        need(s, "sum: not 2, not 4", "sum 2 0 9", "{3, 3, 3, 2, 5, 2, 2, 4}", "{3, 3, 3, 4, 5, 2, 2, 4}");
        need(s, "row: not 4, not 6", "row 0 0 6 6 0", "{3, 3, 3, 3, 4, 2, 2, 4}", "{3, 3, 3, 3, 6, 2, 2, 4}");
        need(s, "told: not 1, not 3", "told 0 1", "{3, 3, 3, 3, 5, 1, 2, 4}", "{3, 3, 3, 3, 5, 3, 2, 4}");
        need(s, "done: not 1, not 3", "done 0 1", "{3, 3, 3, 3, 5, 2, 1, 4}", "{3, 3, 3, 3, 5, 2, 3, 4}");
        need(s, "hint: not 3, not 5", "hint 0 1 1 1", "{3, 3, 3, 3, 5, 2, 2, 3}", "{3, 3, 3, 3, 5, 2, 2, 5}");
        s.of(8, CLAUSE, "node: 9 for NONE", () -> Run.of().reads("node 2 9 9;node 3 0 9;node 2 1 0", 3).prints(0, "0/2")
            .prints(1, "1/3 <0").prints(2, "2/2 <1,0").due(0, "of 2 1").reads("node 2 9 0;node 9 9 9", 0))
            .breaks("case Tape.NODE:", "noneIfNine(n[1])", "n[1]")
            .breaks("case Tape.NODE:", "noneIfNine(n[2])", "n[2]")
            .breaks("case Tape.NODE:", "TABLE", "MOST");
        s.of(8, CLAUSE, "most: 9 for NONE, KIND 1", () -> Run.of(WEB).reads("most 2 0 9;most 3 1 0", 2).prints(2, "2/2 most <0")
            .prints(3, "3/3 most <1,0").reads("most 2 9 9;most 2 9 0", 0))
            .breaks("case Tape.MOST_NODE:", "MOST, noneIfNine(n[1])", "LEAST, noneIfNine(n[1])")
            .breaks("case Tape.MOST_NODE:", "noneIfNine(n[2])", "n[2]");
        s.of(8, CLAUSE, "least: 9 for NONE, KIND 2", () -> Run.of(WEB).reads("least 2 0 9;least 3 1 0", 2)
            .prints(2, "2/2 least <0").prints(3, "3/3 least <1,0").reads("least 2 9 9", 0))
            .breaks("case Tape.LEAST_NODE:", "LEAST, noneIfNine(n[1])", "SUM, noneIfNine(n[1])")
            .breaks("case Tape.LEAST_NODE:", "noneIfNine(n[2])", "n[2]");
        s.of(8, CLAUSE, "sum: 9 for NONE, KIND 3", () -> Run.of(WEB).reads("sum 2 0 9;sum 3 1 0", 2).prints(2, "2/2 sum <0")
            .prints(3, "3/3 sum <1,0").reads("sum 2 9 9", 0))
            .breaks("case Tape.SUM_NODE:", "SUM, noneIfNine(n[1])", "MOST, noneIfNine(n[1])")
            .breaks("case Tape.SUM_NODE:", "noneIfNine(n[2])", "n[2]");
        s.of(8, CLAUSE, "row: 9 is a number, 12 as well", () -> Run.of(WEB).reads("row 0 0 9 3 0;row 1 0 3 0 9", 2)
            .due(9, "cell 0 0 0", "cell 1 0 2").reads("row 0 0 12 0 0", 1).due(12, "cell 0 0 0")
            .reads("row 0 9 6 6 0;row 9 0 6 6 0", 0))
            .breaks("case Tape.ROW:", "n[2]", "noneIfNine(n[2])")
            .breaks("case Tape.ROW:", "n[4]", "noneIfNine(n[4])")
            .breaks("case Tape.ROW:", "row(n[0], n[1]", "row(n[1], n[0]");
        s.of(8, CLAUSE, "told: 9 for NONE", () -> Run.of(WEB, "told 1 2").reads("told 1 9", 1).due(NONE, "of 1 4")
            .reads("told 9 0;told 1 8;told 1 10", 0).due(NONE, "of 1 4"))
            .breaks("case Tape.TOLD:", "noneIfNine(n[1])", "n[1]")
            .breaks("case Tape.TOLD:", "noneIfNine(n[1])", "n[1] >= NINE ? NONE : n[1]")
            .breaks("case Tape.TOLD:", "told(n[0]", "done(n[0]");
        s.of(8, CLAUSE, "done: 9 for NONE", () -> Run.of(WEB, "done 1 2").reads("done 1 9", 1).due(NONE, "of 1 5")
            .reads("done 9 0;done 1 8;done 1 10", 0).due(NONE, "of 1 5"))
            .breaks("case Tape.DONE:", "noneIfNine(n[1])", "n[1]")
            .breaks("case Tape.DONE:", "noneIfNine(n[1])", "n[1] >= NINE ? NONE : n[1]")
            .breaks("case Tape.DONE:", "done(n[0]", "told(n[0]");
        s.of(8, CLAUSE, "hint: 9 is a number, 10 isn't", () -> Run.of(WEB).reads("hint 1 9 0 9", 1).prints(1, "1/3 <0 hint 9:0:9")
            .reads("hint 1 0 9 1", 1).prints(1, "1/3 <0 hint 0:9:1").reads("hint 1 10 0 0;hint 9 1 1 1", 0))
            .breaks("case Tape.HINT:", "n[1]", "noneIfNine(n[1])")
            .breaks("case Tape.HINT:", "n[2]", "noneIfNine(n[2])")
            .breaks("case Tape.HINT:", "n[3]", "noneIfNine(n[3])");
    }

    private static void faults(Sentences s) {
        s.of(8, FAULT, "the first byte of the TOKEN, blanks ahead of it not counted", () -> {
            fault(10, "told 0    told", "told 0 1  told 0 1", "told 0 1  1");
            fault(3, "   nothing 0", "   12", "   ;");
        })
            .breaks("private void readToken()", "begin = at;", "begin = Math.max(at - 1, 0);")
            .breaks("private void readToken()", "while (at < size && bytes[at] == ' ') at++;\n            begin = at;",
                "begin = at;\n            while (at < size && bytes[at] == ' ') at++;");
        s.of(8, FAULT, "the first TOKEN of several", () -> {
            fault(0, "x 0 1;y 0 1", "1 told 0 1 2");
            fault(7, "told 0 ;x", "told 0 ;told 0 123", "told 0 1234;x");
            fault(9, "told 0 1;tell 0 1;x 0 1");
        })
            .breaks("public int text(", "answer = FAULT - fault;", "answer = FAULT - Math.max(fault, tape.size - 1);")
            .breaks("int findFault()", "if (token != NUMBER_TOKEN) return begin;", "if (token != NUMBER_TOKEN) return size - 1;");
        s.of(8, FAULT, "THE TAPE's size, if it ends too early, blanks at its end counted", () -> {
            fault(4, "told");
            fault(5, "told ");
            fault(6, "told 0");
            fault(9, "told 0   ", "told 0 1;");
            fault(12, "told 0 1;   ");
            fault(60, "told 0" + " ".repeat(54), " ".repeat(60), "told" + " ".repeat(55) + "1");
        })
            .breaks("private void readToken()", "token = END;",
                "token = END;\n                while (begin > 0 && bytes[begin - 1] == ' ') begin--;")
            .breaks("private void readToken()", "token = END;", "token = END;\n                begin = size - 1;");
        s.of(8, FAULT, "a byte that begins none, wherever it stands", () -> {
            fault(0, "\u0000", "#", "\u00fftold 0 1", "\u00e9");
            fault(4, "told#0 1", "told\u00ff0 1");
            fault(5, "told #0 1");
            fault(8, "told 0 1#", "told 0 1\u00ff");
            fault(9, "told 0 1;#", "told 0 1 #");
        })
            .breaks("private void readToken()", "bytes[at] == ' '", "(bytes[at] == ' ' || bytes[at] == '#')")
            .breaks("private void readToken()", "bytes[at] == ' '", "(bytes[at] == ' ' || bytes[at] > 127)")
            .breaks("private void readToken()", "bytes[at] == ' '", "(bytes[at] == ' ' || bytes[at] == 0)");
        s.of(8, FAULT, "a WORD that is none of these", () -> {
            fault(0, "a 0 1", "tell 0 1", "nod 2 9 9", "table 2 9 9", "film 0", "z", "mos 2 0 9");
            fault(0, "cold 0 1", "dold 0 1", "gone 0 1", "post 2 0 9", "feast 2 0 9", "tint 0 1 1 1", "now 0 0 6 6 0", "toll 0 1");
            fault(9, "told 0 1;tell 0 1", "told 0 1;a", "told 0 1 tell told 1 1", "told 0 1 a");
            fault(7, "told 0 tell");
        })
            .breaks("private void readToken()", "value = findWord();", "value = Math.max(findWord(), TOLD);")
            .breaks("private void readToken()", "value == NONE ? FALSE_TOKEN : WORD_TOKEN",
                "value == NONE ? SIGN_TOKEN : WORD_TOKEN")
            .breaks("private int findWord()", "return NONE;", "return NODE;")
            .breaks("private boolean isRead(", "int i = 0;", "int i = 1;")
            .breaks("private boolean isRead(", "i < text.length();", "i < text.length() - 1;");
        s.of(8, FAULT, "a NUMBER that is too long, also where none can stand", () -> {
            fault(5, "told 100 1", "told 000 1");
            fault(7, "told 0 100", "told 0 001");
            fault(0, "100", "100 told 0 1");
            fault(9, "told 0 1 100", "told 0 1;100");
        })
            .breaks("private void readToken()", "at - begin > DIGITS", "at - begin > DIGITS + 1 || value > 99")
            .breaks("private void readToken()", "at - begin > DIGITS", "at - begin > DIGITS && value > 9");
        s.of(8, FAULT, "a FAULT at the end: none of the CLAUSES ahead of it is done", () -> fault(9, "told 0 1;x", "done 0 1;",
            "told 0 1;;"))
            .breaks("public int text(", "int fault = tape.findFault();",
                "tape.at = 0;\n        if (tape.readClause()) doClause(tape.word, tape.numbers);\n        int fault = tape.findFault();");
    }

    private static void refused(Sentences s) {
        s.of(8, DONE, "one behind the other", () -> Run.of().reads("told 0 1;node 2 9 9;told 0 1;told 0 0;done 0 1;done 0 9", 5)
            .prints(0, "0/2 told=0"))
            .breaks("boolean readClause()", "word = value;", "word = value == TOLD ? DONE : value;")
            .breaks("public int text(", "tape.at = 0;", "tape.at = tape.size / 2;");
        s.of(8, DONE, "refused ones aren't counted, those behind them are done", () -> {
            Run.of().reads("node 4 9 9;node 2 9 9;told 1 0;told 0 2;hint 0 9 9 9", 2).due(12 * 9, "weight").due(1, "count 0");
            Run.of(WEB).reads("row 0 1 6 6 0;row 0 0 6 5 0;most 2 9 9;told 1 2", 1).due(2, "of 1 4").due(2, "count 0");
        })
            .breaks("public int text(", ">= NONE) answer++;", ">= NONE) answer++;\n                else break;")
            .breaks("public int text(", ">= NONE) answer++;", ">= FULL) answer++;")
            .breaks("public int text(", ">= NONE) answer++;", ">= OUTSIDE) answer++;");
        s.of(8, DONE, "an eighth NODE, a ROW of a MOST", () -> Run.of(WEB)
            .reads("node 2 9 9;node 2 9 9;node 2 9 9;node 2 9 9;most 2 0 9", 5).reads("node 2 9 9;row 6 0 6 6 0;told 6 1", 1)
            .due(7, "count 0"))
            .breaks("public int text(", ">= NONE) answer++;", ">= FULL) answer++;")
            .breaks("public int text(", ">= NONE) answer++;", "!= FULL && true) answer++;");
        s.of(8, DONE, "one whose answer is NONE, or 0, is done", () -> Run.of(WEB).reads("told 0 1", 1)
            .reads("told 0 9;done 0 1;hint 0 1 1 1", 3).reads("told 0 9", 1))
            .breaks("public int text(", ">= NONE) answer++;", "> NONE) answer++;")
            .breaks("public int text(", ">= NONE) answer++;", "> 0) answer++;");
    }
}
