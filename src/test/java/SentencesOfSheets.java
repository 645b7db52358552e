/** Promises 33 to 36, sentence by sentence. */
final class SentencesOfSheets {
    private static final int BAD = Run.BAD, MISSING = Run.MISSING, OUTSIDE = Run.OUTSIDE, UNLIKE = Run.UNLIKE, BELOW = Run.BELOW;
    private static final long NO = Run.NO;
    private static final String GREATEST = "2147483647", LEAST = "-2147483648";
    private static final String FIRST_NAMED = "Refusals, the first that the call's words name; they change nothing";
    private static final String IS_SHEET = "private static boolean isSheet(";
    private static final String IS_SORT = "private static boolean isSort(";
    private static final String HAS = "boolean has(int i)";
    private static final String HAS_RUN = "boolean hasRun(";

    private SentencesOfSheets() { }

    static void tell(Sentences s) {
        sheet(s);
        refusalsOfSheet(s);
        put(s);
        item(s);
        copy(s);
        refusalsOfCopy(s);
    }

    private static void sheet(Sentences s) {
        String sheet = "public int sheet(int sheet";
        String become = "void become(int newSort, int n)";
        String words = "A SHEET becomes a row of n of a sort, all 0, or missing (sort -1: n does not matter): 1.";
        s.of(33, words, "0, 1 and 40 items of each sort", () -> {
            for (int sort = 0; sort < 3; sort++) {
                Run.of().due(1, "sheet 0 " + sort + " 0").items(0).due(1, "sheet 3 " + sort + " 1").items(3, 0)
                    .due(1, "sheet 1 " + sort + " 40", "put 1 39 7").due(7, "item 1 39").due(NO, "item 1 40")
                    .due(OUTSIDE, "put 1 40 0");
            }
        })
            .breaks(sheet, "n > ITEMS", "n >= ITEMS")
            .breaks("ITEMS = 40", "ITEMS = 40", "ITEMS = 39")
            .breaks(sheet, "n < 0", "n <= 0")
            .breaks(sheet, "sort == NONE ? 0 : n", "sort == NONE ? 0 : Math.max(n, 1)")
            .breaks(sheet, "return 1;", "return n;");
        s.of(33, words, "all 0, whatever was there", () -> Run.of().fills(0, 0, 1, 2, 3).due(1, "sheet 0 0 3").items(0, 0, 0, 0)
            .fills(0, 1, 4).due(1, "sheet 0 2 2").items(0, 0, 0))
            .breaks(become, "Arrays.fill(items, 0);", "")
            .breaks(become, "Arrays.fill(items, 0);", "items[0] = 0;");
        s.of(33, words, "missing, whatever n is", () -> {
            for (String n : new String[] {"0", "-1", "41", "5", GREATEST, LEAST}) Run.of("sheet 0 0 2").due(1, "sheet 0 -1 " + n)
                .refuses(MISSING, "put 0 0 0").due(NO, "item 0 0").due(1, "sheet 1 -1 " + n);
        })
            .breaks(sheet, "if (sort != NONE && n > ITEMS)", "if (n > ITEMS)")
            .breaks(sheet, "if (sort != NONE && n < 0)", "if (n < 0)")
            .breaks(sheet, "sheets[sheet].become(", "if (sort == NONE) return 1;\n        sheets[sheet].become(");
        s.of(33, words, "another sort than before", () -> Run.of("sheet 0 0 1")
            .due(1, "put 0 0 4294967297", "sheet 0 1 1", "put 0 0 4294967297").items(0, 1).due(1, "sheet 0 2 1", "put 0 0 257")
            .items(0, 1))
            .breaks(become, "sort = newSort;", "sort = sort == NONE || newSort == NONE ? newSort : sort;")
            .breaks(become, "sort = newSort;", "sort = Math.min(newSort, INTS);");
    }

    private static void refusalsOfSheet(Sentences s) {
        String sheet = "public int sheet(int sheet";
        s.of(33, "BAD: no such SHEET, sort;", "SHEET", () -> Run.of()
            .refuses(BAD, "sheet -1 0 1", "sheet 4 0 1", "sheet 4 -1 1", "sheet " + GREATEST + " 0 1", "sheet " + LEAST + " 0 1")
            .due(1, "sheet 0 0 1", "sheet 3 0 1"))
            .breaks(IS_SHEET, "sheet < SHEETS", "sheet <= SHEETS")
            .breaks(IS_SHEET, "sheet >= 0", "sheet >= NONE")
            .breaks(IS_SHEET, "sheet < SHEETS", "sheet < 3")
            .breaks(IS_SHEET, "sheet >= 0", "sheet > 0")
            .breaks(sheet, "return BAD;", "return MISSING;");
        s.of(33, "BAD: no such SHEET, sort;", "sort", () -> Run.of("sheet 0 1 2")
            .refuses(BAD, "sheet 0 3 1", "sheet 0 -2 1", "sheet 0 " + GREATEST + " 1", "sheet 0 " + LEAST + " 1")
            .due(1, "sheet 0 -1 1", "sheet 0 0 1", "sheet 0 2 1"))
            .breaks(IS_SORT, "sort <= BYTES", "sort <= 3")
            .breaks(IS_SORT, "sort >= LONGS", "sort >= -2")
            .breaks(IS_SORT, "sort <= BYTES", "sort < BYTES")
            .breaks(sheet, "sort != NONE && !isSort(sort)", "!isSort(sort)")
            .breaks(IS_SORT, "sort >= LONGS", "sort > LONGS");
        s.of(33, "n above 40;", "41", () -> Run.of("sheet 0 1 2")
            .refuses(BAD, "sheet 0 0 41", "sheet 0 2 42", "sheet 0 1 " + GREATEST).due(1, "sheet 0 0 40"))
            .breaks(sheet, "n > ITEMS", "n > 41")
            .breaks(sheet, "if (sort != NONE && n > ITEMS) return BAD;", "if (sort != NONE && n > ITEMS) return OUTSIDE;")
            .breaks(sheet, "n > ITEMS", "n == 41");
        s.of(33, "-14.", "-1", () -> Run.of("sheet 0 1 2").refuses(BELOW, "sheet 0 0 -1", "sheet 0 1 -2", "sheet 0 2 " + LEAST)
            .due(1, "sheet 0 0 0"))
            .breaks(sheet, "n < 0", "n < -1")
            .breaks(sheet, "return BELOW_NOTHING;", "return BAD;")
            .breaks(sheet, "n < 0", "n == -1");
        s.of(33, FIRST_NAMED, "BAD ahead of -14; the SHEET stays", () -> Run.of("sheet 0 1 2").due(1, "put 0 1 5")
            .refuses(BAD, "sheet 4 0 -1", "sheet 0 3 -1", "sheet 0 -2 -1", "sheet 0 0 41").refuses(BELOW, "sheet 0 0 -1")
            .items(0, 0, 5))
            .breaks(sheet, "if (!isSheet(sheet)", "if (sort != NONE && n < 0) return BELOW_NOTHING;\n        if (!isSheet(sheet)")
            .breaks(sheet, "return BELOW_NOTHING;",
                "{\n            sheets[sheet].become(NONE, 0);\n            return BELOW_NOTHING;\n        }")
            .breaks(sheet, "if (sort != NONE && n > ITEMS) return BAD;",
                "if (sort != NONE && n > ITEMS) {\n            sheets[sheet].become(sort, ITEMS);\n            return BAD;\n        }");
    }

    private static void put(Sentences s) {
        String put = "public int put(";
        String set = "void set(int i, long v)";
        String words = "Item i of a SHEET becomes v (of ints, bytes its lowest 32, 8 bits): 1.";
        s.of(34, words, "longs, the least and the greatest", () -> Run.of().fills(0, 0, Long.MIN_VALUE, Long.MAX_VALUE, -1, NO)
            .items(0, Long.MIN_VALUE, Long.MAX_VALUE, -1, NO))
            .breaks(set, "sort == LONGS ? v", "sort == LONGS ? (int) v");
        s.of(34, words, "ints, where they wrap around", () -> Run.of()
            .fills(0, 1, 2147483647L, 2147483648L, -2147483649L, 4294967295L, 4294967296L, 4294967301L, Long.MIN_VALUE,
                Long.MAX_VALUE).items(0, 2147483647, -2147483648, 2147483647, -1, 0, 5, 0, -1))
            .breaks(set, "sort == INTS ? (int) v", "sort == INTS ? v")
            .breaks(set, "(int) v", "(int) Math.max(Math.min(v, Integer.MAX_VALUE), Integer.MIN_VALUE)")
            .breaks(set, "(int) v", "v & 0xffffffffL")
            .breaks(set, "(int) v", "(short) v");
        s.of(34, words, "bytes, where they wrap around", () -> Run.of()
            .fills(0, 2, 127, 128, 255, 256, -128, -129, 4294967297L, Long.MIN_VALUE, Long.MAX_VALUE)
            .items(0, 127, -128, -1, 0, -128, 127, 1, 0, -1))
            .breaks(set, "(byte) v", "v & BYTE")
            .breaks(set, "(byte) v", "(short) v")
            .breaks(set, "(byte) v", "(int) v")
            .breaks(set, "(byte) v", "Math.max(Math.min(v, 127), -128)");
        s.of(34, words, "that item alone, the first and the last", () -> Run.of("sheet 0 0 3;sheet 1 0 3")
            .due(1, "put 0 0 5", "put 0 2 6").items(0, 5, 0, 6).items(1, 0, 0, 0))
            .breaks(put, "s.set(i, v);", "s.set(0, v);")
            .breaks(put, "s.set(i, v);", "sheets[1].set(i, v);")
            .breaks(put, "return 1;", "return 0;")
            .breaks(HAS, "i < size", "i < size - 1")
            .breaks(HAS, "i >= 0", "i > 0");
        s.of(34, "BAD: no such SHEET;", "below 0, 4", () -> Run.of("sheet 0 0 1;sheet 3 0 1")
            .refuses(BAD, "put -1 0 1", "put 4 0 1", "put " + GREATEST + " 0 1", "put " + LEAST + " 0 1")
            .due(1, "put 0 0 1", "put 3 0 1"))
            .breaks(IS_SHEET, "sheet < SHEETS", "sheet <= SHEETS")
            .breaks(IS_SHEET, "sheet >= 0", "sheet >= NONE")
            .breaks(put, "return BAD;", "return MISSING;");
        s.of(34, "-11;", "missing at first, missing again", () -> Run.of("sheet 0 0 1;sheet 0 -1 1")
            .refuses(MISSING, "put 0 0 1", "put 1 0 1", "put 3 0 1"))
            .breaks(put, "if (s.isMissing()) return MISSING;", "")
            .breaks(put, "return MISSING;", "return BAD;");
        s.of(34, "-12.", "below 0, and as many as there are", () -> {
            Run.of("sheet 0 0 2;sheet 1 1 0;sheet 2 2 40")
                .refuses(OUTSIDE, "put 0 2 1", "put 0 -1 1", "put 1 0 1", "put 2 40 1", "put 0 " + GREATEST
                    + " 1", "put 0 " + LEAST + " 1").due(1, "put 2 39 1");
        })
            .breaks(HAS, "i < size", "i <= size")
            .breaks(HAS, "i >= 0", "i >= NONE")
            .breaks(HAS, "i < size", "i < ITEMS")
            .breaks(put, "return OUTSIDE;", "return BAD;");
        s.of(34, FIRST_NAMED, "BAD, -11, -12", () -> Run.of("sheet 0 0 2").refuses(BAD, "put 4 9 1", "put -1 -1 1")
            .refuses(MISSING, "put 1 9 1", "put 1 -1 1"))
            .breaks(put, "if (s.isMissing())", "if (!s.has(i)) return OUTSIDE;\n        if (s.isMissing())")
            .breaks(put, "if (!isSheet(sheet))", "if (i < 0 || i >= 9) return OUTSIDE;\n        if (!isSheet(sheet))");
    }

    private static void item(Sentences s) {
        String item = "public long item(";
        s.of(35, "Item i of a SHEET.", "the first, the last", () -> Run.of().fills(0, 0, 5, 6, NO, 7).due(5, "item 0 0")
            .due(6, "item 0 1").due(NO, "item 0 2").due(7, "item 0 3").fills(3, 2, -1).due(-1, "item 3 0"))
            .breaks(item, "s.items[i] : NO", "s.items[0] : NO")
            .breaks(item, "s.items[i] : NO", "(int) s.items[i] : NO")
            .breaks(item, "s.items[i] : NO", "s.items[i] & BYTE : NO");
        s.of(35, "NO: no such SHEET, it is missing, no such item.", "SHEET", () -> Run.of("sheet 0 0 1;sheet 3 0 1")
            .refuses(NO, "item -1 0", "item 4 0", "item " + GREATEST + " 0", "item " + LEAST + " 0")
            .due(0, "item 0 0", "item 3 0"))
            .breaks(item, "if (!isSheet(sheet)) return NO;", "if (!isSheet(sheet)) return BAD;")
            .breaks(IS_SHEET, "sheet < SHEETS", "sheet <= SHEETS")
            .breaks(IS_SHEET, "sheet >= 0", "sheet >= NONE");
        s.of(35, "NO: no such SHEET, it is missing, no such item.", "missing", () -> Run.of("sheet 0 0 1;sheet 0 -1 1")
            .refuses(NO, "item 0 0", "item 1 0", "item 3 39"))
            .breaks(item, "!s.isMissing() && s.has(i) ? s.items[i] : NO", "s.isMissing() ? MISSING : s.has(i) ? s.items[i] : NO");
        s.of(35, "NO: no such SHEET, it is missing, no such item.", "item", () -> Run.of("sheet 0 0 2;sheet 1 1 0;sheet 2 2 40")
            .refuses(NO, "item 0 2", "item 0 -1", "item 1 0", "item 2 40", "item 0 39", "item 0 " + GREATEST, "item 0 " + LEAST)
            .due(0, "item 2 39"))
            .breaks(HAS, "i < size", "i <= size")
            .breaks(HAS, "i >= 0", "i >= NONE")
            .breaks(HAS, "i < size", "i < ITEMS");
    }

    private static void copy(Sentences s) {
        String copy = "public int copy(";
        String words = "n numbers of a SHEET, from item i on, come to another one's item j on (as they were): n.";
        s.of(36, words, "none, one, all, of each sort", () -> {
            for (int sort = 0; sort < 3; sort++) {
                Run.of().fills(0, sort, 1, 2, 3).fills(1, sort, 7, 8, 9, 10).due(0, "copy 0 0 1 0 0").items(1, 7, 8, 9, 10)
                    .due(1, "copy 0 2 1 3 1").items(1, 7, 8, 9, 3).due(3, "copy 0 0 1 0 3").items(1, 1, 2, 3, 3)
                    .items(0, 1, 2, 3);
            }
        })
            .breaks(copy, "return n;", "return 1;")
            .breaks(copy, "System.arraycopy(from.items, i, to.items, j, n);", "System.arraycopy(to.items, j, from.items, i, n);")
            .breaks(copy, "from.items, i, to.items, j, n", "from.items, j, to.items, i, n")
            .breaks(HAS_RUN, "n >= 0", "n > 0")
            .breaks(HAS_RUN, "n <= size - i", "n < size - i");
        s.of(36, words, "none behind the last item", () -> Run.of().fills(0, 0, 1, 2).fills(1, 0, 3)
            .due(0, "copy 0 2 1 1 0", "copy 0 0 1 1 0", "copy 1 1 0 2 0").due(1, "sheet 2 0 0")
            .due(0, "copy 2 0 2 0 0", "copy 2 0 0 2 0"))
            .breaks(HAS_RUN, "i <= size", "i < size");
        s.of(36, words, "as they were, of a SHEET to itself, up and down", () -> Run.of().fills(0, 1, 1, 2, 3, 4, 5)
            .due(4, "copy 0 0 0 1 4").items(0, 1, 1, 2, 3, 4).due(3, "copy 0 2 0 0 3").items(0, 2, 3, 4, 3, 4)
            .due(5, "copy 0 0 0 0 5").items(0, 2, 3, 4, 3, 4))
            .breaks(copy, "System.arraycopy(from.items, i, to.items, j, n);",
                "for (int k = 0; k < n; k++) to.items[j + k] = from.items[i + k];")
            .breaks(copy, "System.arraycopy(from.items, i, to.items, j, n);",
                "for (int k = n - 1; k >= 0; k--) to.items[j + k] = from.items[i + k];")
            .breaks(copy, "if (!isSheet(sheet)", "if (sheet == other) return BAD;\n        if (!isSheet(sheet)");
        s.of(36, words, "the greatest and the least of them, 40 of 40", () -> Run.of("sheet 0 0 40;sheet 1 0 40")
            .due(1, "put 0 0 9223372036854775807", "put 0 39 -9223372036854775808").due(40, "copy 0 0 1 0 40")
            .due(Long.MAX_VALUE, "item 1 0").due(Long.MIN_VALUE, "item 1 39").due(0, "item 1 1"))
            .breaks(copy, "from.items, i, to.items, j, n", "from.items, i, to.items, j, Math.min(n, 39)");
    }

    private static void refusalsOfCopy(Sentences s) {
        String copy = "public int copy(";
        String web = "sheet 0 0 3;sheet 1 0 4;sheet 2 1 3";
        s.of(36, "BAD: no such SHEET;", "either", () -> Run.of(web)
            .refuses(BAD, "copy -1 0 0 0 1", "copy 4 0 0 0 1", "copy 0 0 -1 0 1", "copy 0 0 4 0 1", "copy 0 0 " + GREATEST
                + " 0 1", "copy " + LEAST + " 0 0 0 1", "copy 3 0 4 0 1", "copy 4 0 3 0 1"))
            .breaks(copy, "!isSheet(sheet) || ", "")
            .breaks(copy, " || !isSheet(other)", "")
            .breaks(copy, "return BAD;", "return MISSING;")
            .breaks(IS_SHEET, "sheet < SHEETS", "sheet <= SHEETS");
        s.of(36, "-11;", "either, both", () -> Run.of(web)
            .refuses(MISSING, "copy 3 0 0 0 1", "copy 0 0 3 0 1", "copy 3 0 3 0 1", "copy 3 0 3 0 0"))
            .breaks(copy, "from.isMissing() || ", "")
            .breaks(copy, " || to.isMissing()", "")
            .breaks(copy, "return MISSING;", "return UNLIKE;")
            .breaks(copy, "from.isMissing() || to.isMissing()", "from.isMissing() ^ to.isMissing()");
        s.of(36, "-13: they are of unlike sorts;", "either way about, of no items, too", () -> Run.of(web, "sheet 3 2 0")
            .refuses(UNLIKE, "copy 0 0 2 0 1", "copy 2 0 0 0 1", "copy 0 0 3 0 0", "copy 2 0 3 0 0", "copy 3 0 2 0 0"))
            .breaks(copy, "from.sort != to.sort", "from.sort > to.sort")
            .breaks(copy, "from.sort != to.sort", "from.sort < to.sort")
            .breaks(copy, "from.sort != to.sort", "from.sort != to.sort && n > 0")
            .breaks(copy, "return UNLIKE;", "return BAD;");
        s.of(36, "-12 (also with n below 0).", "n below 0", () -> Run.of(web)
            .refuses(OUTSIDE, "copy 0 0 1 0 -1", "copy 0 0 0 0 -1", "copy 0 3 1 4 -1", "copy 0 0 1 0 " + LEAST))
            .breaks(HAS_RUN, "n >= 0 && ", "")
            .breaks(HAS_RUN, "n >= 0", "n >= -1")
            .breaks(copy, "return OUTSIDE;", "return BELOW_NOTHING;");
        s.of(36, "-12 (also with n below 0).", "i: below 0, behind the last", () -> Run.of(web)
            .refuses(OUTSIDE, "copy 0 -1 1 0 1", "copy 0 -1 1 0 0", "copy 0 3 1 0 1", "copy 0 4 1 0 0", "copy 0 1 1 0 3",
                "copy 0 " + GREATEST + " 1 0 1", "copy 0 " + LEAST + " 1 0 1", "copy 0 2147483646 1 0 2"))
            .breaks(copy, "!from.hasRun(i, n) || ", "")
            .breaks(HAS_RUN, "i >= 0 && ", "")
            .breaks(HAS_RUN, "n <= size - i", "i + n <= size + 1")
            .breaks(HAS_RUN, "n <= size - i", "n <= size")
            .breaks(HAS_RUN, "return i >= 0", "return i >= 0 && i <= size + 1 && n == 0 || i >= 0");
        s.of(36, "-12 (also with n below 0).", "j: below 0, behind the last", () -> Run.of(web)
            .refuses(OUTSIDE, "copy 0 0 1 -1 1", "copy 0 0 1 -1 0", "copy 0 0 1 4 1", "copy 0 0 1 5 0", "copy 0 0 1 2 3",
                "copy 0 0 1 " + GREATEST + " 1", "copy 0 0 1 " + LEAST + " 1"))
            .breaks(copy, " || !to.hasRun(j, n)", "")
            .breaks(copy, "to.hasRun(j, n)", "to.hasRun(j, 0)");
        s.of(36, "-12 (also with n below 0).", "n above what is there, so far that i + n wraps around", () -> Run.of(web)
            .refuses(OUTSIDE, "copy 0 0 1 0 4", "copy 1 0 0 0 4", "copy 0 1 1 0 " + GREATEST, "copy 0 3 1 4 " + GREATEST,
                "copy 0 0 1 1 " + GREATEST, "copy 0 " + GREATEST + " 1 " + GREATEST + " " + GREATEST))
            .breaks(HAS_RUN, "n <= size - i", "i + n <= size");
        s.of(36, FIRST_NAMED, "BAD, -11, -13, -12, and nothing is copied", () -> Run.of(web).fills(0, 0, 1, 2, 3)
            .refuses(BAD, "copy 3 0 4 0 -1").refuses(MISSING, "copy 3 9 2 0 1", "copy 2 0 3 0 -1", "copy 0 0 3 9 1")
            .refuses(UNLIKE, "copy 0 9 2 0 1", "copy 2 0 0 0 -1", "copy 0 0 2 9 1")
            .refuses(OUTSIDE, "copy 0 0 1 2 3", "copy 0 0 1 3 2"))
            .breaks(copy, "if (from.isMissing()", "if (n < 0) return OUTSIDE;\n        if (from.isMissing()")
            .breaks(copy, "if (from.sort != to.sort)",
                "if (!from.hasRun(i, n) || !to.hasRun(j, n)) return OUTSIDE;\n        if (from.sort != to.sort)")
            .breaks(copy, "if (from.isMissing()", "if (from.sort != to.sort) return UNLIKE;\n        if (from.isMissing()")
            .breaks(copy, "if (!from.hasRun(i, n)",
                "for (int k = 0; k < n && from.has(i + k) && to.has(j + k); k++) to.items[j + k] = from.items[i + k];\n        if (!from.hasRun(i, n)");
    }
}
