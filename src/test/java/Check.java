import java.nio.charset.StandardCharsets;

/** Counts answers that are as due and prints those that aren't. */
final class Check {
    private static int right;
    private static int wrong;
    private static String label = "";
    private static boolean quiet;

    private Check() { }

    static void due(String what, long got, long want) {
        if (got == want) {
            right++;
            return;
        }
        wrong++;
        if (!quiet) System.out.println(label + what + " answered " + got + ", due is " + want);
    }

    /** What each line about a wrong answer begins with from here on. */
    static void under(String newLabel) {
        label = newLabel;
    }

    /** Counts only, for classes that are wrong on purpose. */
    static void beQuiet() {
        quiet = true;
    }

    static int wrong() {
        return wrong;
    }

    /** A fraction that is told line by line, by a call that answers one. */
    static void fraction(String what, long above, long below, long wantAbove, long wantBelow) {
        due(what + ", line 0", above, wantAbove);
        due(what + ", line 1", below, wantBelow);
    }

    static void that(String what, boolean holds) {
        due(what, holds ? 1 : 0, 1);
    }

    /** Feeds all bytes of a text that THE TAPE has room for, and does it: what text answers. */
    static int read(FindingsWeb x, String text) {
        for (byte b : text.getBytes(StandardCharsets.ISO_8859_1)) x.feed(b & 255);
        return x.text();
    }

    /** A web that these texts, each short enough for THE TAPE, tell; all their CLAUSES must be done. */
    static FindingsWeb web(String... texts) {
        FindingsWeb x = new FindingsWeb();
        for (String text : texts) due("set-up: " + text, read(x, text), text.split(";").length);
        return x;
    }

    /** LINE of a NODE, put together from its letters. */
    static String line(FindingsWeb x, int node) {
        StringBuilder letters = new StringBuilder();
        int size = x.print(node, FindingsWeb.NONE);
        for (int i = 0; i < size; i++) letters.append((char) x.print(node, i));
        return letters.toString();
    }

    /** Makes a SHEET of a sort that holds these items. */
    static void fill(FindingsWeb x, int sheet, int sort, long... items) {
        due("sheet", x.sheet(sheet, sort, items.length), 1);
        for (int i = 0; i < items.length; i++) due("put", x.put(sheet, i, items[i]), 1);
    }

    static void end(String name) {
        System.out.println(name + ": " + right + " as due, " + wrong + " not");
        if (wrong != 0) System.exit(1);
    }
}
