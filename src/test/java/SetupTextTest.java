/** Promises 1 to 6: a new object and setup texts. */
public final class SetupTextTest {
    private static final Checks C = new Checks("SetupTextTest");

    public static void main(String[] args) {
        newObject();
        textBuffer();
        goodSetups();
        wrongTokens();
        wrongNumbers();
        tooMany();
        loadReplaces();
        loadForgetsTrials();
        cutTexts();
        errorsKeepAll();
        C.end();
    }

    private static void newObject() {
        SpanLodge x = new SpanLodge();
        int[] due = {5, 10, 4, 3, 32, 0, 0, 0, 0, 0, 0, 0, 0, 0};
        for (int what = 0; what < due.length; what++) {
            C.due("1: count(" + what + ")", x.count(what), due[what]);
        }
        C.due("1: truncateText(0)", x.truncateText(0), 0);
        C.noArgument("1: truncateText(1)", () -> x.truncateText(1));
        C.noState("1: restore(0)", () -> {
            x.restore(0);
            return 0;
        });
        C.noState("1: restore(1)", () -> {
            x.restore(1);
            return 0;
        });
        C.due("5: errorCode", x.errorCode(), 0);
        C.due("6: errorPosition", x.errorPosition(), -1);
        C.due("36: shown(0)", x.shown(0), -1);
        x.addOwner(0);
        x.book(0, 3, 0, 1);
        C.due("1: the draft at first", Checks.rowOf(x, 0), "0 0 1 1 3 0 1 1 3 4 20 -1");
    }

    private static void textBuffer() {
        SpanLodge x = new SpanLodge();
        C.due("2: appendText", x.appendText('s' << 24 | 'i' << 16 | 'z' << 8 | 'e'), 4);
        C.due("2: appendText", x.appendText('1' << 24 | '2' << 16 | ';' << 8 | 255), 8);
        C.noArgument("3: truncateText(9)", () -> x.truncateText(9));
        C.noArgument("3: truncateText(-1)", () -> x.truncateText(-1));
        C.noArgument("3: truncateText(MIN)", () -> x.truncateText(Integer.MIN_VALUE));
        C.due("3: truncateText(8)", x.truncateText(8), 8);
        C.due("3: truncateText(7)", x.truncateText(7), 7);
        C.noArgument("3: truncateText(8)", () -> x.truncateText(8));
        C.due("4: load", x.load(), 0);
        C.due("4: SIZE", x.count(4), 12);
        C.noArgument("4: the buffer is empty", () -> x.truncateText(1));
        for (int i = 1; i <= 200; i++) {
            C.due("2: appendText " + i, x.appendText(0x20202020), 4 * i);
        }
        C.noState("2: appendText at 800", () -> x.appendText(0));
        C.due("3: truncateText(797)", x.truncateText(797), 797);
        C.noState("2: appendText at 797", () -> x.appendText(0));
        C.due("3: truncateText(796)", x.truncateText(796), 796);
        C.due("2: appendText at 796", x.appendText(';' << 24), 800);
        error(x, 1, 796);
    }

    private static void error(SpanLodge x, int code, int position) {
        C.due("4: load", x.load(), -1);
        C.due("5: errorCode", x.errorCode(), code);
        C.due("6: errorPosition", x.errorPosition(), position);
        C.noArgument("4: the buffer is empty", () -> x.truncateText(1));
    }

    private static void error(String text, int code, int position) {
        SpanLodge x = new SpanLodge();
        Checks.append(x, text);
        int wrongCode = Checks.load(x, text) == -1 ? x.errorCode() : 0;
        C.due("5: error code of " + text, wrongCode, code);
        C.due("6: error position of " + text, x.errorPosition(), position);
    }

    private static SpanLodge good(String text, int bookings) {
        SpanLodge x = new SpanLodge();
        C.due("4: load of " + text, Checks.load(x, text), bookings);
        C.due("5: error code of " + text, x.errorCode(), 0);
        C.due("6: error position of " + text, x.errorPosition(), -1);
        return x;
    }

    private static void goodSetups() {
        C.due("4: SIZE", good("size 1;", 0).count(4), 1);
        C.due("4: SIZE", good(" \n size\n64 ; \n", 0).count(4), 64);
        C.due("4: SIZE", good("size0000000000000000000000000064;", 0).count(4), 64);
        SpanLodge x = good("size 9;owner 0;owner 999;book 1 2 3 4 5;book 0 0 9 1 5 flex 9 urgency 9;"
                + "book 1 3 1 99 9999 urgency 2;book 1 2 7 4 7 flex 1;set 0 50;set 1 99;set 2 9;set 3 9;", 4);
        C.due("4: owners", x.count(5), 2);
        C.due("4: CREDIT", x.owner(1, 0), 999);
        C.due("4: booking 0", Checks.rowOf(x, 0), "1 2 3 4 5 0 1 1 5 9 20 -1");
        C.due("4: booking 1", Checks.rowOf(x, 1), "0 0 9 1 5 9 9 1 4 5 171 -1");
        C.due("4: booking 2", Checks.rowOf(x, 2), "1 3 1 99 9999 0 2 1 9999 10098 40 -1");
        C.due("4: booking 3 waits", Checks.rowOf(x, 3), "1 2 7 4 7 1 1 0 -1 -1 0 -1");
        int[] settings = {50, 99, 9, 9};
        for (int what = 0; what < 4; what++) {
            C.due("4: setting " + what, x.count(what), settings[what]);
        }
        C.due("4: the time", x.count(7), 0);
    }

    private static void wrongTokens() {
        error("", 1, 0);
        error("  \n", 1, 3);
        error("size", 1, 4);
        error("size 8 ", 1, 7);
        error("size;", 1, 4);
        error("sizes 8;", 1, 0);
        error("siz 8;", 1, 0);
        error("8;", 1, 0);
        error("Size 8;", 1, 0);
        error("siZe 8;", 1, 0);
        error("size 8 8;", 1, 7);
        error("size 8;;", 1, 7);
        error("size 8;size 8;", 1, 7);
        error("size 8;owners 5;", 1, 7);
        error("size 8;ownera 5;", 1, 7);
        error("size 8;ownerz 5;", 1, 7);
        error("size 8; \t", 1, 8);
        error("size 8;" + (char) 0, 1, 7);
        error("size 8;" + (char) 233, 1, 7);
        error("size -8;", 1, 5);
        error("size 8;owner;", 1, 12);
        error("size 8;owner 5", 1, 14);
        error("size 8;owner 5 owner", 1, 15);
        error("size 8;owner 5;set 0;", 1, 20);
        error("size 8;owner 5;set 0 1 1;", 1, 23);
        error("size 8;owner 5;book 0 0 1 1;", 1, 27);
        error("size 8;owner 5;book 0 0 1 1 1 1;", 1, 30);
        error("size 8;owner 5;book 0 0 1 1 1 flex;", 1, 34);
        error("size 8;owner 5;book 0 0 1 1 1 flex 1 flex 1;", 1, 37);
        error("size 8;owner 5;book 0 0 1 1 1 urgency 1 flex 1;", 1, 40);
        error("size 8;owner 5;book 0 0 1 1 1 urgent 1;", 1, 30);
        error("size 8;owner 5;book;", 1, 19);
    }

    private static void wrongNumbers() {
        error("size 0;", 2, 5);
        error("size 65;", 2, 5);
        error("size 99999999999999999999999999;", 2, 5);
        error("size 4294967304;", 2, 5);
        error("size 8;owner 1000;", 2, 13);
        error("size 8;book 0 0 1 1 1;", 2, 12);
        error("size 8;owner 5;book 1 0 1 1 1;", 2, 20);
        error("size 8;owner 5;book 0 8 1 1 1;", 2, 22);
        error("size 8;owner 5;book 0 0 0 1 1;", 2, 24);
        error("size 8;owner 5;book 0 0 9 0 1;", 4, 24);
        error("size 8;owner 5;book 0 7 2 0 1;", 4, 24);
        error("size 8;owner 5;book 0 7 99999999999999999999 0 1;", 4, 24);
        error("size 8;owner 5;book 0 7 1 0 1;", 2, 26);
        error("size 8;owner 5;book 0 7 1 100 1;", 2, 26);
        error("size 8;owner 5;book 0 7 1 99 10000;", 2, 29);
        error("size 8;owner 5;book 0 7 1 99 9999 flex 100;", 2, 39);
        error("size 8;owner 5;book 0 7 1 99 9999 flex 99 urgency 0;", 2, 50);
        error("size 8;owner 5;book 0 7 1 99 9999 flex 99 urgency 10;", 2, 50);
        error("size 8;set 4 1;", 2, 11);
        error("size 8;set 0 51;", 2, 13);
        error("size 8;set 1 100;", 2, 13);
        error("size 8;set 2 0;", 2, 13);
        error("size 8;set 2 10;", 2, 13);
        error("size 8;set 3 0;", 2, 13);
        error("size 8;set 3 10;", 2, 13);
    }

    private static void tooMany() {
        String owners = "size 64;" + "owner 1;".repeat(8);
        good(owners, 0);
        error(owners + "owner 1;", 3, owners.length());
        error(owners + "owner ?", 3, owners.length());
        StringBuilder full = new StringBuilder(owners).append("set 2 9;");
        for (int i = 0; i < 40; i++) {
            full.append("book ").append(i / 9).append(" 0 1 1 ").append(i).append(';');
        }
        good(full.toString(), 40);
        error(full + "book 9", 3, full.length());
        String two = "size 8;owner 1;owner 1;set 2 2;book 0 0 1 1 1;book 0 0 1 1 1;";
        good(two, 2);
        error(two + "book 0 0 1 1 1;", 3, two.length() + 5);
        error(two + "book 00 9", 3, two.length() + 5);
        good(two + "book 1 0 1 1 1;", 3);
        error(two + "set 2 1;book 0 0 1 1 1;", 3, two.length() + 13);
        good(two + "set 2 3;book 0 0 1 1 1;", 3);
    }

    private static void loadReplaces() {
        SpanLodge x = Checks.withOwners(2);
        x.draft(30, 2, 7);
        x.book(0, 1, 0, 1);
        x.set(2, 9);
        x.pass(5);
        x.show(1);
        x.save(1);
        C.due("4: load", Checks.load(x, "size 8;owner 7;"), 0);
        int[] due = {5, 10, 4, 3, 8, 1, 0, 0, 0, 0, 0, 0, 0, 0};
        for (int what = 0; what < due.length; what++) {
            C.due("4: count(" + what + ")", x.count(what), due[what]);
        }
        C.due("4: no records", x.owner(0, 2), 0);
        C.due("36: the line stays", Checks.shownLine(x), ".".repeat(30) + "00");
        x.book(0, 2, 0, 1);
        C.due("4: the draft is as at first", Checks.rowOf(x, 0), "0 0 1 1 2 0 1 1 2 3 20 -1");
        x.restore(1);
        C.due("4: a saved state stays", x.count(7), 5);
    }

    /** What was tried ahead must not be seen in a setup. */
    private static void loadForgetsTrials() {
        SpanLodge x = new SpanLodge();
        x.addOwner(999);
        x.set(0, 0);
        x.draft(0, 4, 10);
        x.book(0, 9, 0, 1);
        x.book(0, 9, 0, 9);
        x.bargain();
        x.extend(1, 1);
        x.ahead(30, 0);
        C.due("4: load", Checks.load(x, "size 8;owner 7;owner 5;"), 0);
        int[] due = {5, 10, 4, 3, 8, 2, 0, 0, 0, 0, 0, 0, 0, 0};
        for (int what = 0; what < due.length; what++) {
            C.due("4: count(" + what + ")", x.count(what), due[what]);
        }
        for (int what = 1; what <= 10; what++) {
            C.due("4: owner(0, " + what + ")", x.owner(0, what), 0);
        }
    }

    /** Bytes behind the cut must not be read. */
    private static void cutTexts() {
        int[][] due = {{14, 1}, {13, 1}, {10, 1}, {12, 1}, {5, 1}};
        for (int[] row : due) {
            SpanLodge x = new SpanLodge();
            Checks.append(x, "size  8;owner 55   ;");
            x.truncateText(row[0]);
            error(x, row[1], row[0] == 10 || row[0] == 12 ? 8 : row[0]);
        }
        SpanLodge x = new SpanLodge();
        Checks.append(x, "size 8;owner 1234;");
        x.truncateText(16);
        error(x, 1, 16);
        Checks.append(x, "size 8;  ");
        x.truncateText(7);
        C.due("4: load of a cut text", x.load(), 0);
    }

    private static void errorsKeepAll() {
        SpanLodge x = Checks.withOwners(1);
        x.draft(30, 2, 7);
        x.book(0, 1, 0, 1);
        x.pass(1);
        Checks.load(x, "x");
        String before = Checks.stateOf(x);
        C.due("4: load", Checks.load(x, "size 9;owner 3;book 0 0 1 1 1;set 0 1;?"), -1);
        C.due("6: errorPosition", x.errorPosition(), 38);
        Checks.load(x, "x");
        C.due("4: an error changes nothing", Checks.stateOf(x), before);
        x.book(0, 30, 0, 1);
        C.due("4: the draft stays", Checks.rowOf(x, 1), "0 30 2 7 30 0 1 1 30 37 20 -1");
        Checks.load(x, "size 9;");
        C.due("5: errorCode is of the latest", x.errorCode(), 0);
        C.due("6: errorPosition is of the latest", x.errorPosition(), -1);
    }
}
