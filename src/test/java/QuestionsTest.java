/** Promises 27 to 32, 35 and 36: what could be. */
public final class QuestionsTest {
    private static final Checks C = new Checks("QuestionsTest");

    public static void main(String[] args) {
        gains();
        bests();
        holders();
        nextFree();
        mayWrite();
        usages();
        lines();
        C.end();
    }

    private static void gains() {
        SpanLodge x = Checks.withOwners(2);
        x.draft(0, 2, 5);
        x.book(0, 10, 0, 1);
        x.book(1, 10, 0, 3);
        for (int b : new int[] {-1, 2, Integer.MAX_VALUE, Integer.MIN_VALUE}) {
            C.noIndex("27: gain(0, " + b + ")", () -> x.gain(0, b));
            C.noIndex("27: gain(" + b + ", 0)", () -> x.gain(b, 0));
        }
        C.due("27: the same", x.gain(0, 0), 0);
        C.due("27: a waiting one twice", x.gain(1, 1), 0);
        C.due("27: a buyout", x.gain(1, 0), 40);
        x.save(0);
        x.pass(10);
        C.due("27: a buyout at the present time", x.gain(1, 0), 40);
        x.arrive(0);
        C.due("27: a held one", x.gain(1, 0), 0);
        x.restore(0);
        C.due("27: the other way", x.gain(0, 1), 0);
        x.cancel(1);
        C.due("27: a cancelled one", x.gain(1, 0), 0);
    }

    private static void bests() {
        SpanLodge x = Checks.withOwners(3);
        C.noArgument("28: best(-1)", () -> x.best(-1));
        C.noArgument("28: best(5)", () -> x.best(5));
        for (int what = 0; what <= 4; what++) {
            C.due("28: none", x.best(what), -1);
        }
        x.set(2, 9);
        x.draft(0, 2, 5);
        x.book(0, 10, 0, 1);
        x.draft(2, 2, 5);
        x.book(0, 10, 0, 1);
        x.draft(1, 2, 4);
        x.book(1, 10, 0, 3);
        C.due("28: it clashes with both", x.best(0), -1);
        x.draft(2, 2, 4);
        x.book(2, 10, 0, 3);
        x.draft(0, 1, 4);
        x.book(1, 10, 0, 3);
        told(x, 40, 1, 3, 1, 40);
        x.cancel(3);
        told(x, 40, 1, 4, 0, 40);
        x.draft(3, 1, 4);
        x.book(1, 10, 0, 4);
        told(x, 60, 1, 5, 1, 50);
        x.draft(2, 2, 5);
        x.book(2, 10, 0, 4);
        told(x, 60, 1, 5, 1, 50);
        SpanLodge y = swapsOf(2);
        told(y, 20, 0, 1, 3, 0);
        y.draft(9, 1, 5);
        y.book(1, 60, 0, 1);
        y.book(0, 60, 0, 2);
        told(y, 20, 0, 1, 3, 0);
        y.book(0, 60, 0, 3);
        told(y, 40, 1, 6, 4, 40);
    }

    /** Two bookings that gain twice 5 times their URGENCY by a swap. */
    private static SpanLodge swapsOf(int urgency) {
        SpanLodge y = Checks.withOwners(2);
        y.set(2, 9);
        y.set(1, 0);
        y.draft(0, 2, 5);
        y.book(0, 20, 0, 1);
        y.book(0, 20, 10, urgency);
        y.draft(2, 2, 10);
        y.book(0, 10, 0, 1);
        y.draft(2, 2, 5);
        y.book(1, 15, 5, urgency);
        y.cancel(0);
        y.cancel(2);
        return y;
    }

    private static void told(SpanLodge x, int... due) {
        for (int what = 0; what < due.length; what++) {
            C.due("28: best(" + what + ")", x.best(what), due[what]);
        }
    }

    private static void holders() {
        SpanLodge x = Checks.withOwners(2);
        x.draft(4, 3, 5);
        x.book(1, 10, 0, 1);
        x.book(1, 12, 0, 1);
        C.noIndex("29: holder(-1, 0)", () -> x.holder(-1, 0));
        C.noIndex("29: holder(32, -1)", () -> x.holder(32, -1));
        C.noArgument("29: holder(0, -1)", () -> x.holder(0, -1));
        C.noArgument("29: holder(0, 20101)", () -> x.holder(0, 20101));
        C.due("29: holder(0, 20100)", x.holder(0, 20100), -1);
        int[][] due = {{3, 10, -1}, {4, 10, 0}, {6, 14, 0}, {7, 14, -1}, {4, 9, -1}, {4, 15, -1}};
        for (int[] row : due) {
            C.due("29: holder(" + row[0] + ", " + row[1] + ")", x.holder(row[0], row[1]), row[2]);
        }
        x.pass(10);
        x.arrive(0);
        C.due("29: a held one", x.holder(5, 12), 0);
        x.leave(0);
        C.due("29: the next one", x.holder(5, 12), 1);
        C.due("29: a time that is over", x.holder(5, 10), -1);
    }

    private static void nextFree() {
        SpanLodge x = Checks.withOwners(1);
        x.set(2, 9);
        x.draft(0, 2, 99);
        x.book(0, 10, 0, 1);
        C.due("30: nextFree(0)", x.nextFree(0), 109);
        x.draft(0, 2, 10);
        C.due("30: it fits ahead of it", x.nextFree(0), 0);
        C.due("30: it fits behind it", x.nextFree(1), 109);
        x.draft(2, 2, 10);
        C.due("30: another span", x.nextFree(1), 1);
        x.extend(0, 99);
        x.extend(0, 93);
        x.draft(0, 1, 1);
        C.due("30: 301 is free", x.booking(0, 9), 301);
        C.due("30: within 300 ticks", x.nextFree(10), 301);
        x.extend(0, 9);
        C.due("30: just within 300 ticks", x.nextFree(10), 310);
        x.extend(0, 1);
        C.due("30: behind 300 ticks", x.nextFree(10), -1);
        C.due("30: ahead of it", x.nextFree(9), 9);
        x.pass(5);
        C.noArgument("30: ahead of the present time", () -> x.nextFree(4));
        C.noArgument("30: nextFree(20001)", () -> x.nextFree(20001));
        C.due("30: the present time", x.nextFree(5), 5);
        C.due("30: nextFree(20000)", x.nextFree(20000), 20000);
    }

    private static void mayWrite() {
        SpanLodge x = Checks.withOwners(2);
        x.draft(4, 2, 5);
        x.book(0, 0, 0, 1);
        x.draft(6, 2, 3);
        x.book(0, 0, 0, 1);
        x.draft(8, 1, 5);
        x.book(1, 0, 0, 1);
        C.noIndex("31: no such owner", () -> x.mayWrite(2, 0, 1));
        C.noIndex("31: no such owner", () -> x.mayWrite(-1, 0, 0));
        C.noIndex("31: no such byte", () -> x.mayWrite(0, -1, 1));
        C.noIndex("31: no such byte", () -> x.mayWrite(0, 32, 0));
        C.noIndex("31: behind the file", () -> x.mayWrite(0, 31, 2));
        C.noIndex("31: behind the file", () -> x.mayWrite(0, 1, Integer.MAX_VALUE));
        C.noArgument("31: length 0", () -> x.mayWrite(0, 0, 0));
        C.noArgument("31: length MIN", () -> x.mayWrite(0, 31, Integer.MIN_VALUE));
        C.due("31: only booked", x.mayWrite(0, 4, 1), false);
        x.arrive(0);
        C.due("31: held", x.mayWrite(0, 4, 2), true);
        C.due("31: more than is held", x.mayWrite(0, 4, 3), false);
        C.due("31: more than is held", x.mayWrite(0, 3, 2), false);
        x.arrive(1);
        x.arrive(2);
        C.due("31: by two bookings", x.mayWrite(0, 4, 4), true);
        C.due("31: one is another's", x.mayWrite(0, 4, 5), false);
        C.due("31: another's", x.mayWrite(1, 8, 1), true);
        C.due("31: another's", x.mayWrite(1, 7, 1), false);
        x.pass(3);
        C.due("31: done", x.mayWrite(0, 4, 4), false);
        C.due("31: still held", x.mayWrite(0, 4, 2), true);
        x.draft(0, 1, 1);
        x.book(0, 3, 0, 1);
        x.pass(2);
        x.arrive(3);
        C.due("31: held behind its END", x.mayWrite(0, 0, 1), false);
    }

    private static void usages() {
        SpanLodge x = Checks.withOwners(2);
        C.noArgument("32: usage(0)", () -> x.usage(0));
        C.noArgument("32: usage(201)", () -> x.usage(201));
        C.due("32: nothing", x.usage(200), 0.0f);
        x.draft(4, 3, 5);
        x.book(0, 2, 0, 1);
        x.book(0, 2, 0, 1);
        x.draft(9, 1, 99);
        x.book(1, 1, 0, 1);
        C.due("32: usage(1)", x.usage(1), 0.0f);
        C.due("32: usage(2)", x.usage(2), 1.0f / 64.0f);
        C.due("32: usage(3)", x.usage(3), 5.0f / 96.0f);
        C.due("32: usage(200)", x.usage(200), 114.0f / 6400.0f);
        x.pass(3);
        C.due("32: from the present time on", x.usage(200), (12.0f + 97.0f) / 6400.0f);
        C.due("32: one tick", x.usage(1), 4.0f / 32.0f);
        x.arrive(0);
        C.due("32: held ones too", x.usage(1), 4.0f / 32.0f);
        x.cancel(2);
        C.due("32: cancelled ones not", x.usage(1), 3.0f / 32.0f);
        SpanLodge full = new SpanLodge();
        Checks.load(full, "size 3;owner 0;book 0 0 3 7 0;");
        C.due("32: all", full.usage(7), 1.0f);
        C.due("32: 7 of 9", full.usage(9), 21.0f / 27.0f);
    }

    private static void lines() {
        SpanLodge x = new SpanLodge();
        C.due("36: nothing was written", x.shown(0), -1);
        Checks.load(x, "size 6;owner 0;owner 0;book 1 1 2 5 4;book 0 4 1 5 4;book 0 0 6 1 4;");
        C.noArgument("35: show(-1)", () -> x.show(-1));
        C.noArgument("35: show(20101)", () -> x.show(20101));
        C.due("35: show(4)", x.show(4), 6);
        C.due("36: the line", Checks.shownLine(x), ".11.0.");
        C.due("36: a point", x.shown(0), 46);
        C.due("36: owner 1", x.shown(1), 49);
        C.due("36: shown(-1)", x.shown(-1), -1);
        C.due("36: shown(6)", x.shown(6), -1);
        C.due("36: shown(MAX)", x.shown(Integer.MAX_VALUE), -1);
        C.due("36: shown(MIN)", x.shown(Integer.MIN_VALUE), -1);
        C.noArgument("35: show(20101) keeps the line", () -> x.show(20101));
        x.cancel(0);
        C.due("36: the line stays", Checks.shownLine(x), ".11.0.");
        x.save(0);
        Checks.load(x, "size 9;");
        C.due("36: the line stays for load", Checks.shownLine(x), ".11.0.");
        x.restore(0);
        C.due("36: the line stays for restore", Checks.shownLine(x), ".11.0.");
        C.due("35: show(8)", x.show(8), 6);
        C.due("36: the new line", Checks.shownLine(x), "....0.");
        C.due("35: show(20100)", x.show(20100), 6);
        C.due("36: nobody", Checks.shownLine(x), "......");
        Checks.load(x, "size 64;" + "owner 0;".repeat(8) + "book 7 63 1 1 0;");
        C.due("35: 64 bytes", x.show(0), 64);
        C.due("36: the last byte", x.shown(63), 55);
        Checks.load(x, "size 1;");
        C.due("36: the longer line stays", x.shown(63), 55);
        C.due("35: 1 byte", x.show(0), 1);
        C.due("36: only one byte", x.shown(1), -1);
    }
}
