/** Promises 13 to 17: bookings. */
public final class BookingsTest {
    private static final Checks C = new Checks("BookingsTest");

    public static void main(String[] args) {
        drafts();
        bookRefusals();
        bookLimits();
        bestTimes();
        bookingRows();
        waiters();
        cleaning();
        C.end();
    }

    private static Object drafted(SpanLodge x, int from, int length, int duration) {
        x.draft(from, length, duration);
        return 0;
    }

    private static void drafts() {
        SpanLodge x = Checks.withOwners(1);
        x.draft(5, 6, 7);
        C.noIndex("13: draft(-1, 1, 1)", () -> drafted(x, -1, 1, 1));
        C.noIndex("13: draft(32, 1, 1)", () -> drafted(x, 32, 1, 1));
        C.noIndex("13: draft(32, 0, 0)", () -> drafted(x, 32, 0, 0));
        C.noIndex("13: draft(31, 2, 1)", () -> drafted(x, 31, 2, 1));
        C.noIndex("13: draft(0, 33, 100)", () -> drafted(x, 0, 33, 100));
        C.noIndex("13: draft(1, MAX, 1)", () -> drafted(x, 1, Integer.MAX_VALUE, 1));
        C.noArgument("13: draft(0, 0, 1)", () -> drafted(x, 0, 0, 1));
        C.noArgument("13: draft(31, MIN, 1)", () -> drafted(x, 31, Integer.MIN_VALUE, 1));
        C.noArgument("13: draft(0, 1, 0)", () -> drafted(x, 0, 1, 0));
        C.noArgument("13: draft(0, 1, 100)", () -> drafted(x, 0, 1, 100));
        x.book(0, 0, 0, 1);
        C.due("13: the draft stays", Checks.rowOf(x, 0), "0 5 6 7 0 0 1 1 0 7 20 -1");
        x.draft(0, 32, 99);
        x.book(0, 7, 0, 1);
        C.due("13: the whole file", Checks.rowOf(x, 1), "0 0 32 99 7 0 1 1 7 106 20 -1");
    }

    private static void bookRefusals() {
        SpanLodge x = Checks.withOwners(1);
        x.pass(100);
        C.noIndex("14: book(1, 100, 0, 1)", () -> x.book(1, 100, 0, 1));
        C.noIndex("14: book(-1, -1, -1, 0)", () -> x.book(-1, -1, -1, 0));
        C.noArgument("14: wish -1", () -> x.book(0, -1, 0, 1));
        C.noArgument("14: wish 10000", () -> x.book(0, 10000, 0, 1));
        C.noArgument("14: flex -1", () -> x.book(0, 100, -1, 1));
        C.noArgument("14: flex 100", () -> x.book(0, 100, 100, 1));
        C.noArgument("14: urgency 0", () -> x.book(0, 100, 0, 0));
        C.noArgument("14: urgency 10", () -> x.book(0, 100, 0, 10));
        C.noArgument("14: wish + flex is over", () -> x.book(0, 50, 49, 1));
        C.noArgument("14: wish + flex MAX", () -> x.book(0, Integer.MAX_VALUE, 99, 1));
        C.due("14: wish + flex is now", x.book(0, 50, 50, 1), 0);
        C.due("14: its place", Checks.placeOf(x, 0), "1 100 101");
        C.due("14: the latest wish", x.book(0, 9999, 99, 9), 1);
    }

    private static void bookLimits() {
        SpanLodge x = Checks.withOwners(8);
        x.set(2, 1);
        x.set(3, 1);
        x.book(0, 0, 0, 1);
        C.noState("14: LIMIT", () -> x.book(0, 5, 0, 1));
        C.noArgument("14: LIMIT, and urgency 0", () -> x.book(0, 5, 0, 0));
        x.book(1, 0, 0, 1);
        C.noState("14: who waits counts too", () -> x.book(1, 5, 0, 1));
        x.cancel(0);
        C.noState("14: barred", () -> x.book(0, 5, 0, 1));
        x.set(3, 2);
        C.due("14: not barred", x.book(0, 5, 0, 1), 2);
        x.set(2, 9);
        for (int i = 3; i < 40; i++) {
            C.due("14: book", x.book(i / 5, 5, 0, 1), i);
        }
        C.noState("14: 40 bookings", () -> x.book(1, 5, 0, 1));
        C.noArgument("14: 40 bookings, and wish -1", () -> x.book(1, -1, 0, 1));
    }

    private static void bestTimes() {
        SpanLodge x = Checks.withOwners(3);
        x.set(2, 9);
        x.draft(4, 4, 10);
        x.book(0, 20, 0, 1);
        C.due("14: at its WISH", Checks.placeOf(x, 0), "1 20 30");
        x.draft(7, 2, 3);
        x.book(0, 23, 6, 1);
        C.due("14: the earlier one is nearer", Checks.placeOf(x, 1), "1 17 20");
        x.book(0, 26, 6, 1);
        C.due("14: the later one is nearer", Checks.placeOf(x, 2), "1 30 33");
        x.draft(4, 1, 3);
        x.book(1, 24, 6, 1);
        C.due("14: the later one is nearer", Checks.placeOf(x, 3), "1 30 33");
        x.draft(4, 1, 2);
        x.book(1, 24, 6, 1);
        C.due("14: of two the earlier one", Checks.placeOf(x, 4), "1 18 20");
        x.book(1, 23, 4, 1);
        C.due("14: none within FLEX", Checks.placeOf(x, 5), "0 -1 -1");
        x.draft(8, 24, 10);
        x.book(1, 20, 0, 1);
        C.due("14: it clashes in byte 8 only later", Checks.placeOf(x, 6), "1 20 30");
        x.draft(7, 2, 3);
        x.book(2, 25, 12, 1);
        C.due("14: of two within FLEX the later one is nearer", Checks.placeOf(x, 7), "1 33 36");
        SpanLodge y = Checks.withOwners(1);
        y.pass(10);
        y.draft(0, 1, 5);
        y.book(0, 5, 8, 1);
        C.due("14: not ahead of the present time", Checks.placeOf(y, 0), "1 10 15");
        y.book(0, 12, 3, 1);
        C.due("14: right behind it", Checks.placeOf(y, 1), "1 15 20");
        y.book(0, 3, 9, 1);
        C.due("14: it waits", Checks.placeOf(y, 2), "0 -1 -1");
        y.draft(1, 1, 99);
        y.book(0, 9999, 0, 1);
        C.due("14: the last WISH", Checks.placeOf(y, 3), "1 9999 10098");
    }

    private static void bookingRows() {
        SpanLodge x = Checks.withOwners(2);
        x.draft(3, 5, 8);
        x.book(1, 9, 4, 6);
        C.due("15: booked", Checks.rowOf(x, 0), "1 3 5 8 9 4 6 1 9 17 120 -1");
        C.noIndex("15: booking(1, 0)", () -> x.booking(1, 0));
        C.noIndex("15: booking(-1, 12)", () -> x.booking(-1, 12));
        C.noArgument("15: booking(0, -1)", () -> x.booking(0, -1));
        C.noArgument("15: booking(0, 12)", () -> x.booking(0, 12));
        x.book(0, 6, 9, 2);
        C.due("15: moved", Checks.rowOf(x, 1), "0 3 5 8 6 9 2 1 1 9 30 -1");
        x.book(0, 30, 25, 9);
        x.book(0, 36, 1, 9);
        C.due("15: waits", Checks.rowOf(x, 3), "0 3 5 8 36 1 9 0 -1 -1 0 -1");
        x.extend(2, 4);
        C.due("15: DURATION as it was booked", Checks.rowOf(x, 2), "0 3 5 8 30 25 9 1 30 42 180 -1");
        x.pass(1);
        x.arrive(1);
        C.due("15: held", Checks.rowOf(x, 1), "0 3 5 8 6 9 2 2 1 9 0 -1");
        x.pass(8);
        C.due("15: done", Checks.rowOf(x, 1), "0 3 5 8 6 9 2 3 1 9 0 -1");
        x.pass(6);
        C.due("15: bumped", Checks.rowOf(x, 0), "1 3 5 8 9 4 6 5 9 17 0 -1");
        x.pass(15);
        x.arrive(2);
        x.pass(8);
        C.due("15: expired", Checks.rowOf(x, 3), "0 3 5 8 36 1 9 6 -1 -1 0 -1");
        x.book(1, 50, 0, 1);
        x.book(1, 50, 0, 1);
        x.cancel(5);
        x.cancel(4);
        C.due("15: was waiting when it was cancelled", Checks.placeOf(x, 5), "4 -1 -1");
        C.due("15: was booked when it was cancelled", Checks.placeOf(x, 4), "4 50 58");
        SpanLodge y = Checks.withOwners(1);
        y.set(2, 9);
        y.draft(0, 1, 50);
        y.book(0, 50, 0, 1);
        y.draft(0, 1, 20);
        y.book(0, 45, 15, 3);
        C.due("15: joy is 0 at least", Checks.rowOf(y, 1), "0 0 1 20 45 15 3 1 30 50 15 -1");
        y.book(0, 30, 80, 3);
        C.due("15: joy is 0 at least", Checks.rowOf(y, 2), "0 0 1 20 30 80 3 1 10 30 0 -1");
        y.book(0, 90, 99, 9);
        C.due("15: joy at a difference of 10", y.booking(3, 10), 90);
    }

    private static void waiters() {
        SpanLodge x = Checks.withOwners(3);
        C.noIndex("16: waiter(-1)", () -> x.waiter(-1));
        C.noIndex("16: waiter(MIN)", () -> x.waiter(Integer.MIN_VALUE));
        C.due("16: none", x.waiter(0), -1);
        x.set(2, 9);
        x.set(3, 9);
        for (int owner : new int[] {0, 0, 1}) {
            x.draft(9, 1, 1);
            int gone = x.book(owner, 0, 0, 1);
            x.cancel(gone);
        }
        x.clean();
        x.draft(0, 32, 50);
        x.book(2, 0, 0, 1);
        x.book(0, 1, 0, 1);
        x.book(1, 1, 0, 1);
        x.book(2, 1, 0, 1);
        x.book(0, 1, 0, 1);
        x.book(2, 1, 0, 1);
        int[] due = {3, 5, 2, 1, 4, -1};
        for (int i = 0; i < due.length; i++) {
            C.due("16: waiter(" + i + ")", x.waiter(i), due[i]);
        }
        C.due("16: waiter(MAX)", x.waiter(Integer.MAX_VALUE), -1);
        x.forgive(0);
        int[] then = {1, 3, 4, 5, 2, -1};
        for (int i = 0; i < then.length; i++) {
            C.due("16: waiter(" + i + ") then", x.waiter(i), then[i]);
        }
        x.evict(0);
        C.due("16: it is placed again ahead of the others", Checks.placeOf(x, 0), "1 0 50");
        x.draft(0, 1, 1);
        x.cancel(0);
        C.due("16: the first one of the order is placed", Checks.placeOf(x, 1), "1 1 51");
        C.due("16: the others wait", x.count(8), 4);
    }

    private static void cleaning() {
        SpanLodge x = Checks.withOwners(2);
        C.due("17: nothing", x.clean(), 0);
        x.set(2, 9);
        x.draft(0, 2, 5);
        for (int i = 0; i < 8; i++) {
            x.book(i % 2, 10 * i, 0, 1 + i);
        }
        x.book(1, 50, 0, 9);
        x.arrive(0);
        x.leave(0);
        x.cancel(3);
        x.cancel(7);
        String second = Checks.rowOf(x, 1);
        String last = Checks.rowOf(x, 8);
        C.due("17: clean", x.clean(), 3);
        C.due("17: bookings", x.count(6), 6);
        C.due("17: lower numbers", Checks.rowOf(x, 0), second);
        C.due("17: lower numbers", Checks.rowOf(x, 5), last);
        C.due("17: URGENCY of the fourth", x.booking(3, 6), 6);
        C.noIndex("17: the others are gone", () -> x.booking(6, 0));
        C.due("17: nothing more", x.clean(), 0);
        C.due("17: a new one", x.book(0, 90, 0, 1), 6);
        x.arrive(0);
        x.pass(30);
        C.due("17: bumped ones", x.clean(), 2);
        goneForGood();
    }

    /** A row that is taken away must not be met by ticks and bargains any more. */
    private static void goneForGood() {
        SpanLodge x = Checks.withOwners(1);
        x.book(0, 0, 0, 1);
        x.cancel(0);
        x.book(0, 3, 0, 1);
        C.due("17: clean", x.clean(), 1);
        C.due("17: bumped once", x.pass(10), 1);
        C.due("17: a no-show once", x.owner(0, 2), 1);
        SpanLodge y = Checks.withOwners(1);
        y.draft(0, 1, 5);
        y.book(0, 0, 0, 1);
        y.cancel(0);
        y.book(0, 0, 0, 1);
        y.arrive(1);
        y.clean();
        y.pass(9);
        C.due("17: kept once", y.owner(0, 1), 1);
        SpanLodge z = Checks.withOwners(1);
        z.draft(0, 1, 5);
        z.book(0, 9, 0, 1);
        z.book(0, 9, 0, 3);
        z.cancel(0);
        z.clean();
        C.due("17: no bargain with one that is gone", z.best(0), -1);
    }
}
