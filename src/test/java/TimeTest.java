/** Promises 26, 33 and 34: time, and what will be if only time passes. */
public final class TimeTest {
    private static final Checks C = new Checks("TimeTest");

    public static void main(String[] args) {
        refusals();
        steps();
        grace();
        lastTime();
        waitsFor();
        ahead();
        C.end();
    }

    private static void refusals() {
        SpanLodge x = Checks.withOwners(1);
        x.book(0, 3, 0, 1);
        x.book(0, 3, 0, 1);
        C.noArgument("26: pass(0)", () -> x.pass(0));
        C.noArgument("26: pass(-1)", () -> x.pass(-1));
        C.noArgument("26: pass(201)", () -> x.pass(201));
        C.noIndex("33: waitsFor(2, 1)", () -> x.waitsFor(2, 1));
        C.noIndex("33: waitsFor(-1, 0)", () -> x.waitsFor(-1, 0));
        C.noArgument("33: waitsFor(0, 0)", () -> x.waitsFor(0, 0));
        C.noArgument("33: waitsFor(1, 201)", () -> x.waitsFor(1, 201));
        C.noArgument("34: ahead(0, 0)", () -> x.ahead(0, 0));
        C.noArgument("34: ahead(201, 0)", () -> x.ahead(201, 0));
        C.noArgument("34: ahead(1, -1)", () -> x.ahead(1, -1));
        C.noArgument("34: ahead(1, 4)", () -> x.ahead(1, 4));
    }

    private static void steps() {
        SpanLodge x = Checks.withOwners(3);
        x.set(0, 0);
        x.draft(0, 1, 4);
        x.book(0, 0, 0, 1);
        x.arrive(0);
        x.book(1, 2, 2, 1);
        C.due("26: booked behind the held one", Checks.placeOf(x, 1), "1 4 8");
        C.due("26: pass", x.pass(3), 0);
        C.due("26: held until its END", x.booking(0, 7), 2);
        C.due("26: pass", x.pass(1), 0);
        C.due("26: done", Checks.placeOf(x, 0), "3 0 4");
        C.due("26: kept", x.owner(0, 1), 1);
        C.due("26: booked still", Checks.placeOf(x, 1), "1 4 8");
        x.book(2, 5, 0, 1);
        C.due("26: bumped", x.pass(1), 1);
        C.due("26: bumped", Checks.placeOf(x, 1), "5 4 8");
        C.due("26: a no-show", x.owner(1, 2), 1);
        C.due("26: its place is free in the same tick", Checks.placeOf(x, 2), "1 5 9");
        x.book(0, 6, 0, 1);
        C.due("26: bumped, and who waited is placed", x.pass(1), 1);
        C.due("26: placed", Checks.placeOf(x, 3), "1 6 10");
        x.book(1, 6, 0, 1);
        x.arrive(3);
        x.pass(1);
        C.due("26: expired", Checks.placeOf(x, 4), "6 -1 -1");
        C.due("26: expired", x.owner(1, 5), 1);
        C.due("26: expired is not broken", x.owner(1, 3), 0);
    }

    private static void grace() {
        SpanLodge x = Checks.withOwners(2);
        x.draft(0, 1, 2);
        x.book(0, 10, 0, 1);
        C.due("26: within GRACE", x.pass(15), 0);
        C.due("26: still booked behind its END", Checks.placeOf(x, 0), "1 10 12");
        C.due("26: behind GRACE", x.pass(1), 1);
        C.due("26: bumped", Checks.placeOf(x, 0), "5 10 12");
        x.set(0, 50);
        x.book(0, 20, 0, 1);
        x.book(1, 22, 0, 1);
        C.due("26: within GRACE", x.pass(54), 0);
        C.due("26: behind GRACE", x.pass(10), 2);
        x.set(0, 0);
        x.book(0, 81, 0, 1);
        C.due("26: at its BEGIN", x.pass(1), 0);
        C.due("26: behind its BEGIN", x.pass(1), 1);
        x.set(3, 9);
        x.book(0, 90, 0, 1);
        x.book(0, 92, 0, 1);
        x.book(1, 94, 0, 1);
        C.due("26: all that are bumped in the ticks", x.pass(100), 3);
        C.due("26: no-shows", x.owner(0, 2), 5);
    }

    private static void lastTime() {
        SpanLodge x = Checks.withOwners(1);
        for (int i = 0; i < 99; i++) {
            x.pass(200);
        }
        x.pass(199);
        C.due("26: the time", x.count(7), 19999);
        C.noState("26: pass(2)", () -> x.pass(2));
        C.noArgument("26: pass(201)", () -> x.pass(201));
        C.due("26: pass(1)", x.pass(1), 0);
        C.noState("26: pass(1)", () -> x.pass(1));
        C.due("34: ahead goes on", x.ahead(200, 0), 0);
        C.due("30: nextFree(20000)", x.nextFree(20000), 20000);
        C.noArgument("30: nextFree(20001)", () -> x.nextFree(20001));
        C.noArgument("14: all wishes are over", () -> x.book(0, 9999, 99, 1));
    }

    private static void waitsFor() {
        SpanLodge x = Checks.withOwners(2);
        x.draft(0, 1, 10);
        x.book(0, 0, 0, 1);
        x.arrive(0);
        x.book(1, 8, 9, 1);
        x.book(1, 4, 3, 1);
        x.draft(0, 1, 30);
        x.book(0, 5, 5, 1);
        C.due("33: booked", Checks.placeOf(x, 1), "1 10 20");
        C.due("33: a booked one", x.waitsFor(1, 1), 0);
        C.due("33: a held one", x.waitsFor(0, 200), 0);
        C.due("33: it expires", x.waitsFor(2, 200), 8);
        C.due("33: just within", x.waitsFor(2, 8), 8);
        C.due("33: not within", x.waitsFor(2, 7), -1);
        C.due("33: nothing changed", x.count(7), 0);
        SpanLodge y = Checks.withOwners(2);
        y.set(0, 3);
        y.draft(0, 1, 50);
        y.book(0, 2, 0, 1);
        y.book(1, 20, 10, 1);
        C.due("33: it is placed when the first one is bumped", y.waitsFor(1, 200), 6);
        String before = Checks.stateOf(y);
        C.due("33: the same again", y.waitsFor(1, 6), 6);
        C.due("33: nothing changed", Checks.stateOf(y), before);
        y.pass(5);
        C.due("33: one tick more", y.waitsFor(1, 1), 1);
        y.pass(1);
        C.due("33: it waits no more", y.waitsFor(1, 1), 0);
        C.due("33: placed", Checks.placeOf(y, 1), "1 20 70");
    }

    private static void ahead() {
        SpanLodge x = Checks.withOwners(4);
        x.draft(0, 1, 10);
        x.book(0, 0, 0, 1);
        x.arrive(0);
        x.book(1, 3, 2, 1);
        x.draft(1, 1, 10);
        x.book(1, 1, 0, 1);
        x.book(2, 5, 9, 1);
        x.book(3, 2, 8, 1);
        C.due("34: booked", Checks.placeOf(x, 3), "1 11 21");
        C.due("34: waits", x.booking(4, 7), 0);
        int[][] due = {
            {5, 0, 0, 0, 0}, {6, 0, 1, 0, 0}, {7, 1, 1, 0, 0}, {9, 1, 1, 0, 0}, {10, 1, 1, 0, 1},
            {11, 1, 2, 0, 1}, {16, 1, 2, 0, 1}, {17, 2, 2, 0, 1}, {200, 2, 2, 0, 1},
        };
        String before = Checks.stateOf(x);
        for (int[] row : due) {
            for (int what = 0; what < 4; what++) {
                C.due("34: ahead(" + row[0] + ", " + what + ")", x.ahead(row[0], what), row[what + 1]);
            }
        }
        C.due("34: nothing changed", Checks.stateOf(x), before);
        SpanLodge y = Checks.withOwners(3);
        y.draft(0, 1, 50);
        y.book(0, 1, 0, 1);
        y.book(1, 10, 9, 1);
        y.book(2, 60, 0, 1);
        C.due("34: nothing in 6 ticks", y.ahead(6, 2), 0);
        C.due("34: placed when the first one is bumped", y.ahead(7, 2), 1);
        C.due("34: all of them are bumped at last", y.ahead(200, 0), 3);
    }
}
