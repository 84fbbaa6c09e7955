/** Promises 7 to 12: owners and settings. */
public final class OwnersTest {
    private static final Checks C = new Checks("OwnersTest");

    public static void main(String[] args) {
        owners();
        settings();
        counts();
        records();
        trusts();
        C.end();
    }

    private static void owners() {
        SpanLodge x = new SpanLodge();
        C.noArgument("7: addOwner(-1)", () -> x.addOwner(-1));
        C.noArgument("7: addOwner(1000)", () -> x.addOwner(1000));
        for (int i = 0; i < 8; i++) {
            int credit = i == 0 ? 0 : 1000 - i;
            C.due("7: addOwner", x.addOwner(credit), i);
            C.due("10: CREDIT", x.owner(i, 0), credit);
            for (int what = 1; what <= 10; what++) {
                C.due("10: owner(" + i + ", " + what + ")", x.owner(i, what), 0);
            }
        }
        C.noState("7: addOwner", () -> x.addOwner(0));
        C.noArgument("7: addOwner(1000) of 8", () -> x.addOwner(1000));
        C.due("9: owners", x.count(5), 8);
        C.noIndex("10: owner(8, 0)", () -> x.owner(8, 0));
        C.noIndex("10: owner(-1, -1)", () -> x.owner(-1, -1));
        C.noArgument("10: owner(0, -1)", () -> x.owner(0, -1));
        C.noArgument("10: owner(0, 11)", () -> x.owner(0, 11));
        C.noIndex("11: trust(8)", () -> x.trust(8));
        C.noIndex("11: trust(-1)", () -> x.trust(-1));
        C.noIndex("12: forgive(8)", () -> x.forgive(8));
        C.noIndex("12: forgive(-1)", () -> x.forgive(-1));
    }

    private static void settings() {
        SpanLodge x = new SpanLodge();
        int[] first = {5, 10, 4, 3};
        int[] least = {0, 0, 1, 1};
        int[] most = {50, 99, 9, 9};
        for (int i = 0; i < 4; i++) {
            int what = i;
            C.due("8: least of " + what, x.set(what, least[what]), first[what]);
            C.due("9: count", x.count(what), least[what]);
            C.due("8: most of " + what, x.set(what, most[what]), least[what]);
            C.due("9: count", x.count(what), most[what]);
            C.noArgument("8: less than the least", () -> x.set(what, least[what] - 1));
            C.noArgument("8: more than the most", () -> x.set(what, most[what] + 1));
        }
        C.noArgument("8: set(-1, 5)", () -> x.set(-1, 5));
        C.noArgument("8: set(4, 5)", () -> x.set(4, 5));
    }

    private static void counts() {
        SpanLodge x = Checks.withOwners(3);
        C.noArgument("9: count(-1)", () -> x.count(-1));
        C.noArgument("9: count(14)", () -> x.count(14));
        x.draft(0, 4, 10);
        x.book(0, 0, 0, 1);
        x.book(1, 3, 0, 1);
        x.book(1, 4, 0, 1);
        x.draft(8, 3, 2);
        x.book(2, 0, 0, 1);
        x.draft(16, 16, 2);
        x.book(2, 1, 0, 1);
        x.arrive(0);
        C.due("9: bookings", x.count(6), 5);
        C.due("9: the time", x.count(7), 0);
        C.due("9: waiting", x.count(8), 2);
        C.due("9: booked", x.count(9), 2);
        C.due("9: held", x.count(10), 1);
        C.due("9: bytes now", x.count(13), 7);
        x.pass(1);
        C.due("9: bytes now", x.count(13), 23);
        x.pass(1);
        C.due("9: bytes now", x.count(13), 20);
        x.pass(7);
        C.due("9: bytes now", x.count(13), 4);
        C.due("9: the time", x.count(7), 9);
    }

    private static void records() {
        SpanLodge x = Checks.withOwners(2);
        x.set(2, 9);
        x.set(3, 2);
        x.draft(0, 2, 4);
        x.book(0, 0, 3, 2);
        x.book(0, 5, 2, 3);
        x.book(0, 6, 0, 5);
        C.due("10: wait or live", x.owner(0, 8), 3);
        C.due("10: joy of the booked", x.owner(0, 10), 100);
        C.due("10: joy of the booked", x.owner(1, 10), 0);
        x.pass(2);
        x.arrive(0);
        C.due("10: came late", x.owner(0, 6), 2);
        C.due("10: joy of the booked", x.owner(0, 10), 60);
        x.pass(2);
        C.due("10: kept", x.owner(0, 1), 1);
        x.pass(3);
        C.due("10: expired", x.owner(0, 5), 1);
        C.due("10: expired of another", x.owner(1, 5), 0);
        x.pass(4);
        C.due("10: no-shows", x.owner(0, 2), 1);
        C.due("10: barred", x.owner(0, 9), 0);
        C.due("10: wait or live", x.owner(0, 8), 0);
        x.book(0, 20, 0, 1);
        x.evict(3);
        C.due("10: evicted", x.owner(0, 4), 1);
        x.cancel(3);
        C.due("10: late cancellations", x.owner(0, 3), 1);
        C.due("10: barred", x.owner(0, 9), 1);
        x.set(3, 3);
        C.due("10: STRIKES tells who is barred", x.owner(0, 9), 0);
        x.set(3, 1);
        C.due("12: forgive", x.forgive(0), 2);
        C.due("12: no-shows", x.owner(0, 2), 0);
        C.due("12: late cancellations", x.owner(0, 3), 0);
        C.due("12: evicted stays", x.owner(0, 4), 1);
        C.due("12: kept stays", x.owner(0, 1), 1);
        C.due("12: barred no more", x.owner(0, 9), 0);
        C.due("12: forgive again", x.forgive(0), 0);
    }

    private static void trusts() {
        SpanLodge x = Checks.withOwners(1);
        C.due("11: trust without any", x.trust(0), 1.0);
        x.book(0, 0, 0, 1);
        x.arrive(0);
        x.leave(0);
        C.due("11: trust", x.trust(0), 1.0);
        x.book(0, 1, 0, 1);
        x.cancel(1);
        x.book(0, 1, 0, 1);
        x.cancel(2);
        C.due("11: trust", x.trust(0), 1.0 / 3.0);
        x.book(0, 0, 0, 1);
        x.pass(6);
        C.due("11: trust", x.trust(0), 0.25);
        x.forgive(0);
        C.due("11: trust", x.trust(0), 1.0);
        SpanLodge y = Checks.withOwners(1);
        y.book(0, 0, 0, 1);
        y.cancel(0);
        C.due("11: trust", y.trust(0), 0.0);
    }
}
