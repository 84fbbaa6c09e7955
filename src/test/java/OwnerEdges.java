/** Owners, settings and counts: the promises 7 to 12. */
public final class OwnerEdges {
    private OwnerEdges() {
    }

    public static void main(String[] args) {
        Edge.run(OwnerEdges.class);
    }

    /** A new booking of one byte and one tick now, which is cancelled late. */
    private static void cancelLate(SpanLodge x, int owner) {
        x.draft(31, 1, 1);
        x.cancel(x.book(owner, x.count(7), 99, 1));
    }

    private static void keep(SpanLodge x, int owner) {
        x.draft(30, 1, 1);
        int made = x.book(owner, x.count(7), 0, 1);
        x.arrive(made);
        x.leave(made);
    }

    // ---- 7: addOwner

    @Says(promise = 7, value = "`credit`: 0 to 999")
    static void addOwnerTakes0To999() {
        SpanLodge x = new SpanLodge();
        x.addOwner(999);
        x.addOwner(0);
        Edge.due(x.owner(0, 0), 999);
        Edge.due(x.owner(1, 0), 0);
        for (int credit : new int[] {-1, 1000, Edge.MIN, Edge.MAX}) {
            Edge.still(Edge::busy, y -> y.addOwner(credit), Edge.NO_ARGUMENT);
        }
    }

    @Says(promise = 7, value = "Returns its number.")
    static void addOwnerTellsTheNumber() {
        Edge.due(new SpanLodge().addOwner(7), 0);
        Edge.due(Edge.owners(7).addOwner(7), 7);
        Edge.due(Edge.owners(7).count(5), 7);
    }

    @Says(promise = 7, value = "Throws `IllegalStateException` if there are 8 owners")
    static void a9thOwnerIsRefused() {
        Edge.still(() -> Edge.owners(8), x -> x.addOwner(0), Edge.NO_STATE);
        Edge.still(() -> Edge.owners(8), x -> x.addOwner(999), Edge.NO_STATE);
    }

    @Says(promise = 7, value = "Throws `IllegalArgumentException` if credit is out of range")
    static void aWrongCreditIsToldAheadOf8Owners() {
        Edge.still(() -> Edge.owners(8), x -> x.addOwner(1000), Edge.NO_ARGUMENT);
        Edge.still(() -> Edge.owners(8), x -> x.addOwner(-1), Edge.NO_ARGUMENT);
    }

    // ---- 8: set

    @Says(promise = 8, value = "`what`: 0 to 3")
    static void setTakesFourSettings() {
        SpanLodge x = new SpanLodge();
        Edge.due(x.set(0, 8), 5);
        Edge.due(x.set(3, 8), 3);
        for (int what : new int[] {-1, 4, Edge.MIN, Edge.MAX}) {
            Edge.still(Edge::busy, y -> y.set(what, 5), Edge.NO_ARGUMENT);
        }
    }

    @Says(promise = 8, value = "if what is out of range, or value is out of the range of the setting")
    static void eachSettingHasItsOwnRange() {
        Edge.still(Edge::busy, x -> x.set(0, 51), Edge.NO_ARGUMENT);
        Edge.due(Edge.busy().set(1, 51), 10);
        Edge.still(Edge::busy, x -> x.set(2, 10), Edge.NO_ARGUMENT);
        Edge.due(Edge.busy().set(0, 10), 5);
        Edge.still(Edge::busy, x -> x.set(3, 0), Edge.NO_ARGUMENT);
        Edge.due(Edge.busy().set(1, 0), 10);
    }

    @Says(promise = 8, value = "Returns the previous value.")
    static void setTellsThePreviousValue() {
        SpanLodge x = new SpanLodge();
        int[] first = {5, 10, 4, 3};
        for (int what = 0; what < 4; what++) {
            Edge.due(x.set(what, 7), first[what]);
            Edge.due(x.set(what, 7), 7);
            Edge.due(x.set(what, 1), 7);
        }
        int[] then = {1, 1, 1, 1};
        for (int what = 0; what < 4; what++) {
            Edge.due(x.count(what), then[what]);
        }
    }

    // ---- 9: count

    @Says(promise = 9, value = "Throws `IllegalArgumentException` if what is out of range")
    static void countTakes0To13() {
        int[] first = {5, 10, 4, 3, 32, 0, 0, 0, 0, 0, 0, 0, 0, 0};
        for (int what = 0; what <= 13; what++) {
            int which = what;
            Edge.still(SpanLodge::new, x -> x.count(which), first[which]);
        }
        for (int what : new int[] {-1, 14, Edge.MIN, Edge.MAX}) {
            Edge.still(Edge::busy, x -> x.count(what), Edge.NO_ARGUMENT);
        }
    }

    @Says(promise = 9, value = "5: owners; 6: bookings; 7: the present time;")
    static void countTellsAllOfAFullObject() {
        SpanLodge x = Edge.full();
        Edge.due(x.count(5), 8);
        Edge.due(x.count(6), 40);
        Edge.due(x.count(9), 40);
        Edge.due(x.count(8), 0);
        Edge.due(x.count(10), 0);
        Edge.at(x, 45);
        Edge.due(x.count(7), 45);
        Edge.due(x.count(6), 40);
        Edge.due(x.count(9), 0);
    }

    @Says(promise = 9, value = "8: waiting bookings; 9: booked ones; 10: held ones;")
    static void countTellsEachState() {
        SpanLodge x = Edge.states();
        Edge.due(x.count(8), 1);
        Edge.due(x.count(9), 2);
        Edge.due(x.count(10), 1);
        Edge.due(x.count(6), 8);
    }

    @Says(promise = 9, value = "11: swaps; 12: buyouts;")
    static void countTellsBargainsThatAreDoneOnly() {
        SpanLodge x = Edge.free(2);
        Edge.stand(x, 0, 0, 2, 5, 15, 1, 10);
        Edge.stand(x, 1, 2, 2, 5, 10, 3, 15);
        Edge.put(x, 0, 8, 2, 5, 30, 0, 1);
        Edge.put(x, 1, 8, 2, 5, 30, 0, 3);
        x.swap(0, 2);
        x.buy(0, 1);
        Edge.due(x.count(11), 0);
        Edge.due(x.count(12), 0);
        x.bargain();
        Edge.due(x.count(11), 0);
        Edge.due(x.count(12), 1);
        x.bargain();
        Edge.due(x.count(11), 1);
        Edge.due(x.count(12), 1);
    }

    @Says(promise = 9, value = "13: bytes that are booked by live bookings for the present time")
    static void bytesAreCountedFromBeginToEnd() {
        SpanLodge x = Edge.owners(1);
        Edge.put(x, 0, 3, 5, 2, 4, 0, 1);
        int[] due = {0, 5, 5, 0};
        for (int i = 0; i < due.length; i++) {
            Edge.at(x, 3 + i);
            Edge.due(x.count(13), due[i]);
        }
    }

    @Says(promise = 9, value = "13: bytes that are booked by live bookings for the present time")
    static void allBytesMayBeBooked() {
        SpanLodge x = Edge.free(4);
        for (int i = 0; i < 32; i++) {
            Edge.put(x, i / 8, i, 1, 9, 0, 0, 1);
            Edge.due(x.count(13), i + 1);
        }
        for (int i = 0; i < 16; i++) {
            x.arrive(i);
        }
        Edge.due(x.count(10), 16);
        Edge.due(x.count(13), 32);
    }

    @Says(promise = 9, value = "13: bytes that are booked by live bookings for the present time")
    static void otherStatesBookNoBytes() {
        SpanLodge x = Edge.states();
        Edge.due(x.count(13), 2);
        Edge.at(x, 20);
        Edge.due(x.count(13), 6);
    }

    // ---- 10: owner

    @Says(promise = 10, value = "Throws `IndexOutOfBoundsException` if there is no such owner")
    static void ownerWantsAnOwner() {
        for (int none : new int[] {-1, 3, 8, Edge.MIN, Edge.MAX}) {
            Edge.still(Edge::busy, x -> x.owner(none, 0), Edge.NO_INDEX);
            Edge.still(Edge::busy, x -> x.owner(none, 11), Edge.NO_INDEX);
        }
        Edge.still(SpanLodge::new, x -> x.owner(0, 0), Edge.NO_INDEX);
        Edge.still(() -> Edge.owners(8), x -> x.owner(7, 0), 100);
        Edge.still(() -> Edge.owners(8), x -> x.owner(8, 0), Edge.NO_INDEX);
    }

    @Says(promise = 10, value = "Throws `IllegalArgumentException` if what is out of range")
    static void ownerTells0To10() {
        for (int what : new int[] {-1, 11, Edge.MIN, Edge.MAX}) {
            Edge.still(Edge::busy, x -> x.owner(0, what), Edge.NO_ARGUMENT);
        }
        Edge.still(Edge::busy, x -> x.owner(2, 10), 0);
    }

    @Says(promise = 10, value = "`what`: 0: CREDIT; 1: promises kept; 2: no-shows; 3: late cancellations; 4: bookings that "
            + "were evicted; 5: expired ones; 6: ticks by which it came late; 7: bargains;")
    static void eachRecordHasItsOwnNumber() {
        SpanLodge x = Edge.free(2);
        x.book(0, 5, 0, 1);
        Edge.due(records(x), "100 0 0 0 0 0 0 0");
        x.evict(0);
        Edge.due(records(x), "100 0 0 0 1 0 0 0");
        Edge.at(x, 8).arrive(0);
        Edge.due(records(x), "100 0 0 0 1 0 3 0");
        x.leave(0);
        Edge.due(records(x), "100 1 0 0 1 0 3 0");
        x.book(0, 9, 0, 1);
        x.book(0, 9, 0, 1);
        Edge.at(x, 10);
        Edge.due(records(x), "100 1 0 0 1 1 3 0");
        Edge.at(x, 15);
        Edge.due(records(x), "100 1 1 0 1 1 3 0");
        x.set(1, 1);
        cancelLate(x, 0);
        Edge.due(records(x), "100 1 1 1 1 1 3 0");
        Edge.put(x, 0, 0, 1, 1, 20, 0, 1);
        Edge.put(x, 1, 0, 1, 1, 20, 0, 3);
        x.bargain();
        Edge.due(records(x), "140 1 1 1 1 1 3 1");
    }

    /** The numbers 0 to 7 of the owner 0. */
    private static String records(SpanLodge x) {
        StringBuilder s = new StringBuilder();
        for (int what = 0; what <= 7; what++) {
            s.append(what == 0 ? "" : " ").append(x.owner(0, what));
        }
        return s.toString();
    }

    @Says(promise = 10, value = "6: ticks by which it came late;")
    static void lateTicksAreSummedUp() {
        SpanLodge x = Edge.free(2);
        Edge.put(x, 0, 0, 1, 9, 0, 0, 1);
        Edge.put(x, 0, 1, 1, 9, 2, 0, 1);
        Edge.put(x, 1, 2, 1, 9, 2, 0, 1);
        x.pass(2);
        x.arrive(1);
        Edge.due(x.owner(0, 6), 0);
        x.arrive(0);
        Edge.due(x.owner(0, 6), 2);
        Edge.put(x, 0, 3, 1, 9, 2, 0, 1);
        x.pass(5);
        x.arrive(3);
        Edge.due(x.owner(0, 6), 7);
        Edge.due(x.owner(1, 6), 0);
    }

    @Says(promise = 10, value = "8: bookings that wait or are live;")
    static void endedOnesAreNotCountedForAnOwner() {
        SpanLodge x = Edge.states();
        Edge.due(x.owner(0, 8), 3);
        Edge.due(x.owner(1, 8), 1);
        Edge.due(Edge.owners(1).owner(0, 8), 0);
        Edge.due(Edge.full().owner(7, 8), 5);
    }

    @Says(promise = 10, value = "9: 1 if it is barred, else 0;")
    static void barredIs1FromStrikesOn() {
        SpanLodge x = Edge.owners(2);
        x.set(3, 2);
        cancelLate(x, 0);
        Edge.due(x.owner(0, 9), 0);
        cancelLate(x, 0);
        Edge.due(x.owner(0, 9), 1);
        Edge.due(x.owner(1, 9), 0);
        x.set(3, 1);
        Edge.due(x.owner(0, 9), 1);
        Edge.due(x.owner(1, 9), 0);
    }

    @Says(promise = 10, value = "10: the sum of the joys of its booked bookings")
    static void onlyBookedOnesHaveJoy() {
        SpanLodge x = Edge.free(2);
        Edge.put(x, 0, 0, 1, 9, 0, 0, 2);
        Edge.put(x, 0, 1, 1, 9, 3, 0, 9);
        Edge.put(x, 0, 1, 1, 9, 3, 0, 9);
        Edge.put(x, 1, 2, 1, 9, 3, 0, 1);
        Edge.due(x.owner(0, 10), 220);
        Edge.due(x.owner(1, 10), 20);
        x.arrive(0);
        Edge.due(x.owner(0, 10), 180);
        x.cancel(2);
        x.cancel(1);
        Edge.due(x.owner(0, 10), 0);
    }

    // ---- 11: trust

    @Says(promise = 11, value = "Returns its kept promises divided by its kept and broken ones together, both converted to "
            + "double; 1.0 without any.")
    static void trustIs1WithoutAny() {
        Edge.still(() -> Edge.owners(1), x -> x.trust(0), 1.0);
    }

    @Says(promise = 11, value = "Returns its kept promises divided by its kept and broken ones together, both converted to "
            + "double;")
    static void trustIs1IfAllAreKeptAnd0IfNone() {
        SpanLodge x = Edge.owners(2);
        keep(x, 0);
        cancelLate(x, 1);
        Edge.due(x.trust(0), 1.0);
        Edge.due(x.trust(1), 0.0);
    }

    @Says(promise = 11, value = "Returns its kept promises divided by its kept and broken ones together, both converted to "
            + "double;")
    static void trustIsAPartOfAllPromises() {
        SpanLodge x = Edge.owners(1);
        x.set(3, 9);
        keep(x, 0);
        cancelLate(x, 0);
        Edge.due(x.trust(0), 0.5);
        x.book(0, x.count(7), 0, 1);
        x.pass(6);
        Edge.due(x.owner(0, 2), 1);
        Edge.due(x.trust(0), 1.0 / 3.0);
        keep(x, 0);
        keep(x, 0);
        Edge.due(x.trust(0), 3.0 / 5.0);
        x.forgive(0);
        Edge.due(x.trust(0), 1.0);
    }

    @Says(promise = 11, value = "Throws `IndexOutOfBoundsException` if there is no such owner")
    static void trustWantsAnOwner() {
        for (int none : new int[] {-1, 3, 8, Edge.MIN, Edge.MAX}) {
            Edge.still(Edge::busy, x -> x.trust(none), Edge.NO_INDEX);
        }
        Edge.still(SpanLodge::new, x -> x.trust(0), Edge.NO_INDEX);
    }

    // ---- 12: forgive

    @Says(promise = 12, value = "Returns how many they were.")
    static void forgiveTellsHowManyThereWere() {
        Edge.still(() -> Edge.owners(1), x -> x.forgive(0), 0);
        SpanLodge x = Edge.owners(2);
        x.set(3, 9);
        cancelLate(x, 0);
        cancelLate(x, 0);
        cancelLate(x, 1);
        x.book(0, 0, 0, 1);
        x.pass(6);
        Edge.due(x.forgive(0), 3);
        Edge.due(x.forgive(0), 0);
        Edge.due(x.owner(1, 3), 1);
    }

    @Says(promise = 12, value = "Takes all no-shows and late cancellations of an owner back.")
    static void forgiveTakesNothingElse() {
        SpanLodge x = Edge.busy();
        Edge.put(x, 0, 31, 1, 1, 3, 0, 1);
        x.cancel(x.count(6) - 1);
        x.evict(3);
        String before = told(x, 0);
        Edge.due(x.forgive(0), 2);
        Edge.due(x.owner(0, 2), 0);
        Edge.due(x.owner(0, 3), 0);
        Edge.due(told(x, 0), before);
    }

    /** All records of an owner but the broken promises. */
    private static String told(SpanLodge x, int owner) {
        StringBuilder s = new StringBuilder();
        for (int what : new int[] {0, 1, 4, 5, 6, 7, 8, 10}) {
            s.append(x.owner(owner, what)).append(' ');
        }
        return s.toString();
    }

    @Says(promise = 12, value = "Throws `IndexOutOfBoundsException` if there is no such owner")
    static void forgiveWantsAnOwner() {
        for (int none : new int[] {-1, 3, 8, Edge.MIN, Edge.MAX}) {
            Edge.still(Edge::busy, x -> x.forgive(none), Edge.NO_INDEX);
        }
        Edge.still(SpanLodge::new, x -> x.forgive(0), Edge.NO_INDEX);
    }
}
