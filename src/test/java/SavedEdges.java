/** A new object and saved states: the promises 1, 37 and 38, and exceptions of the terms. */
public final class SavedEdges {
    private SavedEdges() {
    }

    public static void main(String[] args) {
        Edge.run(SavedEdges.class);
    }

    /** What save() saves, as it can be asked for. */
    private static String state(SpanLodge x) {
        StringBuilder s = new StringBuilder();
        for (int what = 0; what <= 13; what++) {
            s.append(x.count(what)).append(' ');
        }
        for (int owner = 0; owner < x.count(5); owner++) {
            for (int what = 0; what <= 10; what++) {
                s.append(x.owner(owner, what)).append(' ');
            }
        }
        return s + Edge.rowsOf(x, 0, 10);
    }

    // ---- 1: a new object

    @Says(promise = 1, value = "Creates a file of 32 bytes without owners and bookings, with an empty text buffer and no "
            + "saved states.")
    static void aNewFileHas32Bytes() {
        SpanLodge x = new SpanLodge();
        Edge.due(x.count(4), 32);
        Edge.due(x.show(0), 32);
        Edge.due(x.count(5), 0);
        Edge.due(x.count(6), 0);
        Edge.due(Edge.answerOf(x, y -> y.owner(0, 0)), Edge.NO_INDEX);
        Edge.due(Edge.answerOf(x, y -> y.booking(0, 0)), Edge.NO_INDEX);
    }

    @Says(promise = 1, value = "with an empty text buffer and no saved states.")
    static void aNewTextIsEmpty() {
        Edge.due(new SpanLodge().appendText(0x20202020), 4);
        Edge.still(SpanLodge::new, x -> x.truncateText(1), Edge.NO_ARGUMENT);
        SpanLodge x = new SpanLodge();
        Edge.due(x.load(), -1);
        Edge.due(x.errorCode(), 1);
        Edge.due(x.errorPosition(), 0);
    }

    @Says(promise = 1, value = "with an empty text buffer and no saved states.")
    static void nothingIsSavedAtFirst() {
        Edge.still(SpanLodge::new, Edge.restore(0), Edge.NO_STATE);
        Edge.still(SpanLodge::new, Edge.restore(1), Edge.NO_STATE);
    }

    @Says(promise = 1, value = "The draft is the span of the byte 0 alone, with the DURATION 1.")
    static void theDraftAtFirstIsTheByte0ForOneTick() {
        SpanLodge x = Edge.owners(1);
        x.book(0, 7, 0, 1);
        Edge.due(Edge.rowOf(x, 0), "0 0 1 1 7 0 1 1 7 8 20 -1");
        Edge.due(x.nextFree(7), 8);
    }

    @Says(promise = 1, value = "Creates a file of 32 bytes without owners and bookings")
    static void twoObjectsHaveNothingInCommon() {
        SpanLodge x = new SpanLodge();
        SpanLodge y = Edge.busy();
        Edge.due(state(x), state(new SpanLodge()));
        Edge.due(Edge.answerOf(x, Edge.restore(1)), Edge.NO_STATE);
        Edge.due(state(y), state(Edge.busy()));
    }

    @Says(promise = 1, value = "Creates a file of 32 bytes without owners and bookings")
    static void aFileWithoutBookingsIsFree() {
        Edge.Recipe empty = () -> Edge.owners(1);
        Edge.still(empty, x -> x.owner(0, 8), 0);
        Edge.still(empty, x -> x.owner(0, 10), 0);
        Edge.still(empty, x -> x.waiter(0), -1);
        Edge.still(empty, SpanLodge::clean, 0);
        Edge.still(empty, SpanLodge::bargain, 5);
        Edge.still(empty, x -> x.best(0), -1);
        Edge.still(empty, x -> x.holder(31, 20100), -1);
        Edge.still(empty, x -> x.nextFree(20000), 20000);
        Edge.still(empty, x -> x.mayWrite(0, 0, 32), false);
        Edge.still(empty, x -> x.usage(200), 0.0f);
        Edge.due(Edge.owners(1).pass(200), 0);
        Edge.due(Edge.owners(1).show(0), 32);
    }

    @Says(promise = 1, value = "Creates a file of 32 bytes without owners and bookings")
    static void aFileWithoutBookingsHasNoneToAskFor() {
        Edge.Call[] calls = {
            x -> x.booking(0, 0), x -> x.arrive(0), x -> x.leave(0), x -> x.extend(0, 1),
            x -> x.cancel(0), x -> x.evict(0), x -> x.swap(0, 1), x -> x.buy(0, 1),
            x -> x.gain(0, 1), x -> x.waitsFor(0, 1),
        };
        for (Edge.Call call : calls) {
            Edge.still(() -> Edge.owners(1), call, Edge.NO_INDEX);
        }
    }

    // ---- 37: save

    @Says(promise = 37, value = "`slot`: 0 or 1; a state that is already saved there is replaced")
    static void thereAreTheSlots0And1() {
        Edge.due(Edge.answerOf(Edge.busy(), Edge.save(0)), "done");
        Edge.due(Edge.answerOf(Edge.busy(), Edge.save(1)), "done");
        for (int slot : new int[] {-1, 2, Edge.MIN, Edge.MAX}) {
            Edge.still(Edge::busy, Edge.save(slot), Edge.NO_ARGUMENT);
            Edge.still(SpanLodge::new, Edge.save(slot), Edge.NO_ARGUMENT);
        }
    }

    @Says(promise = 37, value = "`slot`: 0 or 1; a state that is already saved there is replaced")
    static void aSavedStateIsReplaced() {
        for (int slot = 0; slot < 2; slot++) {
            SpanLodge x = Edge.busy();
            x.save(slot);
            x.pass(9);
            x.addOwner(1);
            x.set(0, 1);
            x.clean();
            String then = state(x);
            x.save(slot);
            Checks.load(x, "size 64;owner 1;book 0 0 1 1 1;");
            x.restore(slot);
            Edge.due(state(x), then);
        }
    }

    @Says(promise = 37, value = "`slot`: 0 or 1; a state that is already saved there is replaced")
    static void theOtherSlotStays() {
        String first = state(Edge.busy());
        String second = state(Edge.at(Edge.busy(), 12));
        SpanLodge x = Edge.busy();
        x.save(0);
        Edge.at(x, 12);
        x.save(1);
        x.pass(9);
        x.restore(0);
        Edge.due(state(x), first);
        x.restore(1);
        Edge.due(state(x), second);
        x.restore(0);
        Edge.due(state(x), first);
    }

    @Says(promise = 37, value = "Saves everything except the text buffer, the latest error, the draft, the line of show() and "
            + "the saved states.")
    static void aSavedStateIsNotChangedByActs() {
        SpanLodge x = Edge.busy();
        String before = state(x);
        x.save(0);
        Edge.due(state(x), before);
        x.set(0, 0);
        x.set(2, 1);
        x.cancel(1);
        x.evict(3);
        x.extend(0, 9);
        x.pass(1);
        x.leave(0);
        x.clean();
        x.forgive(1);
        x.addOwner(9);
        x.restore(0);
        Edge.due(state(x), before);
    }

    @Says(promise = 37, value = "Saves everything except the text buffer, the latest error, the draft, the line of show() and "
            + "the saved states.")
    static void theTextAndTheLatestErrorAreNotSaved() {
        SpanLodge x = new SpanLodge();
        Checks.load(x, "size 65;");
        Checks.append(x, "size 5;");
        x.save(0);
        Checks.load(x, "?");
        Checks.append(x, "size 6;");
        x.restore(0);
        Edge.due(x.errorCode(), 1);
        Edge.due(x.errorPosition(), 0);
        Edge.due(x.truncateText(7), 7);
        Edge.due(x.load(), 0);
        Edge.due(x.count(4), 6);
    }

    @Says(promise = 37, value = "Saves everything except the text buffer, the latest error, the draft, the line of show() and "
            + "the saved states.")
    static void theLineIsNotSaved() {
        SpanLodge x = Edge.owners(2);
        Edge.put(x, 1, 0, 1, 1, 3, 0, 1);
        x.show(2);
        x.save(0);
        x.show(3);
        x.restore(0);
        Edge.due(x.shown(0), 49);
    }

    @Says(promise = 37, value = "Saves everything except the text buffer, the latest error, the draft, the line of show() and "
            + "the saved states.")
    static void savedStatesAreNotSaved() {
        SpanLodge x = Edge.owners(1);
        x.save(1);
        x.save(0);
        x.addOwner(5);
        x.save(1);
        x.restore(0);
        Edge.due(x.count(5), 1);
        x.restore(1);
        Edge.due(x.count(5), 2);
    }

    @Says(promise = 37, value = "Saves everything except the text buffer, the latest error, the draft, the line of show() and "
            + "the saved states.")
    static void eachNumberIsSaved() {
        String before = state(Edge.rich());
        SpanLodge x = Edge.rich();
        x.save(1);
        Checks.load(x, "size 64;");
        Edge.due(x.count(11), 0);
        x.restore(1);
        Edge.due(state(x), before);
        int[] counts = {9, 50, 9, 9, 32, 8, 11, 10, 2, 4, 1, 1, 1, 3};
        for (int what = 0; what < counts.length; what++) {
            Edge.due(x.count(what), counts[what]);
        }
        int[] records = {140, 1, 1, 1, 1, 1, 2, 2};
        for (int what = 0; what < records.length; what++) {
            Edge.due(x.owner(0, what), records[what]);
        }
    }

    @Says(promise = 37, value = "Saves everything except the text buffer, the latest error, the draft, the line of show() and "
            + "the saved states.")
    static void theSizeIsSaved() {
        for (int size : new int[] {1, 9, 64}) {
            SpanLodge x = new SpanLodge();
            Checks.load(x, "size " + size + ";");
            x.save(1);
            Checks.load(x, "size 8;");
            x.restore(1);
            Edge.due(x.count(4), size);
            Edge.due(x.holder(size - 1, 0), -1);
            Edge.due(Edge.answerOf(x, y -> y.holder(size, 0)), Edge.NO_INDEX);
            Edge.due(x.show(0), size);
        }
    }

    // ---- 38: restore

    @Says(promise = 38, value = "Throws `IllegalArgumentException` if slot is out of range")
    static void restoreTakesTheSlots0And1() {
        for (int slot : new int[] {-1, 2, Edge.MIN, Edge.MAX}) {
            Edge.still(Edge::busy, Edge.restore(slot), Edge.NO_ARGUMENT);
            Edge.still(SpanLodge::new, Edge.restore(slot), Edge.NO_ARGUMENT);
        }
    }

    @Says(promise = 38, value = "Throws `IllegalStateException` if nothing is saved there")
    static void anEmptySlotIsRefused() {
        Edge.still(Edge::busy, Edge.restore(0), Edge.NO_STATE);
        SpanLodge x = Edge.owners(1);
        x.save(0);
        Edge.due(Edge.answerOf(x, Edge.restore(1)), Edge.NO_STATE);
        Edge.due(Edge.answerOf(x, Edge.restore(0)), "done");
        Checks.load(x, "size 3;");
        Edge.due(Edge.answerOf(x, Edge.restore(1)), Edge.NO_STATE);
    }

    @Says(promise = 38, value = "Brings back a saved state, which stays saved;")
    static void aSavedStateStaysSaved() {
        SpanLodge x = Edge.busy();
        String before = state(x);
        x.save(0);
        for (int i = 0; i < 3; i++) {
            x.pass(1 + i);
            x.cancel(1);
            x.clean();
            x.restore(0);
            Edge.due(state(x), before);
        }
    }

    @Says(promise = 38, value = "Brings back a saved state, which stays saved;")
    static void anEmptyStateIsBroughtBack() {
        SpanLodge x = new SpanLodge();
        String before = state(x);
        x.save(1);
        Checks.load(x, "size 64;owner 1;book 0 0 1 1 1;set 0 1;set 1 1;set 2 1;set 3 1;");
        x.pass(5);
        x.restore(1);
        Edge.due(state(x), before);
    }

    @Says(promise = 38, value = "Brings back a saved state, which stays saved;")
    static void nothingOfALaterStateStays() {
        SpanLodge x = new SpanLodge();
        x.save(0);
        Checks.load(x, "size 64;owner 1;book 0 0 1 1 1;");
        x.pass(20);
        x.restore(0);
        Edge.due(x.addOwner(3), 0);
        Edge.due(x.owner(0, 0), 3);
        for (int what = 1; what <= 10; what++) {
            Edge.due(x.owner(0, what), 0);
        }
        Edge.due(x.pass(20), 0);
    }

    @Says(promise = 38, value = "Brings back a saved state, which stays saved;")
    static void aFullStateIsBroughtBack() {
        SpanLodge x = Edge.full();
        x.save(0);
        x.pass(60);
        x.clean();
        x.restore(0);
        Edge.due(x.count(6), 40);
        Edge.due(x.count(7), 0);
        Edge.due(x.booking(39, 4), 39);
        Edge.due(x.booking(39, 7), 1);
        Edge.due(x.owner(7, 10), 100);
        Edge.due(x.pass(60), 40);
    }

    @Says(promise = 38, value = "the draft is as at first then.")
    static void theDraftIsAsAtFirstBehindARestore() {
        SpanLodge x = Edge.owners(1);
        x.draft(3, 4, 5);
        x.save(0);
        x.book(0, 3, 0, 1);
        Edge.due(x.booking(0, 1), 3);
        x.restore(0);
        Edge.due(Edge.draftOf(x), "0 1 1");
    }

    @Says(promise = 38, value = "the draft is as at first then.")
    static void theDraftStaysForASave() {
        SpanLodge x = Edge.owners(1);
        x.draft(3, 4, 5);
        x.save(0);
        Edge.due(Edge.draftOf(x), "3 4 5");
    }

    // ---- exceptions

    @Says(promise = 0, value = "A method that throws an exception changes nothing.")
    static void aFullObjectStaysAsItIs() {
        Edge.still(Edge::full, x -> x.addOwner(1), Edge.NO_STATE);
        Edge.still(Edge::full, x -> x.book(0, 50, 0, 1), Edge.NO_STATE);
        Edge.still(Edge::full, x -> x.pass(201), Edge.NO_ARGUMENT);
        Edge.still(Edge::full, x -> x.extend(39, 100), Edge.NO_ARGUMENT);
        Edge.still(Edge::full, x -> x.arrive(40), Edge.NO_INDEX);
        Edge.still(Edge::full, Edge.restore(0), Edge.NO_STATE);
    }

    @Says(promise = 0, value = "If several exceptions apply, the one that comes first in the method's list of exceptions is "
            + "thrown.")
    static void theFirstExceptionOfTheListIsThrown() {
        Edge.still(() -> Edge.owners(8), x -> x.addOwner(1000), Edge.NO_ARGUMENT);
        Edge.still(Edge::full, x -> x.owner(8, 11), Edge.NO_INDEX);
        Edge.still(Edge::full, Edge.draft(32, 0, 0), Edge.NO_INDEX);
        Edge.still(Edge::full, x -> x.book(8, -1, -1, 0), Edge.NO_INDEX);
        Edge.still(Edge::full, x -> x.book(0, 0, 0, 0), Edge.NO_ARGUMENT);
        Edge.still(Edge::full, x -> x.booking(40, 12), Edge.NO_INDEX);
        Edge.still(Edge::full, x -> x.extend(40, 0), Edge.NO_INDEX);
        Edge.still(Edge::full, x -> x.swap(40, 40), Edge.NO_INDEX);
        Edge.still(Edge::full, x -> x.holder(32, 20101), Edge.NO_INDEX);
        Edge.still(Edge::full, x -> x.mayWrite(8, 0, 0), Edge.NO_INDEX);
        Edge.still(Edge::full, x -> x.waitsFor(40, 201), Edge.NO_INDEX);
        Edge.still(Edge::full, Edge.restore(2), Edge.NO_ARGUMENT);
        Edge.still(() -> Edge.at(Edge.owners(1), 20000), x -> x.pass(0), Edge.NO_ARGUMENT);
    }
}
