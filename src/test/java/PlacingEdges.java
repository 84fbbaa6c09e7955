/** Placing and ticks: the terms, and the promises 16, 26, 33 and 34. */
public final class PlacingEdges {
    private PlacingEdges() {
    }

    public static void main(String[] args) {
        Edge.run(PlacingEdges.class);
    }

    private static void allWait(SpanLodge x, int... bookings) {
        for (int booking : bookings) {
            Edge.due(Edge.place(x, booking), "0 -1 -1");
        }
    }

    /** A late cancellation of an owner; its number is taken away again. */
    private static void breakPromise(SpanLodge x, int owner) {
        int notice = x.set(1, 99);
        x.draft(31, 1, 1);
        x.cancel(x.book(owner, x.count(7), 0, 1));
        x.clean();
        x.set(1, notice);
    }

    /**
     * The booking 0 of the owner 3 takes all bytes from 10 to 20; the owners 0, 1 and 2 wait for
     * the same place with 1, 2 and 3. The owner with this number has a broken promise.
     */
    private static SpanLodge queue(int... broken) {
        SpanLodge x = Edge.free(4);
        for (int owner : broken) {
            breakPromise(x, owner);
        }
        Edge.put(x, 3, 0, 32, 10, 10, 0, 1);
        for (int owner = 0; owner < 3; owner++) {
            x.book(owner, 10, 0, 1);
        }
        allWait(x, 1, 2, 3);
        return x;
    }

    // ---- placing

    @Says(promise = 0, value = "Waiting bookings are placed in the order of the broken promises of their owners "
            + "(the fewest first), then of their numbers")
    static void ofEqualOwnersTheLowerNumberIsPlacedFirst() {
        SpanLodge x = queue();
        x.cancel(0);
        Edge.due(Edge.place(x, 1), "1 10 20");
        allWait(x, 2, 3);
    }

    @Says(promise = 0, value = "Waiting bookings are placed in the order of the broken promises of their owners "
            + "(the fewest first), then of their numbers")
    static void theFewestBrokenPromisesArePlacedFirst() {
        SpanLodge x = queue(0, 1);
        x.cancel(0);
        Edge.due(Edge.place(x, 3), "1 10 20");
        allWait(x, 1, 2);
        SpanLodge y = queue(0, 0, 1, 2);
        y.cancel(0);
        Edge.due(Edge.place(y, 2), "1 10 20");
        allWait(y, 1, 3);
    }

    @Says(promise = 0, value = "Waiting bookings are placed in the order of the broken promises of their owners "
            + "(the fewest first), then of their numbers")
    static void theOrderGoesByTheBrokenPromisesBehindTheAct() {
        SpanLodge x = Edge.owners(2);
        Edge.put(x, 0, 0, 4, 10, 5, 0, 1);
        x.book(0, 5, 0, 1);
        x.book(1, 5, 0, 1);
        x.cancel(0);
        Edge.due(x.owner(0, 3), 1);
        Edge.due(Edge.place(x, 2), "1 5 15");
        allWait(x, 1);
    }

    @Says(promise = 0, value = "each one that has a best time then is booked at this time.")
    static void eachOneThatFitsIsPlaced() {
        SpanLodge x = Edge.free(4);
        Edge.put(x, 0, 0, 32, 10, 10, 0, 1);
        Edge.put(x, 1, 0, 4, 12, 10, 1, 1);
        Edge.put(x, 2, 3, 4, 12, 10, 1, 1);
        Edge.put(x, 3, 7, 4, 10, 10, 0, 1);
        Edge.put(x, 3, 3, 1, 9, 13, 9, 1);
        Edge.due(Edge.place(x, 4), "1 20 29");
        x.cancel(4);
        x.clean();
        x.cancel(0);
        Edge.due(Edge.place(x, 1), "1 10 22");
        allWait(x, 2);
        Edge.due(Edge.place(x, 3), "1 10 20");
    }

    @Says(promise = 0, value = "each one that has a best time then is booked at this time.")
    static void aWaitingOneIsPlacedAtItsBestTimeThen() {
        SpanLodge x = Edge.free(2);
        Edge.put(x, 0, 0, 4, 10, 10, 0, 1);
        Edge.put(x, 0, 0, 4, 90, 20, 0, 1);
        Edge.put(x, 1, 0, 4, 4, 16, 5, 1);
        Edge.put(x, 1, 0, 4, 4, 16, 5, 1);
        Edge.put(x, 1, 0, 4, 4, 16, 5, 1);
        allWait(x, 2, 3, 4);
        x.cancel(0);
        Edge.due(Edge.place(x, 2), "1 16 20");
        Edge.due(Edge.place(x, 3), "1 12 16");
        allWait(x, 4);
    }

    /** A held booking 0 from 0 to 10 and a booking 1 that waits for 5 to 15. */
    private static SpanLodge waitsForHeld() {
        SpanLodge x = Edge.owners(2);
        Edge.put(x, 0, 0, 4, 10, 0, 0, 1);
        Edge.put(x, 1, 0, 4, 10, 5, 0, 1);
        x.arrive(0);
        x.pass(5);
        allWait(x, 1);
        return x;
    }

    @Says(promise = 0, value = "This happens behind each act that is done, except for arrive(), and in each tick.")
    static void placedBehindLeave() {
        SpanLodge x = waitsForHeld();
        x.leave(0);
        Edge.due(Edge.place(x, 1), "1 5 15");
    }

    @Says(promise = 0, value = "This happens behind each act that is done, except for arrive(), and in each tick.")
    static void placedBehindCancelAndEvict() {
        SpanLodge x = queue();
        x.cancel(0);
        Edge.due(Edge.place(x, 1), "1 10 20");
        SpanLodge y = queue(3);
        y.evict(0);
        Edge.due(Edge.place(y, 1), "1 10 20");
        allWait(y, 0, 2, 3);
    }

    @Says(promise = 0, value = "This happens behind each act that is done, except for arrive(), and in each tick.")
    static void placedBehindABuyout() {
        SpanLodge x = Edge.free(3);
        Edge.put(x, 0, 0, 4, 10, 10, 0, 1);
        Edge.put(x, 1, 0, 4, 4, 10, 0, 4);
        Edge.put(x, 2, 0, 4, 6, 14, 0, 1);
        allWait(x, 1, 2);
        Edge.due(x.buy(1, 0), 0);
        Edge.due(Edge.place(x, 1), "1 10 14");
        Edge.due(Edge.place(x, 2), "1 14 20");
        allWait(x, 0);
    }

    @Says(promise = 0, value = "This happens behind each act that is done, except for arrive(), and in each tick.")
    static void placedBehindABargain() {
        SpanLodge x = Edge.free(3);
        Edge.put(x, 0, 0, 4, 10, 10, 0, 1);
        Edge.put(x, 1, 0, 4, 4, 10, 0, 4);
        Edge.put(x, 2, 0, 4, 6, 14, 0, 1);
        Edge.due(x.bargain(), 0);
        Edge.due(Edge.place(x, 1), "1 10 14");
        Edge.due(Edge.place(x, 2), "1 14 20");
    }

    /** 0 and 1 stand at one another's WISH; 2 waits for a byte that only 0 takes at 10. */
    private static SpanLodge crossed() {
        SpanLodge x = Edge.free(3);
        Edge.put(x, 2, 0, 2, 10, 15, 0, 1);
        Edge.put(x, 0, 0, 2, 5, 15, 5, 1);
        Edge.put(x, 2, 2, 2, 15, 0, 0, 1);
        Edge.put(x, 1, 2, 2, 5, 10, 5, 1);
        x.cancel(0);
        x.cancel(2);
        x.clean();
        Edge.put(x, 2, 0, 1, 5, 10, 0, 1);
        Edge.due(Edge.place(x, 0), "1 10 15");
        Edge.due(Edge.place(x, 1), "1 15 20");
        allWait(x, 2);
        return x;
    }

    @Says(promise = 0, value = "This happens behind each act that is done, except for arrive(), and in each tick.")
    static void placedBehindASwap() {
        SpanLodge x = crossed();
        Edge.due(x.swap(0, 1), 0);
        Edge.due(Edge.place(x, 2), "1 10 15");
        SpanLodge y = crossed();
        Edge.due(y.bargain(), 0);
        Edge.due(Edge.place(y, 2), "1 10 15");
    }

    @Says(promise = 0, value = "This happens behind each act that is done, except for arrive(), and in each tick.")
    static void nothingIsPlacedBehindARefusedActOrArrive() {
        SpanLodge x = queue();
        x.pass(10);
        Edge.due(x.leave(0), 1);
        Edge.due(x.arrive(0), 0);
        allWait(x, 1, 2, 3);
    }

    // ---- a tick

    @Says(promise = 0, value = "The time becomes 1 greater; then, with the new time u:")
    static void theTimeBecomes1Greater() {
        SpanLodge x = new SpanLodge();
        x.pass(1);
        Edge.due(x.count(7), 1);
        x.pass(200);
        Edge.due(x.count(7), 201);
    }

    private static SpanLodge heldFrom0To4() {
        SpanLodge x = Edge.owners(1);
        Edge.put(x, 0, 0, 1, 4, 0, 0, 1);
        x.arrive(0);
        return x;
    }

    @Says(promise = 0, value = "1. Each held booking whose END is u or less is done; its owner has kept a promise.")
    static void aHeldOneIsDoneAtItsEnd() {
        SpanLodge x = heldFrom0To4();
        x.pass(3);
        Edge.due(Edge.place(x, 0), "2 0 4");
        Edge.due(x.owner(0, 1), 0);
        x.pass(1);
        Edge.due(Edge.place(x, 0), "3 0 4");
        Edge.due(x.owner(0, 1), 1);
        x.pass(1);
        Edge.due(x.owner(0, 1), 1);
    }

    @Says(promise = 0, value = "1. Each held booking whose END is u or less is done; its owner has kept a promise.")
    static void oneThatIsHeldBehindItsEndIsDoneInTheNextTick() {
        SpanLodge x = Edge.owners(1);
        Edge.put(x, 0, 0, 1, 2, 0, 0, 1);
        x.pass(5);
        x.arrive(0);
        Edge.due(Edge.place(x, 0), "2 0 2");
        Edge.due(x.pass(1), 0);
        Edge.due(Edge.place(x, 0), "3 0 2");
        Edge.due(x.owner(0, 1), 1);
    }

    /** Passes up to a last tick in which a booking at 10 has to be booked yet, and one more. */
    private static void bumpedBehindGrace(int grace) {
        SpanLodge x = Edge.owners(1);
        x.set(0, grace);
        x.book(0, 10, 0, 1);
        Edge.at(x, 10 + grace);
        Edge.due(Edge.place(x, 0), "1 10 11");
        Edge.due(x.owner(0, 2), 0);
        Edge.due(x.pass(1), 1);
        Edge.due(Edge.place(x, 0), "5 10 11");
        Edge.due(x.owner(0, 2), 1);
    }

    @Says(promise = 0, value = "2. Each booked booking with BEGIN + GRACE less than u is bumped; that is a no-show of its "
            + "owner.")
    static void aBookedOneIsBumpedBehindGrace() {
        bumpedBehindGrace(5);
        bumpedBehindGrace(0);
        bumpedBehindGrace(1);
        bumpedBehindGrace(50);
    }

    @Says(promise = 0, value = "2. Each booked booking with BEGIN + GRACE less than u is bumped; that is a no-show of its "
            + "owner.")
    static void theGraceOfTheTickTells() {
        SpanLodge x = Edge.owners(1);
        x.set(0, 50);
        x.book(0, 0, 0, 1);
        x.pass(30);
        x.set(0, 0);
        Edge.due(x.booking(0, 7), 1);
        Edge.due(x.pass(1), 1);
    }

    @Says(promise = 0, value = "2. Each booked booking with BEGIN + GRACE less than u is bumped; that is a no-show of its "
            + "owner.")
    static void aHeldOneIsNotBumped() {
        SpanLodge x = Edge.owners(1);
        Edge.put(x, 0, 0, 1, 99, 0, 0, 1);
        x.arrive(0);
        Edge.due(x.pass(98), 0);
        Edge.due(x.booking(0, 7), 2);
    }

    /** Passes up to the last tick in which one may wait, and one more. */
    private static void expiredBehind(int wish, int flex) {
        SpanLodge x = Edge.owners(2);
        Edge.put(x, 0, 0, 1, 99, 0, 0, 1);
        x.arrive(0);
        Edge.put(x, 1, 0, 1, 1, wish, flex, 1);
        Edge.at(x, wish + flex);
        Edge.due(Edge.place(x, 1), "0 -1 -1");
        Edge.due(x.owner(1, 5), 0);
        x.pass(1);
        Edge.due(Edge.place(x, 1), "6 -1 -1");
        Edge.due(x.owner(1, 5), 1);
        x.pass(1);
        Edge.due(x.owner(1, 5), 1);
    }

    @Says(promise = 0, value = "3. Each waiting booking with WISH + FLEX less than u has expired.")
    static void aWaitingOneExpiresBehindWishAndFlex() {
        expiredBehind(0, 0);
        expiredBehind(7, 0);
        expiredBehind(4, 9);
        expiredBehind(0, 97);
    }

    @Says(promise = 0, value = "4. Waiting bookings are placed.")
    static void itIsPlacedInTheTickThatFreesItsPlace() {
        SpanLodge x = heldFrom0To4();
        Edge.put(x, 0, 0, 1, 9, 2, 2, 1);
        Edge.due(Edge.place(x, 1), "1 4 13");
        x.set(0, 0);
        Edge.put(x, 0, 0, 1, 9, 5, 0, 1);
        x.pass(4);
        allWait(x, 2);
        Edge.due(x.pass(1), 1);
        Edge.due(Edge.place(x, 1), "5 4 13");
        Edge.due(Edge.place(x, 2), "1 5 14");
    }

    @Says(promise = 0, value = "(1 to 3 by ascending numbers of the bookings, each step for all of them before the next "
            + "one.)")
    static void aLowerNumberGetsThePlaceOfAHigherOneInTheSameTick() {
        SpanLodge x = Edge.owners(2);
        x.set(0, 0);
        breakPromise(x, 0);
        Edge.put(x, 0, 0, 1, 9, 4, 1, 1);
        Edge.put(x, 1, 0, 1, 3, 4, 0, 1);
        x.evict(0);
        allWait(x, 0);
        Edge.due(Edge.place(x, 1), "1 4 7");
        Edge.due(x.pass(5), 1);
        Edge.due(Edge.place(x, 1), "5 4 7");
        Edge.due(Edge.place(x, 0), "1 5 14");
    }

    @Says(promise = 0, value = "(1 to 3 by ascending numbers of the bookings, each step for all of them before the next "
            + "one.)")
    static void whoIsBumpedInATickIsPlacedBehindOthersInIt() {
        SpanLodge x = Edge.owners(2);
        x.set(0, 0);
        Edge.put(x, 0, 0, 1, 9, 4, 0, 1);
        Edge.put(x, 0, 0, 1, 9, 5, 0, 1);
        Edge.put(x, 1, 0, 1, 9, 5, 0, 1);
        Edge.due(x.waiter(0), 1);
        x.pass(5);
        Edge.due(x.owner(0, 2), 1);
        Edge.due(Edge.place(x, 2), "1 5 14");
        allWait(x, 1);
        Edge.due(x.waiter(0), 1);
    }

    @Says(promise = 0, value = "(The END of a booking that is booked, but not held, does not matter here.)")
    static void aBookedOneStaysBehindItsEnd() {
        SpanLodge x = Edge.owners(1);
        x.set(0, 50);
        x.book(0, 0, 0, 1);
        Edge.due(x.pass(50), 0);
        Edge.due(Edge.place(x, 0), "1 0 1");
        Edge.due(x.owner(0, 1), 0);
    }

    // ---- 16: waiter

    /** 39 bookings of 8 owners wait behind the booking 0. */
    private static SpanLodge crowd() {
        SpanLodge x = Edge.free(8);
        Edge.put(x, 7, 0, 32, 50, 0, 0, 1);
        for (int i = 1; i < 40; i++) {
            x.book(i / 5, i, 0, 1);
        }
        return x;
    }

    @Says(promise = 16, value = "0 for the first one")
    static void theFirstWaiterHasTheIndex0() {
        Edge.still(PlacingEdges::queue, x -> x.waiter(0), 1);
        Edge.still(PlacingEdges::queue, x -> x.waiter(1), 2);
    }

    @Says(promise = 16, value = "if index is negative")
    static void aNegativeIndexIsRefused() {
        Edge.still(PlacingEdges::queue, x -> x.waiter(-1), Edge.NO_INDEX);
        Edge.still(SpanLodge::new, x -> x.waiter(-1), Edge.NO_INDEX);
        Edge.still(SpanLodge::new, x -> x.waiter(Edge.MIN), Edge.NO_INDEX);
    }

    @Says(promise = 16, value = "NONE if there are not so many.")
    static void thereIsNoWaiterBehindTheLastOne() {
        Edge.still(SpanLodge::new, x -> x.waiter(0), -1);
        Edge.still(PlacingEdges::queue, x -> x.waiter(2), 3);
        Edge.still(PlacingEdges::queue, x -> x.waiter(3), -1);
        Edge.still(PlacingEdges::queue, x -> x.waiter(Edge.MAX), -1);
    }

    @Says(promise = 16, value = "NONE if there are not so many.")
    static void thereMayBe39Waiters() {
        Edge.still(PlacingEdges::crowd, x -> x.waiter(38), 39);
        Edge.still(PlacingEdges::crowd, x -> x.waiter(39), -1);
        Edge.still(PlacingEdges::crowd, x -> x.waiter(40), -1);
        SpanLodge x = crowd();
        breakPromiseOfFirst(x);
        Edge.due(x.waiter(0), 5);
        Edge.due(x.waiter(34), 39);
        Edge.due(x.waiter(35), 1);
        Edge.due(x.waiter(38), 4);
    }

    /** The owner 0 breaks a promise, though there are 40 bookings already. */
    private static void breakPromiseOfFirst(SpanLodge x) {
        x.cancel(39);
        x.clean();
        x.draft(0, 1, 1);
        x.set(1, 99);
        x.cancel(x.book(0, 60, 0, 1));
        x.clean();
        x.draft(0, 32, 50);
        x.book(7, 39, 0, 1);
    }

    @Says(promise = 16, value = "Returns the waiting booking that is placed at this place of the order")
    static void theOrderGoesByBrokenPromisesThenByNumbers() {
        SpanLodge x = queue(0, 1, 0);
        int[] due = {3, 2, 1, -1};
        for (int i = 0; i < due.length; i++) {
            Edge.due(x.waiter(i), due[i]);
        }
        SpanLodge y = queue(1);
        int[] then = {1, 3, 2, -1};
        for (int i = 0; i < then.length; i++) {
            Edge.due(y.waiter(i), then[i]);
        }
    }

    @Says(promise = 16, value = "Returns the waiting booking that is placed at this place of the order")
    static void whoIsForgivenIsPlacedByItsNumberAgain() {
        SpanLodge x = queue(0, 0);
        Edge.due(x.waiter(2), 1);
        Edge.due(x.forgive(0), 2);
        for (int i = 0; i < 3; i++) {
            Edge.due(x.waiter(i), 1 + i);
        }
        x.cancel(0);
        Edge.due(Edge.place(x, 1), "1 10 20");
    }

    // ---- 26: pass

    @Says(promise = 26, value = "`ticks`: 1 to 200")
    static void passTakes1To200Ticks() {
        Edge.due(new SpanLodge().pass(1), 0);
        Edge.due(new SpanLodge().pass(200), 0);
        for (int ticks : new int[] {0, -1, 201, Edge.MIN, Edge.MAX}) {
            Edge.still(Edge::busy, x -> x.pass(ticks), Edge.NO_ARGUMENT);
        }
    }

    @Says(promise = 26, value = "if the time would be greater than 20000")
    static void theTimeMayBecome20000() {
        SpanLodge x = Edge.at(Edge.owners(1), 19800);
        Edge.due(x.pass(200), 0);
        Edge.due(x.count(7), 20000);
        Edge.Recipe last = () -> Edge.at(Edge.owners(1), 20000);
        Edge.still(last, y -> y.pass(1), Edge.NO_STATE);
        Edge.still(last, y -> y.pass(200), Edge.NO_STATE);
        Edge.Recipe ahead = () -> Edge.at(Edge.owners(1), 19801);
        Edge.still(ahead, y -> y.pass(200), Edge.NO_STATE);
        Edge.due(ahead.make().pass(199), 0);
    }

    @Says(promise = 26, value = "Throws `IllegalArgumentException` if ticks is out of range")
    static void wrongTicksAreToldAheadOfTheTime() {
        Edge.Recipe last = () -> Edge.at(Edge.owners(1), 20000);
        Edge.still(last, x -> x.pass(201), Edge.NO_ARGUMENT);
        Edge.still(last, x -> x.pass(0), Edge.NO_ARGUMENT);
        Edge.still(last, x -> x.pass(Edge.MAX), Edge.NO_ARGUMENT);
    }

    @Says(promise = 26, value = "Returns the number of bookings that were bumped in them.")
    static void passTellsWhatWasBumpedInItsTicks() {
        SpanLodge x = Edge.free(2);
        x.set(0, 2);
        x.book(0, 0, 0, 1);
        x.book(1, 1, 0, 1);
        x.book(0, 2, 0, 1);
        x.book(1, 9, 0, 1);
        Edge.due(x.pass(2), 0);
        Edge.due(x.pass(1), 1);
        Edge.due(x.pass(2), 2);
        Edge.due(x.pass(6), 0);
        Edge.due(x.pass(1), 1);
        Edge.due(x.pass(200), 0);
    }

    @Says(promise = 26, value = "Returns the number of bookings that were bumped in them.")
    static void passTellsNothingElse() {
        SpanLodge x = waitsForHeld();
        Edge.put(x, 0, 8, 1, 9, 5, 0, 1);
        Edge.put(x, 0, 8, 1, 9, 5, 0, 1);
        x.cancel(2);
        x.arrive(3);
        Edge.due(x.pass(5), 0);
        Edge.due(x.count(10), 1);
        Edge.due(x.count(8), 0);
    }

    @Says(promise = 26, value = "Returns the number of bookings that were bumped in them.")
    static void all40MayBeBumped() {
        SpanLodge x = Edge.full();
        Edge.due(x.pass(200), 40);
        Edge.due(x.owner(7, 2), 5);
    }

    // ---- 33: waitsFor

    @Says(promise = 33, value = "`booking`: a booking")
    static void waitsForWantsABooking() {
        for (int booking : new int[] {-1, 4, Edge.MIN, Edge.MAX}) {
            Edge.still(PlacingEdges::queue, x -> x.waitsFor(booking, 1), Edge.NO_INDEX);
            Edge.still(PlacingEdges::queue, x -> x.waitsFor(booking, 0), Edge.NO_INDEX);
        }
        Edge.still(PlacingEdges::queue, x -> x.waitsFor(3, 200), 11);
        Edge.still(PlacingEdges::queue, x -> x.waitsFor(0, 200), 0);
        Edge.still(SpanLodge::new, x -> x.waitsFor(0, 1), Edge.NO_INDEX);
    }

    @Says(promise = 33, value = "`most`: 1 to 200")
    static void waitsForLooks1To200TicksAhead() {
        Edge.still(PlacingEdges::queue, x -> x.waitsFor(1, 1), -1);
        for (int most : new int[] {0, -1, 201, Edge.MIN, Edge.MAX}) {
            Edge.still(PlacingEdges::queue, x -> x.waitsFor(1, most), Edge.NO_ARGUMENT);
            Edge.still(PlacingEdges::queue, x -> x.waitsFor(0, most), Edge.NO_ARGUMENT);
        }
    }

    @Says(promise = 33, value = "Returns the number of ticks; 0 if it does not wait now; NONE if not within so many ticks.")
    static void waitsForTellsTheTickInWhichItIsPlaced() {
        Edge.Recipe recipe = () -> {
            SpanLodge x = Edge.owners(2);
            x.set(0, 3);
            Edge.put(x, 0, 0, 1, 50, 2, 0, 1);
            Edge.put(x, 1, 0, 1, 50, 20, 10, 1);
            return x;
        };
        Edge.still(recipe, x -> x.waitsFor(1, 6), 6);
        Edge.still(recipe, x -> x.waitsFor(1, 200), 6);
        Edge.still(recipe, x -> x.waitsFor(1, 5), -1);
    }

    @Says(promise = 33, value = "Returns the number of ticks; 0 if it does not wait now; NONE if not within so many ticks.")
    static void waitsForTellsTheTickInWhichItExpires() {
        Edge.still(() -> longWait(99), x -> x.waitsFor(1, 200), 200);
        Edge.still(() -> longWait(99), x -> x.waitsFor(1, 199), -1);
        Edge.still(() -> longWait(98), x -> x.waitsFor(1, 199), 199);
    }

    /** The booking 1 waits up to the time 100 + flex: its byte is held from 0 to 297. */
    private static SpanLodge longWait(int flex) {
        SpanLodge x = Edge.owners(1);
        Edge.put(x, 0, 0, 1, 99, 0, 0, 1);
        x.arrive(0);
        x.extend(0, 99);
        x.extend(0, 99);
        Edge.put(x, 0, 0, 1, 1, 100, flex, 1);
        return x;
    }

    @Says(promise = 33, value = "0 if it does not wait now")
    static void waitsForIs0InEachOtherState() {
        SpanLodge x = Edge.free(1);
        Edge.put(x, 0, 0, 1, 9, 0, 0, 1);
        Edge.put(x, 0, 1, 1, 1, 0, 0, 1);
        Edge.put(x, 0, 2, 1, 9, 0, 0, 1);
        Edge.put(x, 0, 2, 1, 9, 1, 0, 1);
        Edge.put(x, 0, 3, 1, 9, 0, 0, 1);
        Edge.put(x, 0, 4, 1, 9, 50, 0, 1);
        x.arrive(0);
        x.arrive(1);
        x.cancel(4);
        x.pass(7);
        int[] states = {2, 3, 5, 6, 4, 1};
        for (int b = 0; b < states.length; b++) {
            Edge.due(x.booking(b, 7), states[b]);
            Edge.due(x.waitsFor(b, 200), 0);
        }
    }

    @Says(promise = 33, value = "NONE if not within so many ticks.")
    static void waitsForIsNoneBehind200Ticks() {
        SpanLodge x = Edge.owners(1);
        Edge.put(x, 0, 0, 1, 99, 200, 0, 1);
        Edge.put(x, 0, 0, 1, 1, 200, 0, 1);
        Edge.due(x.waitsFor(1, 200), -1);
        x.pass(1);
        Edge.due(x.waitsFor(1, 200), 200);
    }

    // ---- 34: ahead

    @Says(promise = 34, value = "`ticks`: 1 to 200")
    static void aheadLooks1To200TicksAhead() {
        for (int ticks : new int[] {0, -1, 201, Edge.MIN, Edge.MAX}) {
            Edge.still(Edge::busy, x -> x.ahead(ticks, 0), Edge.NO_ARGUMENT);
        }
        SpanLodge x = Edge.owners(1);
        x.set(0, 0);
        x.book(0, 199, 0, 1);
        x.book(0, 200, 0, 1);
        x.book(0, 0, 0, 1);
        Edge.due(x.ahead(1, 0), 1);
        Edge.due(x.ahead(199, 0), 1);
        Edge.due(x.ahead(200, 0), 2);
    }

    @Says(promise = 34, value = "`what`: 0: bumped bookings; 1: expired ones; 2: bookings that are placed; 3: held ones "
            + "that are done")
    static void aheadTellsFourNumbers() {
        Edge.still(Edge::busy, x -> x.ahead(1, -1), Edge.NO_ARGUMENT);
        Edge.still(Edge::busy, x -> x.ahead(1, 4), Edge.NO_ARGUMENT);
        Edge.still(Edge::busy, x -> x.ahead(1, Edge.MIN), Edge.NO_ARGUMENT);
        Edge.still(Edge::busy, x -> x.ahead(1, Edge.MAX), Edge.NO_ARGUMENT);
        for (int what = 0; what < 4; what++) {
            int which = what;
            Edge.still(() -> Edge.owners(1), x -> x.ahead(200, which), 0);
        }
    }

    /** How many ticks it takes until each of the four has happened once. */
    private static void happensIn(Edge.Recipe recipe, int what, int tick) {
        Edge.still(recipe, x -> x.ahead(tick - 1, what), 0);
        Edge.still(recipe, x -> x.ahead(tick, what), 1);
        Edge.still(recipe, x -> x.ahead(200, what), 1);
    }

    @Says(promise = 34, value = "Returns how many there are in these ticks, if only time passes")
    static void aheadTellsWhatIsBumped() {
        happensIn(() -> {
            SpanLodge x = Edge.owners(1);
            x.book(0, 2, 0, 1);
            return x;
        }, 0, 8);
    }

    @Says(promise = 34, value = "Returns how many there are in these ticks, if only time passes")
    static void aheadTellsWhatExpiresAndWhatIsDone() {
        Edge.Recipe recipe = () -> {
            SpanLodge x = Edge.owners(1);
            Edge.put(x, 0, 0, 1, 20, 0, 0, 1);
            x.arrive(0);
            x.book(0, 6, 4, 1);
            return x;
        };
        happensIn(recipe, 1, 11);
        happensIn(recipe, 3, 20);
    }

    @Says(promise = 34, value = "Returns how many there are in these ticks, if only time passes")
    static void aheadTellsWhatIsPlaced() {
        Edge.Recipe recipe = () -> {
            SpanLodge x = Edge.owners(2);
            Edge.put(x, 0, 0, 1, 60, 2, 0, 1);
            Edge.put(x, 1, 0, 1, 9, 20, 0, 1);
            return x;
        };
        happensIn(recipe, 2, 8);
        Edge.still(recipe, x -> x.ahead(25, 0), 1);
        Edge.still(recipe, x -> x.ahead(26, 0), 2);
    }

    @Says(promise = 34, value = "Returns how many there are in these ticks, if only time passes")
    static void aheadTellsOnlyWhatFindsAPlace() {
        Edge.Recipe recipe = () -> {
            SpanLodge x = Edge.free(2);
            Edge.put(x, 0, 0, 1, 60, 2, 0, 1);
            x.book(1, 20, 0, 1);
            x.book(1, 20, 0, 1);
            x.book(1, 40, 0, 1);
            return x;
        };
        Edge.still(recipe, x -> x.ahead(8, 2), 1);
        Edge.still(recipe, x -> x.ahead(30, 2), 2);
        Edge.still(recipe, x -> x.ahead(200, 2), 2);
        Edge.still(recipe, x -> x.ahead(200, 1), 1);
    }

    @Says(promise = 34, value = "Returns how many there are in these ticks, if only time passes")
    static void whatWasPlacedBeforeIsNotTold() {
        Edge.Recipe recipe = () -> {
            SpanLodge x = queue();
            x.cancel(0);
            x.pass(1);
            return x;
        };
        Edge.still(recipe, x -> x.ahead(1, 2), 0);
        Edge.still(recipe, x -> x.ahead(1, 1), 0);
        Edge.still(() -> Edge.at(queue(), 10), x -> x.ahead(1, 1), 3);
        Edge.still(() -> Edge.at(queue(), 11), x -> x.ahead(1, 1), 0);
    }

    @Says(promise = 34, value = "(also beyond the time 20000).")
    static void aheadGoesBeyondTheTime20000() {
        SpanLodge x = Edge.at(Edge.owners(1), 9999);
        Edge.put(x, 0, 0, 1, 99, 9999, 0, 1);
        x.arrive(0);
        for (int i = 0; i < 100; i++) {
            x.extend(0, 99);
        }
        x.extend(0, 52);
        Edge.at(x, 20000);
        Edge.due(Edge.place(x, 0), "2 9999 20050");
        Edge.due(x.ahead(49, 3), 0);
        Edge.due(x.ahead(50, 3), 1);
        Edge.due(x.ahead(200, 3), 1);
        Edge.due(x.count(7), 20000);
        Edge.due(x.booking(0, 7), 2);
    }
}
