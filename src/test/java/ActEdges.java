/** Acts on one booking: the promises 18 to 22, and the reasons of the terms. */
public final class ActEdges {
    private ActEdges() {
    }

    public static void main(String[] args) {
        Edge.run(ActEdges.class);
    }

    /** Makes an act on a booking. */
    interface Act {
        Object on(SpanLodge x, int booking);
    }

    private static void wantsABooking(Act act) {
        for (int none : new int[] {-1, 8, 40, Edge.MIN, Edge.MAX}) {
            Edge.still(Edge::states, x -> act.on(x, none), Edge.NO_INDEX);
        }
        Edge.still(SpanLodge::new, x -> act.on(x, 0), Edge.NO_INDEX);
    }

    /** The act is refused with the reason 1 in all states but some. */
    private static void isRefusedBut(Act act, String states) {
        SpanLodge made = Edge.states();
        for (int state = 0; state <= 6; state++) {
            int booking = Edge.in(made, state);
            if (states.indexOf('0' + state) < 0) {
                Edge.still(Edge::states, x -> act.on(x, booking), 1);
            } else {
                Edge.due(Edge.answerOf(Edge.states(), x -> act.on(x, booking)).equals(1), false);
            }
        }
    }

    private static SpanLodge one(int from, int length, int duration, int wish) {
        SpanLodge x = Edge.free(2);
        Edge.put(x, 0, from, length, duration, wish, 0, 1);
        return x;
    }

    private static SpanLodge arrived(SpanLodge x, int booking) {
        Edge.due(x.arrive(booking), 0);
        return x;
    }

    // ---- 18: arrive

    @Says(promise = 18, value = "Throws `IndexOutOfBoundsException` if there is no such booking")
    static void arriveWantsABooking() {
        wantsABooking(SpanLodge::arrive);
    }

    @Says(promise = 18, value = "Returns 0, or the reason (1 if it is not booked;")
    static void onlyABookedOneIsArrivedAt() {
        isRefusedBut(SpanLodge::arrive, "1");
    }

    @Says(promise = 18, value = "2 if the present time is less than BEGIN).")
    static void arriveIsNotTooEarlyAtBegin() {
        for (int begin : new int[] {1, 10, 200}) {
            Edge.still(() -> Edge.at(one(0, 1, 5, begin), begin - 1), x -> x.arrive(0), 2);
            Edge.due(Edge.at(one(0, 1, 5, begin), begin).arrive(0), 0);
        }
        Edge.due(one(0, 1, 5, 0).arrive(0), 0);
    }

    @Says(promise = 0, value = "An act is done, or refused with a reason (the first one that is named at the method); it "
            + "changes nothing then.")
    static void theWrongStateIsToldAheadOfTheTime() {
        Edge.still(() -> {
            SpanLodge x = one(0, 1, 5, 10);
            x.cancel(0);
            return x;
        }, x -> x.arrive(0), 1);
        Edge.still(() -> {
            SpanLodge x = one(0, 1, 5, 10);
            x.book(0, 10, 0, 1);
            return x;
        }, x -> x.arrive(1), 1);
    }

    @Says(promise = 18, value = "The owner of a booking has come: it is held.")
    static void whoHasComeHoldsIt() {
        SpanLodge x = arrived(Edge.at(one(0, 1, 5, 10), 12), 0);
        Edge.due(Edge.rowOf(x, 0), "0 0 1 5 10 0 1 2 10 15 0 -1");
        Edge.due(x.mayWrite(0, 0, 1), true);
        Edge.due(x.owner(0, 1), 0);
    }

    @Says(promise = 18, value = "It came late by the present time less BEGIN.")
    static void lateTicksAreThoseBehindBegin() {
        Edge.due(arrived(Edge.at(one(0, 1, 9, 10), 10), 0).owner(0, 6), 0);
        Edge.due(arrived(Edge.at(one(0, 1, 9, 10), 11), 0).owner(0, 6), 1);
        Edge.due(arrived(Edge.at(one(0, 1, 9, 10), 15), 0).owner(0, 6), 5);
        SpanLodge x = one(0, 1, 9, 0);
        x.set(0, 50);
        Edge.due(arrived(Edge.at(x, 50), 0).owner(0, 6), 50);
    }

    // ---- 19: leave

    @Says(promise = 19, value = "Throws `IndexOutOfBoundsException` if there is no such booking")
    static void leaveWantsABooking() {
        wantsABooking(SpanLodge::leave);
    }

    @Says(promise = 19, value = "Returns 0, or the reason (1 if it is not held).")
    static void onlyAHeldOneIsLeft() {
        isRefusedBut(SpanLodge::leave, "2");
    }

    @Says(promise = 19, value = "it is done, a promise is kept, and its END is the present time.")
    static void theEndIsThePresentTime() {
        SpanLodge atOnce = arrived(one(0, 1, 5, 0), 0);
        Edge.due(atOnce.leave(0), 0);
        Edge.due(Edge.place(atOnce, 0), "3 0 0");
        Edge.due(atOnce.owner(0, 1), 1);
        SpanLodge last = Edge.at(arrived(one(0, 1, 5, 0), 0), 4);
        Edge.due(last.leave(0), 0);
        Edge.due(Edge.place(last, 0), "3 0 4");
        SpanLodge behind = arrived(Edge.at(one(0, 1, 2, 0), 4), 0);
        Edge.due(behind.leave(0), 0);
        Edge.due(Edge.place(behind, 0), "3 0 4");
        Edge.due(behind.owner(0, 1), 1);
        behind.pass(9);
        Edge.due(behind.owner(0, 1), 1);
    }

    // ---- 20: extend

    @Says(promise = 20, value = "Throws `IndexOutOfBoundsException` if there is no such booking")
    static void extendWantsABooking() {
        wantsABooking((x, booking) -> x.extend(booking, 1));
        wantsABooking((x, booking) -> x.extend(booking, 0));
    }

    @Says(promise = 20, value = "`ticks`: 1 to 99")
    static void extendTakes1To99Ticks() {
        SpanLodge x = one(0, 1, 5, 10);
        Edge.due(x.extend(0, 1), 0);
        Edge.due(Edge.place(x, 0), "1 10 16");
        Edge.due(x.extend(0, 99), 0);
        Edge.due(Edge.place(x, 0), "1 10 115");
        for (int ticks : new int[] {0, -1, 100, Edge.MIN, Edge.MAX}) {
            Edge.still(Edge::states, y -> y.extend(0, ticks), Edge.NO_ARGUMENT);
            Edge.still(Edge::states, y -> y.extend(3, ticks), Edge.NO_ARGUMENT);
        }
    }

    @Says(promise = 20, value = "Returns 0, or the reason (1 if it is not live;")
    static void onlyALiveOneIsExtended() {
        isRefusedBut((x, booking) -> x.extend(booking, 1), "12");
    }

    @Says(promise = 20, value = "Lets a live booking end later.")
    static void aHeldOneEndsLater() {
        SpanLodge x = arrived(one(0, 1, 5, 0), 0);
        Edge.due(x.extend(0, 2), 0);
        x.pass(6);
        Edge.due(Edge.place(x, 0), "2 0 7");
        x.pass(1);
        Edge.due(Edge.place(x, 0), "3 0 7");
    }

    private static SpanLodge followed(int from, int length, int begin) {
        SpanLodge x = one(4, 4, 5, 10);
        Edge.put(x, 1, from, length, 5, begin, 0, 1);
        Edge.due(x.booking(1, 7), 1);
        return x;
    }

    @Says(promise = 20, value = "3 if it would clash with another live one).")
    static void itMayEndWhereAnotherBegins() {
        Edge.due(followed(4, 4, 18).extend(0, 3), 0);
        Edge.still(() -> followed(4, 4, 18), x -> x.extend(0, 4), 3);
        Edge.still(() -> followed(4, 4, 18), x -> x.extend(0, 99), 3);
        Edge.still(() -> followed(4, 4, 15), x -> x.extend(0, 1), 3);
        Edge.due(followed(4, 4, 5).extend(0, 99), 0);
    }

    @Says(promise = 20, value = "3 if it would clash with another live one).")
    static void otherBytesAreNotInItsWay() {
        Edge.due(followed(0, 4, 15).extend(0, 99), 0);
        Edge.due(followed(8, 4, 15).extend(0, 99), 0);
        Edge.still(() -> followed(0, 5, 15), x -> x.extend(0, 1), 3);
        Edge.still(() -> followed(7, 4, 15), x -> x.extend(0, 1), 3);
    }

    @Says(promise = 20, value = "3 if it would clash with another live one).")
    static void aHeldOneIsExtendedUpToAnotherToo() {
        Edge.Recipe held = () -> arrived(Edge.at(followed(4, 4, 18), 12), 0);
        Edge.still(held, x -> x.extend(0, 4), 3);
        Edge.due(held.make().extend(0, 3), 0);
    }

    @Says(promise = 20, value = "3 if it would clash with another live one).")
    static void aHeldOneIsInTheWayOfAnother() {
        Edge.still(() -> {
            SpanLodge x = followed(4, 4, 15);
            x.set(0, 50);
            return arrived(Edge.at(x, 16), 1);
        }, x -> x.extend(0, 1), 3);
    }

    @Says(promise = 20, value = "3 if it would clash with another live one).")
    static void endedAndWaitingOnesAreNotInItsWay() {
        SpanLodge x = followed(4, 4, 15);
        x.cancel(1);
        Edge.due(x.extend(0, 9), 0);
        SpanLodge y = one(4, 4, 5, 10);
        Edge.put(y, 1, 4, 4, 9, 14, 0, 1);
        Edge.due(Edge.place(y, 1), "0 -1 -1");
        Edge.due(y.extend(0, 9), 0);
        Edge.due(Edge.place(y, 1), "0 -1 -1");
    }

    @Says(promise = 0, value = "An act is done, or refused with a reason (the first one that is named at the method); it "
            + "changes nothing then.")
    static void theWrongStateIsToldAheadOfAClash() {
        Edge.still(() -> {
            SpanLodge x = one(4, 4, 5, 10);
            Edge.put(x, 1, 4, 4, 9, 14, 0, 1);
            return x;
        }, x -> x.extend(1, 1), 1);
        Edge.still(() -> {
            SpanLodge x = one(4, 4, 5, 10);
            x.cancel(0);
            Edge.put(x, 1, 4, 4, 9, 10, 0, 1);
            return x;
        }, x -> x.extend(0, 1), 1);
    }

    @Says(promise = 20, value = "Throws `IllegalArgumentException` if ticks is out of range")
    static void wrongTicksAreToldAheadOfTheReasons() {
        Edge.still(() -> followed(4, 4, 15), x -> x.extend(0, 100), Edge.NO_ARGUMENT);
        Edge.still(Edge::states, x -> x.extend(4, 0), Edge.NO_ARGUMENT);
    }

    @Says(promise = 20, value = "Lets a live booking end later.")
    static void itMayBeExtendedAgainAndAgain() {
        SpanLodge x = one(0, 1, 99, 9999);
        for (int i = 1; i <= 100; i++) {
            Edge.due(x.extend(0, 99), 0);
        }
        Edge.due(Edge.place(x, 0), "1 9999 19998");
        Edge.due(x.holder(0, 19997), 0);
        Edge.due(x.holder(0, 19998), -1);
        x.evict(0);
        Edge.due(Edge.place(x, 0), "1 9999 10098");
    }

    // ---- 21: cancel

    @Says(promise = 21, value = "Throws `IndexOutOfBoundsException` if there is no such booking")
    static void cancelWantsABooking() {
        wantsABooking(SpanLodge::cancel);
    }

    @Says(promise = 21, value = "Returns 0, or the reason (1 if it neither waits nor is booked).")
    static void onlyAWaitingOrABookedOneIsCancelled() {
        isRefusedBut(SpanLodge::cancel, "01");
        SpanLodge x = Edge.states();
        Edge.due(x.cancel(1), 0);
        Edge.due(x.cancel(0), 0);
        Edge.due(x.booking(1, 7), 4);
        Edge.due(x.booking(0, 7), 4);
    }

    /** The late cancellations behind a cancellation some ticks ahead of BEGIN. */
    private static int late(int notice, int ahead) {
        SpanLodge x = Edge.owners(1);
        x.set(1, notice);
        Edge.at(x, 7);
        x.book(0, 7 + ahead, 0, 1);
        Edge.due(x.cancel(0), 0);
        Edge.due(x.owner(0, 2), 0);
        return x.owner(0, 3);
    }

    @Says(promise = 21, value = "If it is booked and BEGIN is less than the present time plus NOTICE, that is a late "
            + "cancellation.")
    static void itIsLateWithinNotice() {
        for (int notice : new int[] {1, 10, 99}) {
            Edge.due(late(notice, notice), 0);
            Edge.due(late(notice, notice - 1), 1);
        }
        Edge.due(late(0, 0), 0);
    }

    @Says(promise = 21, value = "If it is booked and BEGIN is less than the present time plus NOTICE, that is a late "
            + "cancellation.")
    static void withoutNoticeItIsLateBehindBegin() {
        SpanLodge x = one(0, 1, 9, 5);
        Edge.at(x, 6).cancel(0);
        Edge.due(x.owner(0, 3), 1);
        Edge.due(Edge.place(x, 0), "4 5 14");
    }

    @Says(promise = 21, value = "If it is booked and BEGIN is less than the present time plus NOTICE, that is a late "
            + "cancellation.")
    static void whoWaitsIsNeverLate() {
        SpanLodge x = Edge.owners(2);
        Edge.put(x, 0, 0, 1, 9, 0, 0, 1);
        Edge.put(x, 1, 0, 1, 9, 0, 0, 1);
        Edge.due(x.cancel(1), 0);
        Edge.due(x.owner(1, 3), 0);
        Edge.due(Edge.place(x, 1), "4 -1 -1");
    }

    // ---- 22: evict

    @Says(promise = 22, value = "Throws `IndexOutOfBoundsException` if there is no such booking")
    static void evictWantsABooking() {
        wantsABooking(SpanLodge::evict);
    }

    @Says(promise = 22, value = "Returns 0, or the reason (1 if it is not booked).")
    static void onlyABookedOneIsEvicted() {
        isRefusedBut(SpanLodge::evict, "1");
    }

    @Says(promise = 22, value = "Evicts a booking: it waits again (with its DURATION as it was booked), and counts as "
            + "evicted for its owner.")
    static void whoIsEvictedWaitsAgain() {
        SpanLodge x = Edge.at(one(0, 4, 5, 3), 4);
        x.extend(0, 30);
        Edge.due(x.evict(0), 0);
        Edge.due(Edge.rowOf(x, 0), "0 0 4 5 3 0 1 0 -1 -1 0 -1");
        Edge.due(x.owner(0, 4), 1);
        Edge.due(x.owner(0, 2), 0);
        Edge.due(x.owner(0, 3), 0);
        Edge.due(x.owner(0, 5), 0);
        x.pass(1);
        Edge.due(Edge.place(x, 0), "6 -1 -1");
        Edge.due(x.owner(0, 5), 1);
    }

    @Says(promise = 22, value = "Evicts a booking: it waits again (with its DURATION as it was booked), and counts as "
            + "evicted for its owner.")
    static void whoIsEvictedIsPlacedAtItsBestTimeThen() {
        SpanLodge x = Edge.free(2);
        int moved = Edge.stand(x, 0, 0, 4, 5, 15, 1, 10);
        x.extend(moved, 2);
        Edge.due(x.evict(moved), 0);
        Edge.due(Edge.place(x, moved), "1 15 20");
        Edge.due(x.evict(moved), 0);
        Edge.due(x.owner(0, 4), 2);
    }
}
