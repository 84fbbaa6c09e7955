/** Bookings: the promises 13, 14, 15 and 17. */
public final class BookingEdges {
    private BookingEdges() {
    }

    public static void main(String[] args) {
        Edge.run(BookingEdges.class);
    }

    private static SpanLodge sized(int size) {
        SpanLodge x = new SpanLodge();
        Checks.load(x, "size " + size + ";owner 0;");
        return x;
    }

    // ---- 13: draft

    private static void draftTakes(int size, int from, int length, int duration) {
        SpanLodge x = sized(size);
        x.draft(from, length, duration);
        Edge.due(Edge.draftOf(x), from + " " + length + " " + duration);
    }

    @Says(promise = 13, value = "`from`: a byte")
    static void aDraftBeginsWithAByteOfTheFile() {
        draftTakes(32, 0, 1, 1);
        draftTakes(32, 31, 1, 1);
        draftTakes(1, 0, 1, 1);
        draftTakes(64, 63, 1, 1);
        for (int from : new int[] {-1, 32, Edge.MIN, Edge.MAX}) {
            Edge.still(Edge::busy, Edge.draft(from, 1, 1), Edge.NO_INDEX);
        }
        Edge.still(() -> sized(1), Edge.draft(1, 1, 1), Edge.NO_INDEX);
        Edge.still(() -> sized(64), Edge.draft(64, 1, 1), Edge.NO_INDEX);
    }

    @Says(promise = 13, value = "if there is no such byte, or the span does not end within the file")
    static void aDraftMayEndWithTheFile() {
        draftTakes(32, 0, 32, 1);
        draftTakes(32, 30, 2, 1);
        draftTakes(64, 0, 64, 1);
        Edge.still(Edge::busy, Edge.draft(0, 33, 1), Edge.NO_INDEX);
        Edge.still(Edge::busy, Edge.draft(30, 3, 1), Edge.NO_INDEX);
        Edge.still(Edge::busy, Edge.draft(31, 2, 1), Edge.NO_INDEX);
        Edge.still(() -> sized(1), Edge.draft(0, 2, 1), Edge.NO_INDEX);
    }

    @Says(promise = 13, value = "if there is no such byte, or the span does not end within the file")
    static void aSpanDoesNotWrapAround() {
        Edge.still(Edge::busy, Edge.draft(0, Edge.MAX, 1), Edge.NO_INDEX);
        Edge.still(Edge::busy, Edge.draft(1, Edge.MAX, 1), Edge.NO_INDEX);
        Edge.still(Edge::busy, Edge.draft(31, Edge.MAX, 1), Edge.NO_INDEX);
        Edge.still(Edge::busy, Edge.draft(Edge.MAX, Edge.MAX, 1), Edge.NO_INDEX);
    }

    @Says(promise = 13, value = "`length`: 1 or more")
    static void aDraftHasALengthOf1AtLeast() {
        Edge.still(Edge::busy, Edge.draft(0, 0, 1), Edge.NO_ARGUMENT);
        Edge.still(Edge::busy, Edge.draft(31, 0, 1), Edge.NO_ARGUMENT);
        Edge.still(Edge::busy, Edge.draft(5, -1, 1), Edge.NO_ARGUMENT);
        Edge.still(Edge::busy, Edge.draft(5, Edge.MIN, 1), Edge.NO_ARGUMENT);
    }

    @Says(promise = 13, value = "`duration`: 1 to 99")
    static void aDraftHasADurationOf1To99() {
        draftTakes(32, 3, 4, 1);
        draftTakes(32, 3, 4, 99);
        for (int duration : new int[] {0, -1, 100, Edge.MIN, Edge.MAX}) {
            Edge.still(Edge::busy, Edge.draft(0, 1, duration), Edge.NO_ARGUMENT);
        }
    }

    @Says(promise = 13, value = "Throws `IndexOutOfBoundsException` if there is no such byte")
    static void aWrongByteIsToldAheadOfAWrongNumber() {
        Edge.still(Edge::busy, Edge.draft(32, 0, 1), Edge.NO_INDEX);
        Edge.still(Edge::busy, Edge.draft(-1, 1, 100), Edge.NO_INDEX);
        Edge.still(Edge::busy, Edge.draft(31, 2, 0), Edge.NO_INDEX);
        Edge.still(Edge::busy, Edge.draft(0, 0, 0), Edge.NO_ARGUMENT);
    }

    @Says(promise = 13, value = "Sets the span and the DURATION of the next bookings.")
    static void aDraftStaysForAllNextBookings() {
        SpanLodge x = Edge.owners(1);
        x.book(0, 0, 0, 1);
        x.draft(3, 4, 5);
        x.book(0, 10, 0, 1);
        x.book(0, 20, 0, 1);
        Edge.due(Edge.rowOf(x, 0), "0 0 1 1 0 0 1 1 0 1 20 -1");
        Edge.due(Edge.rowOf(x, 1), "0 3 4 5 10 0 1 1 10 15 20 -1");
        Edge.due(Edge.rowOf(x, 2), "0 3 4 5 20 0 1 1 20 25 20 -1");
    }

    // ---- 14: book

    @Says(promise = 14, value = "Throws `IndexOutOfBoundsException` if there is no such owner")
    static void bookWantsAnOwner() {
        for (int none : new int[] {-1, 3, 8, Edge.MIN, Edge.MAX}) {
            Edge.still(Edge::busy, x -> x.book(none, 5, 0, 1), Edge.NO_INDEX);
            Edge.still(Edge::busy, x -> x.book(none, -1, 100, 0), Edge.NO_INDEX);
        }
        Edge.still(SpanLodge::new, x -> x.book(0, 5, 0, 1), Edge.NO_INDEX);
        Edge.still(Edge::full, x -> x.book(8, 5, 0, 1), Edge.NO_INDEX);
        Edge.due(Edge.owners(8).book(7, 5, 0, 1), 0);
    }

    @Says(promise = 14, value = "`wish`: 0 to 9999")
    static void bookTakesAWishOf0To9999() {
        Edge.due(Edge.owners(1).book(0, 0, 0, 1), 0);
        Edge.due(Edge.owners(1).book(0, 9999, 0, 1), 0);
        for (int wish : new int[] {-1, 10000, Edge.MIN, Edge.MAX}) {
            Edge.still(Edge::busy, x -> x.book(0, wish, 99, 1), Edge.NO_ARGUMENT);
        }
    }

    @Says(promise = 14, value = "`flex`: 0 to 99")
    static void bookTakesAFlexOf0To99() {
        Edge.due(Edge.owners(1).book(0, 5, 0, 1), 0);
        Edge.due(Edge.owners(1).book(0, 5, 99, 1), 0);
        for (int flex : new int[] {-1, 100, Edge.MIN, Edge.MAX}) {
            Edge.still(Edge::busy, x -> x.book(0, 9, flex, 1), Edge.NO_ARGUMENT);
        }
    }

    @Says(promise = 14, value = "`urgency`: 1 to 9")
    static void bookTakesAnUrgencyOf1To9() {
        Edge.due(Edge.owners(1).book(0, 5, 0, 1), 0);
        Edge.due(Edge.owners(1).book(0, 5, 0, 9), 0);
        for (int urgency : new int[] {-1, 0, 10, Edge.MIN, Edge.MAX}) {
            Edge.still(Edge::busy, x -> x.book(0, 9, 0, urgency), Edge.NO_ARGUMENT);
        }
    }

    @Says(promise = 14, value = "or wish + flex is less than the present time")
    static void wishAndFlexMayEndWithThePresentTime() {
        Edge.Recipe now = () -> Edge.at(Edge.owners(1), 100);
        Edge.due(now.make().book(0, 50, 50, 1), 0);
        Edge.due(now.make().book(0, 100, 0, 1), 0);
        Edge.due(now.make().book(0, 1, 99, 1), 0);
        Edge.still(now, x -> x.book(0, 50, 49, 1), Edge.NO_ARGUMENT);
        Edge.still(now, x -> x.book(0, 99, 0, 1), Edge.NO_ARGUMENT);
        Edge.still(now, x -> x.book(0, 0, 99, 1), Edge.NO_ARGUMENT);
    }

    @Says(promise = 14, value = "or wish + flex is less than the present time")
    static void theLatestBookingIsMadeAt10098() {
        SpanLodge x = Edge.at(Edge.owners(1), 10098);
        Edge.due(x.book(0, 9999, 99, 1), 0);
        Edge.due(Edge.place(x, 0), "1 10098 10099");
        Edge.still(() -> Edge.at(Edge.owners(1), 10099), y -> y.book(0, 9999, 99, 1), Edge.NO_ARGUMENT);
    }

    @Says(promise = 14, value = "Throws `IllegalStateException` if there are 40 bookings")
    static void a41stBookingIsRefused() {
        SpanLodge x = Edge.full();
        x.cancel(0);
        x.clean();
        Edge.due(x.count(6), 39);
        Edge.due(x.book(0, 50, 0, 1), 39);
        Edge.still(Edge::full, y -> y.book(0, 50, 0, 1), Edge.NO_STATE);
        Edge.still(() -> Edge.at(Edge.full(), 100), y -> y.book(0, 200, 0, 1), Edge.NO_STATE);
    }

    private static SpanLodge limited(int limit, int bookings) {
        SpanLodge x = Edge.owners(2);
        x.set(2, limit);
        for (int i = 0; i < bookings; i++) {
            x.book(0, i, 0, 1);
        }
        return x;
    }

    @Says(promise = 14, value = "the owner has LIMIT bookings or more that wait or are live")
    static void anOwnerHasLimitBookingsAtMost() {
        for (int limit : new int[] {1, 4, 9}) {
            Edge.due(limited(limit, limit).count(6), limit);
            Edge.still(() -> limited(limit, limit), x -> x.book(0, 50, 0, 1), Edge.NO_STATE);
            Edge.due(limited(limit, limit).book(1, 50, 0, 1), limit);
        }
    }

    @Says(promise = 14, value = "the owner has LIMIT bookings or more that wait or are live")
    static void anOwnerMayHaveMoreThanTheLimit() {
        for (int limit = 1; limit <= 3; limit++) {
            int lower = limit;
            Edge.still(() -> {
                SpanLodge x = limited(3, 3);
                x.set(2, lower);
                return x;
            }, x -> x.book(0, 50, 0, 1), Edge.NO_STATE);
        }
        SpanLodge x = limited(3, 3);
        x.set(2, 4);
        Edge.due(x.book(0, 50, 0, 1), 3);
    }

    @Says(promise = 14, value = "the owner has LIMIT bookings or more that wait or are live")
    static void endedBookingsDoNotCountForTheLimit() {
        SpanLodge x = Edge.states();
        x.set(2, 3);
        Edge.still(() -> {
            SpanLodge y = Edge.states();
            y.set(2, 3);
            return y;
        }, y -> y.book(0, 50, 0, 1), Edge.NO_STATE);
        x.set(2, 4);
        Edge.due(x.book(0, 50, 0, 1), 8);
    }

    private static SpanLodge broken(int strikes, int broken) {
        SpanLodge x = Edge.owners(2);
        x.set(3, 9);
        for (int i = 0; i < broken; i++) {
            x.cancel(x.book(0, 0, 0, 1));
        }
        x.set(3, strikes);
        return x;
    }

    @Says(promise = 14, value = "or it is barred")
    static void aBarredOwnerIsRefused() {
        Edge.due(broken(3, 2).book(0, 5, 0, 1), 2);
        Edge.still(() -> broken(3, 3), x -> x.book(0, 5, 0, 1), Edge.NO_STATE);
        Edge.still(() -> broken(1, 3), x -> x.book(0, 5, 0, 1), Edge.NO_STATE);
        Edge.due(broken(1, 3).book(1, 5, 0, 1), 3);
        Edge.due(broken(9, 8).book(0, 5, 0, 1), 8);
        Edge.still(() -> broken(9, 9), x -> x.book(0, 5, 0, 1), Edge.NO_STATE);
    }

    @Says(promise = 14, value = "Throws `IllegalArgumentException` if wish, flex or urgency is out of range")
    static void aWrongNumberIsToldAheadOfTheState() {
        Edge.still(Edge::full, x -> x.book(0, -1, 0, 1), Edge.NO_ARGUMENT);
        Edge.still(() -> limited(1, 1), x -> x.book(0, 5, 100, 1), Edge.NO_ARGUMENT);
        Edge.still(() -> broken(1, 1), x -> x.book(0, 5, 0, 10), Edge.NO_ARGUMENT);
        Edge.still(() -> Edge.at(Edge.full(), 50), x -> x.book(0, 49, 0, 1), Edge.NO_ARGUMENT);
    }

    @Says(promise = 14, value = "it is booked at its best time; without one it waits.")
    static void itWaitsWithoutABestTime() {
        SpanLodge x = Edge.owners(2);
        Edge.put(x, 0, 0, 4, 10, 5, 0, 1);
        Edge.put(x, 1, 3, 4, 10, 5, 9, 1);
        Edge.due(Edge.place(x, 1), "0 -1 -1");
        Edge.put(x, 1, 3, 4, 10, 5, 10, 1);
        Edge.due(Edge.place(x, 2), "1 15 25");
    }

    @Says(promise = 14, value = "(No other booking is placed behind it.)")
    static void otherBookingsStayAsTheyAre() {
        SpanLodge x = Edge.owners(2);
        Edge.put(x, 0, 0, 4, 10, 5, 0, 1);
        Edge.put(x, 1, 3, 4, 10, 5, 9, 1);
        String before = Edge.rowsOf(x, 0, 2);
        x.book(0, 40, 0, 1);
        x.book(0, 6, 0, 9);
        Edge.due(Edge.rowsOf(x, 0, 2), before);
    }

    @Says(promise = 14, value = "Returns its number.")
    static void bookTellsTheNextNumber() {
        SpanLodge x = Edge.owners(1);
        for (int i = 0; i < 4; i++) {
            Edge.due(x.book(0, 5, 0, 1), i);
        }
        x.cancel(0);
        x.clean();
        Edge.due(x.book(0, 5, 0, 1), 3);
    }

    // ---- 15: booking

    @Says(promise = 15, value = "Throws `IndexOutOfBoundsException` if there is no such booking")
    static void bookingWantsABooking() {
        for (int none : new int[] {-1, 8, 40, Edge.MIN, Edge.MAX}) {
            Edge.still(Edge::states, x -> x.booking(none, 0), Edge.NO_INDEX);
            Edge.still(Edge::states, x -> x.booking(none, 12), Edge.NO_INDEX);
        }
        Edge.still(SpanLodge::new, x -> x.booking(0, 0), Edge.NO_INDEX);
        Edge.still(Edge::full, x -> x.booking(39, 0), 7);
        Edge.still(Edge::full, x -> x.booking(40, 0), Edge.NO_INDEX);
    }

    @Says(promise = 15, value = "Throws `IllegalArgumentException` if what is out of range")
    static void bookingTells0To11() {
        for (int what : new int[] {-1, 12, Edge.MIN, Edge.MAX}) {
            Edge.still(Edge::states, x -> x.booking(0, what), Edge.NO_ARGUMENT);
        }
        int[] row = {1, 10, 2, 30, 20, 0, 1, 1, 20, 50, 20, -1};
        for (int what = 0; what <= 11; what++) {
            int which = what;
            Edge.still(Edge::states, x -> x.booking(7, which), row[which]);
        }
    }

    @Says(promise = 15, value = "3: DURATION as it was booked;")
    static void theDurationStaysAsItWasBooked() {
        SpanLodge x = Edge.owners(1);
        Edge.put(x, 0, 0, 1, 5, 0, 0, 1);
        x.extend(0, 9);
        Edge.due(x.booking(0, 3), 5);
        x.arrive(0);
        x.pass(3);
        x.leave(0);
        Edge.due(x.booking(0, 3), 5);
        Edge.due(Edge.place(x, 0), "3 0 3");
    }

    @Says(promise = 15, value = "8: BEGIN (NONE if it waits, or was waiting when it was cancelled or expired); 9: END "
            + "(likewise);")
    static void whoWaitsHasNoBeginAndEnd() {
        SpanLodge x = Edge.free(1);
        Edge.put(x, 0, 0, 1, 20, 0, 0, 1);
        Edge.put(x, 0, 0, 1, 20, 0, 0, 1);
        Edge.put(x, 0, 0, 1, 20, 2, 0, 1);
        x.arrive(0);
        Edge.due(Edge.place(x, 1), "0 -1 -1");
        x.cancel(2);
        Edge.due(Edge.place(x, 2), "4 -1 -1");
        x.pass(1);
        Edge.due(Edge.place(x, 1), "6 -1 -1");
    }

    @Says(promise = 15, value = "8: BEGIN (NONE if it waits, or was waiting when it was cancelled or expired); 9: END "
            + "(likewise);")
    static void whoWasBookedKeepsBeginAndEnd() {
        SpanLodge x = Edge.free(1);
        Edge.put(x, 0, 0, 1, 20, 9, 0, 1);
        Edge.put(x, 0, 1, 1, 20, 0, 0, 1);
        Edge.put(x, 0, 2, 1, 3, 0, 0, 1);
        x.arrive(2);
        x.cancel(0);
        x.pass(6);
        Edge.due(Edge.place(x, 0), "4 9 29");
        Edge.due(Edge.place(x, 1), "5 0 20");
        Edge.due(Edge.place(x, 2), "3 0 3");
    }

    @Says(promise = 15, value = "8: BEGIN (NONE if it waits, or was waiting when it was cancelled or expired); 9: END "
            + "(likewise);")
    static void whoIsEvictedAndCancelledThenHasNone() {
        SpanLodge x = Edge.free(2);
        x.set(1, 99);
        x.cancel(x.book(0, 0, 0, 1));
        x.clean();
        Edge.put(x, 0, 0, 1, 20, 9, 0, 1);
        Edge.put(x, 1, 0, 1, 20, 9, 0, 1);
        x.evict(0);
        Edge.due(Edge.place(x, 0), "0 -1 -1");
        x.cancel(0);
        Edge.due(Edge.place(x, 0), "4 -1 -1");
        x.evict(1);
        Edge.due(Edge.place(x, 1), "1 9 29");
    }

    @Says(promise = 15, value = "10: its joy (0 in the states 2 to 6);")
    static void onlyABookedOneHasJoy() {
        SpanLodge x = Edge.states();
        for (int booking = 0; booking < 8; booking++) {
            boolean isBooked = booking == 0 || booking == 7;
            Edge.due(x.booking(booking, 10), isBooked ? 20 : 0);
        }
    }

    @Says(promise = 15, value = "11: its best time now, if it waits (NONE without one, and in other states)")
    static void thereIsNoBestTimeInOtherStates() {
        SpanLodge x = Edge.states();
        for (int booking = 0; booking < 8; booking++) {
            Edge.due(x.booking(booking, 11), -1);
        }
    }

    // ---- 17: clean

    @Says(promise = 17, value = "Returns how many were taken away.")
    static void cleanTellsHowManyThereWere() {
        Edge.still(SpanLodge::new, SpanLodge::clean, 0);
        Edge.still(Edge::full, SpanLodge::clean, 0);
        Edge.due(Edge.states().clean(), 4);
        SpanLodge x = Edge.at(Edge.full(), 60);
        Edge.due(x.clean(), 40);
        Edge.due(x.count(6), 0);
        Edge.due(x.clean(), 0);
    }

    @Says(promise = 17, value = "Takes all bookings away that neither wait nor are live")
    static void whoWaitsOrIsLiveStays() {
        SpanLodge x = Edge.states();
        int[] stay = {0, 1, 2, 7};
        String[] rows = new String[stay.length];
        for (int i = 0; i < stay.length; i++) {
            rows[i] = Edge.rowOf(x, stay[i]);
        }
        x.clean();
        Edge.due(x.count(6), 4);
        for (int i = 0; i < stay.length; i++) {
            Edge.due(Edge.rowOf(x, i), rows[i]);
        }
        Edge.due(Edge.answerOf(x, y -> y.booking(4, 0)), Edge.NO_INDEX);
    }

    @Says(promise = 17, value = "those behind them get lower numbers.")
    static void numbersBehindAreLower() {
        SpanLodge x = Edge.full();
        x.cancel(0);
        x.cancel(20);
        Edge.due(x.clean(), 2);
        Edge.due(x.booking(0, 4), 1);
        Edge.due(x.booking(18, 4), 19);
        Edge.due(x.booking(19, 4), 21);
        Edge.due(x.booking(37, 4), 39);
        SpanLodge y = Edge.full();
        y.cancel(39);
        Edge.due(y.clean(), 1);
        Edge.due(y.booking(38, 4), 38);
        Edge.due(y.count(6), 39);
    }

    @Says(promise = 17, value = "Takes all bookings away that neither wait nor are live")
    static void cleanKeepsTheRecords() {
        SpanLodge x = Edge.states();
        String before = records(x);
        x.clean();
        Edge.due(records(x), before);
        Edge.due(x.owner(0, 1), 1);
        Edge.due(x.owner(1, 2), 1);
        Edge.due(x.owner(1, 5), 1);
    }

    private static String records(SpanLodge x) {
        StringBuilder s = new StringBuilder();
        for (int owner = 0; owner < x.count(5); owner++) {
            for (int what = 0; what <= 10; what++) {
                s.append(x.owner(owner, what)).append(' ');
            }
        }
        return s.append(x.count(7)).append(' ').append(x.count(13)).toString();
    }

    @Says(promise = 17, value = "Takes all bookings away that neither wait nor are live")
    static void aFullObjectHasRoomAgain() {
        SpanLodge x = Edge.at(Edge.full(), 60);
        x.clean();
        x.forgive(0);
        Edge.due(x.book(0, 70, 0, 1), 0);
        Edge.due(x.pass(20), 1);
        Edge.due(x.owner(0, 2), 1);
    }
}
