/** The terms: bytes and times, owners, bookings and settings. */
public final class TermsEdges {
    private TermsEdges() {
    }

    public static void main(String[] args) {
        Edge.run(TermsEdges.class);
    }

    private static SpanLodge loaded(String text) {
        SpanLodge x = new SpanLodge();
        Checks.load(x, text);
        return x;
    }

    // ---- what it is

    @Says(promise = 0, value = "An object is used for at most 512 calls after it has been made")
    static void the512thCallStillAnswers() {
        SpanLodge x = Edge.owners(1);
        for (int call = 2; call <= 511; call++) {
            x.count(0);
        }
        Edge.due(x.book(0, 3, 0, 1), 0);
    }

    // ---- bytes and times

    @Says(promise = 0, value = "A file has SIZE bytes (1 to 64;")
    static void aFileHas1ByteAtLeast() {
        Edge.due(loaded("size 1;").count(4), 1);
        SpanLodge none = loaded("size 0;");
        Edge.due(none.errorCode(), 2);
        Edge.due(none.count(4), 32);
    }

    @Says(promise = 0, value = "A file has SIZE bytes (1 to 64;")
    static void aFileHas64BytesAtMost() {
        Edge.due(loaded("size 64;").count(4), 64);
        SpanLodge more = loaded("size 65;");
        Edge.due(more.errorCode(), 2);
        Edge.due(more.count(4), 32);
    }

    @Says(promise = 0, value = "32 at first), numbered from 0.")
    static void aFileHas32BytesAtFirst() {
        Edge.due(new SpanLodge().count(4), 32);
        Edge.still(SpanLodge::new, x -> x.holder(31, 0), -1);
        Edge.still(SpanLodge::new, x -> x.holder(32, 0), Edge.NO_INDEX);
    }

    @Says(promise = 0, value = "numbered from 0.")
    static void bytesHaveTheNumbersBelowSize() {
        for (int size : new int[] {1, 2, 63, 64}) {
            Edge.Recipe file = () -> loaded("size " + size + ";");
            Edge.still(file, x -> x.holder(0, 0), -1);
            Edge.still(file, x -> x.holder(size - 1, 0), -1);
            Edge.still(file, x -> x.holder(-1, 0), Edge.NO_INDEX);
            Edge.still(file, x -> x.holder(size, 0), Edge.NO_INDEX);
        }
    }

    @Says(promise = 0, value = "the present time is 0 at first.")
    static void theTimeIs0AtFirst() {
        Edge.due(new SpanLodge().count(7), 0);
    }

    // ---- owners

    @Says(promise = 0, value = "There are at most 8 owners, numbered from 0, each with a CREDIT")
    static void thereAre8OwnersAtMost() {
        Edge.due(Edge.owners(7).addOwner(5), 7);
        Edge.still(() -> Edge.owners(8), x -> x.addOwner(5), Edge.NO_STATE);
    }

    @Says(promise = 0, value = "There are at most 8 owners, numbered from 0, each with a CREDIT")
    static void ownersAreNumberedFrom0() {
        SpanLodge x = new SpanLodge();
        for (int i = 0; i < 8; i++) {
            Edge.due(x.addOwner(10 * i), i);
        }
        Edge.due(x.owner(0, 0), 0);
        Edge.due(x.owner(7, 0), 70);
    }

    @Says(promise = 0, value = "(0 to 999 when it is added; it can become greater)")
    static void creditIs0To999WhenAnOwnerIsAdded() {
        SpanLodge x = new SpanLodge();
        x.addOwner(0);
        x.addOwner(999);
        Edge.due(x.owner(0, 0), 0);
        Edge.due(x.owner(1, 0), 999);
        Edge.still(SpanLodge::new, y -> y.addOwner(-1), Edge.NO_ARGUMENT);
        Edge.still(SpanLodge::new, y -> y.addOwner(1000), Edge.NO_ARGUMENT);
    }

    @Says(promise = 0, value = "it can become greater)")
    static void creditCanBecomeGreaterThan999() {
        SpanLodge x = new SpanLodge();
        x.addOwner(999);
        x.addOwner(999);
        Edge.put(x, 0, 0, 4, 5, 30, 0, 1);
        Edge.put(x, 1, 0, 4, 5, 30, 0, 9);
        Edge.due(x.buy(1, 0), 0);
        Edge.due(x.owner(0, 0), 1099);
        Edge.due(x.owner(1, 0), 899);
    }

    @Says(promise = 0, value = "and these records, all 0 at first:")
    static void recordsAre0AtFirst() {
        SpanLodge x = Edge.owners(8);
        for (int what = 1; what <= 7; what++) {
            Edge.due(x.owner(0, what), 0);
            Edge.due(x.owner(7, what), 0);
        }
    }

    @Says(promise = 0, value = "Its broken promises are its no-shows and late cancellations together.")
    static void noShowsAndLateCancellationsAreBroken() {
        SpanLodge x = Edge.owners(1);
        x.set(3, 2);
        x.book(0, 0, 0, 1);
        x.pass(6);
        Edge.due(x.owner(0, 9), 0);
        x.book(0, 6, 0, 1);
        x.cancel(1);
        Edge.due(x.owner(0, 2), 1);
        Edge.due(x.owner(0, 3), 1);
        Edge.due(x.owner(0, 9), 1);
    }

    @Says(promise = 0, value = "Its broken promises are its no-shows and late cancellations together.")
    static void otherRecordsAreNoBrokenPromises() {
        SpanLodge x = Edge.owners(1);
        x.set(3, 1);
        Edge.put(x, 0, 0, 4, 5, 0, 0, 1);
        Edge.put(x, 0, 0, 4, 5, 0, 0, 9);
        x.buy(1, 0);
        x.evict(1);
        x.pass(2);
        x.arrive(0);
        x.pass(3);
        int[] records = {1, 0, 0, 1, 1, 2, 2};
        for (int i = 0; i < records.length; i++) {
            Edge.due(x.owner(0, 1 + i), records[i]);
        }
        Edge.due(x.owner(0, 9), 0);
    }

    @Says(promise = 0, value = "An owner with STRIKES broken promises or more is barred.")
    static void anOwnerIsBarredFromStrikesOn() {
        SpanLodge x = Edge.owners(1);
        for (int broken = 1; broken <= 3; broken++) {
            Edge.due(x.owner(0, 9), 0);
            x.cancel(x.book(0, 0, 0, 1));
        }
        Edge.due(x.owner(0, 3), 3);
        Edge.due(x.owner(0, 9), 1);
    }

    @Says(promise = 0, value = "An owner with STRIKES broken promises or more is barred.")
    static void anOwnerWithMoreThanStrikesIsBarred() {
        SpanLodge x = Edge.owners(1);
        x.cancel(x.book(0, 0, 0, 1));
        x.cancel(x.book(0, 0, 0, 1));
        x.set(3, 1);
        Edge.due(x.owner(0, 9), 1);
        x.set(3, 3);
        Edge.due(x.owner(0, 9), 0);
    }

    // ---- bookings

    @Says(promise = 0, value = "There are at most 40 bookings, numbered from 0.")
    static void thereAre40BookingsAtMost() {
        SpanLodge x = Edge.full();
        Edge.due(x.count(6), 40);
        Edge.due(x.booking(39, 4), 39);
        Edge.due(x.booking(0, 4), 0);
        Edge.still(Edge::full, y -> y.book(7, 50, 0, 1), Edge.NO_STATE);
    }

    @Says(promise = 0, value = "a span (FROM, LENGTH: the bytes FROM to FROM + LENGTH - 1)")
    static void aSpanHasTheBytesFromItsFirstToItsLast() {
        SpanLodge x = Edge.owners(1);
        Edge.put(x, 0, 4, 3, 5, 10, 0, 1);
        int[] due = {-1, 0, 0, 0, -1};
        for (int i = 0; i < due.length; i++) {
            Edge.due(x.holder(3 + i, 10), due[i]);
        }
    }

    @Says(promise = 0, value = "a DURATION (1 to 99)")
    static void aDurationIs1To99() {
        SpanLodge x = Edge.owners(1);
        Edge.put(x, 0, 0, 1, 1, 10, 0, 1);
        Edge.put(x, 0, 1, 1, 99, 10, 0, 1);
        Edge.due(Edge.place(x, 0), "1 10 11");
        Edge.due(Edge.place(x, 1), "1 10 109");
        Edge.still(Edge::busy, Edge.draft(0, 1, 0), Edge.NO_ARGUMENT);
        Edge.still(Edge::busy, Edge.draft(0, 1, 100), Edge.NO_ARGUMENT);
    }

    @Says(promise = 0, value = "a WISH (a time, 0 to 9999)")
    static void aWishIs0To9999() {
        SpanLodge x = Edge.owners(1);
        x.book(0, 0, 0, 1);
        x.book(0, 9999, 0, 1);
        Edge.due(x.booking(0, 4), 0);
        Edge.due(x.booking(1, 4), 9999);
        Edge.due(Edge.place(x, 1), "1 9999 10000");
        Edge.still(Edge::busy, y -> y.book(0, -1, 5, 1), Edge.NO_ARGUMENT);
        Edge.still(Edge::busy, y -> y.book(0, 10000, 0, 1), Edge.NO_ARGUMENT);
    }

    @Says(promise = 0, value = "a FLEX (0 to 99)")
    static void aFlexIs0To99() {
        SpanLodge x = Edge.owners(1);
        x.book(0, 10, 0, 1);
        x.book(0, 10, 99, 1);
        Edge.due(x.booking(0, 5), 0);
        Edge.due(x.booking(1, 5), 99);
        Edge.still(Edge::busy, y -> y.book(0, 10, -1, 1), Edge.NO_ARGUMENT);
        Edge.still(Edge::busy, y -> y.book(0, 10, 100, 1), Edge.NO_ARGUMENT);
    }

    @Says(promise = 0, value = "an URGENCY (1 to 9)")
    static void anUrgencyIs1To9() {
        SpanLodge x = Edge.owners(1);
        x.book(0, 10, 0, 1);
        x.book(0, 20, 0, 9);
        Edge.due(x.booking(0, 6), 1);
        Edge.due(x.booking(1, 6), 9);
        Edge.still(Edge::busy, y -> y.book(0, 10, 0, 0), Edge.NO_ARGUMENT);
        Edge.still(Edge::busy, y -> y.book(0, 10, 0, 10), Edge.NO_ARGUMENT);
    }

    @Says(promise = 0, value = "unless it waits, a BEGIN and an END (the time behind its last tick, at first "
            + "BEGIN + DURATION)")
    static void anEndIsBehindTheLastTick() {
        SpanLodge x = Edge.owners(1);
        Edge.put(x, 0, 0, 2, 7, 10, 0, 1);
        Edge.put(x, 0, 0, 2, 7, 12, 0, 1);
        Edge.due(Edge.place(x, 0), "1 10 17");
        Edge.due(x.holder(0, 16), 0);
        Edge.due(x.holder(0, 17), -1);
        Edge.due(Edge.place(x, 1), "0 -1 -1");
    }

    @Says(promise = 0, value = "The states are: 0 waiting; 1 booked; 2 held (its owner has come); 3 done;")
    static void statesFromWaitingToDone() {
        SpanLodge x = Edge.owners(1);
        x.book(0, 0, 0, 1);
        x.book(0, 0, 0, 1);
        Edge.due(x.booking(0, 7), 1);
        Edge.due(x.booking(1, 7), 0);
        x.arrive(0);
        Edge.due(x.booking(0, 7), 2);
        x.pass(1);
        Edge.due(x.booking(0, 7), 3);
    }

    @Says(promise = 0, value = "4 cancelled; 5 bumped; 6 expired.")
    static void statesFromCancelledToExpired() {
        SpanLodge x = Edge.owners(1);
        Edge.put(x, 0, 0, 1, 9, 0, 0, 1);
        x.book(0, 0, 0, 1);
        x.draft(1, 1, 1);
        x.book(0, 0, 0, 1);
        x.cancel(2);
        x.pass(6);
        Edge.due(x.booking(0, 7), 5);
        Edge.due(x.booking(1, 7), 6);
        Edge.due(x.booking(2, 7), 4);
    }

    // ---- what is live

    @Says(promise = 0, value = "A booking is live in the states 1 and 2.")
    static void aBookedOneIsLive() {
        SpanLodge x = Edge.owners(1);
        Edge.put(x, 0, 0, 4, 5, 10, 0, 1);
        Edge.due(x.holder(0, 10), 0);
        x.book(0, 12, 0, 1);
        Edge.due(Edge.place(x, 1), "0 -1 -1");
    }

    @Says(promise = 0, value = "A booking is live in the states 1 and 2.")
    static void aHeldOneIsLive() {
        SpanLodge x = Edge.owners(1);
        Edge.put(x, 0, 0, 4, 5, 0, 0, 1);
        x.arrive(0);
        Edge.due(x.holder(0, 4), 0);
        x.book(0, 4, 0, 1);
        Edge.due(Edge.place(x, 1), "0 -1 -1");
    }

    @Says(promise = 0, value = "A booking is live in the states 1 and 2.")
    static void aWaitingOneIsNotLive() {
        SpanLodge x = Edge.owners(1);
        Edge.put(x, 0, 0, 4, 5, 10, 0, 1);
        Edge.put(x, 0, 2, 6, 5, 10, 0, 1);
        Edge.due(Edge.place(x, 1), "0 -1 -1");
        Edge.put(x, 0, 4, 4, 5, 10, 0, 1);
        Edge.due(Edge.place(x, 2), "1 10 15");
    }

    @Says(promise = 0, value = "A booking is live in the states 1 and 2.")
    static void aDoneOneIsNotLive() {
        SpanLodge x = Edge.owners(1);
        Edge.put(x, 0, 0, 4, 5, 0, 0, 1);
        x.arrive(0);
        x.pass(3);
        x.leave(0);
        Edge.due(x.holder(0, 2), -1);
        x.book(0, 3, 0, 1);
        Edge.due(Edge.place(x, 1), "1 3 8");
    }

    @Says(promise = 0, value = "A booking is live in the states 1 and 2.")
    static void aCancelledOneIsNotLive() {
        SpanLodge x = Edge.owners(1);
        Edge.put(x, 0, 0, 4, 5, 10, 0, 1);
        x.cancel(0);
        Edge.due(x.holder(0, 10), -1);
        x.book(0, 12, 0, 1);
        Edge.due(Edge.place(x, 1), "1 12 17");
    }

    @Says(promise = 0, value = "A booking is live in the states 1 and 2.")
    static void aBumpedOneIsNotLive() {
        SpanLodge x = Edge.owners(1);
        Edge.put(x, 0, 0, 4, 30, 0, 0, 1);
        x.pass(6);
        Edge.due(x.booking(0, 7), 5);
        Edge.due(x.holder(0, 6), -1);
        x.book(0, 20, 0, 1);
        Edge.due(Edge.place(x, 1), "1 20 50");
    }

    // ---- clashes

    /** Where a booking with a WISH comes to stand beside one with the bytes 4 to 6 from 10 to 15. */
    private static String beside(int from, int length, int duration, int wish) {
        SpanLodge x = Edge.owners(1);
        Edge.put(x, 0, 4, 3, 5, 10, 0, 1);
        Edge.put(x, 0, from, length, duration, wish, 0, 1);
        return Edge.place(x, 1);
    }

    @Says(promise = 0, value = "two bookings clash if their spans have a byte in common")
    static void spansThatEndAheadOfAnotherDoNotClash() {
        Edge.due(beside(0, 4, 5, 10), "1 10 15");
        Edge.due(beside(0, 5, 5, 10), "0 -1 -1");
    }

    @Says(promise = 0, value = "two bookings clash if their spans have a byte in common")
    static void spansThatBeginBehindAnotherDoNotClash() {
        Edge.due(beside(7, 25, 5, 10), "1 10 15");
        Edge.due(beside(6, 26, 5, 10), "0 -1 -1");
    }

    @Says(promise = 0, value = "two bookings clash if their spans have a byte in common")
    static void spansWithinAndAroundOneAnotherClash() {
        Edge.due(beside(5, 1, 5, 10), "0 -1 -1");
        Edge.due(beside(4, 3, 5, 10), "0 -1 -1");
        Edge.due(beside(0, 32, 5, 10), "0 -1 -1");
    }

    @Says(promise = 0, value = "the times from BEGIN to END - 1 have a tick in common.")
    static void timesThatEndAheadOfAnotherDoNotClash() {
        Edge.due(beside(4, 3, 5, 5), "1 5 10");
        Edge.due(beside(4, 3, 6, 5), "0 -1 -1");
    }

    @Says(promise = 0, value = "the times from BEGIN to END - 1 have a tick in common.")
    static void timesThatBeginBehindAnotherDoNotClash() {
        Edge.due(beside(4, 3, 5, 15), "1 15 20");
        Edge.due(beside(4, 3, 5, 14), "0 -1 -1");
    }

    @Says(promise = 0, value = "the times from BEGIN to END - 1 have a tick in common.")
    static void timesWithinAndAroundOneAnotherClash() {
        Edge.due(beside(4, 3, 1, 12), "0 -1 -1");
        Edge.due(beside(4, 3, 5, 10), "0 -1 -1");
        Edge.due(beside(4, 3, 99, 0), "0 -1 -1");
    }

    @Says(promise = 0, value = "No byte is booked by two live bookings for the same tick:")
    static void noTwoLiveBookingsClash() {
        SpanLodge x = Edge.free(4);
        for (int i = 0; i < 36; i++) {
            Edge.put(x, i / 9, i * 7 % 13, 1 + i % 5, 3 + i % 4, 10 + i % 3, i * 5 % 40, 1 + i % 9);
            x.bargain();
        }
        x.cancel(3);
        x.evict(5);
        x.pass(9);
        x.arrive(Edge.in(x, 1));
        int clashes = 0;
        int[][] rows = new int[36][];
        for (int b = 0; b < rows.length; b++) {
            rows[b] = new int[5];
            int[] asked = {1, 2, 8, 9, 7};
            for (int i = 0; i < asked.length; i++) {
                rows[b][i] = x.booking(b, asked[i]);
            }
            for (int other = 0; other < b; other++) {
                clashes += meet(rows[b], rows[other]) ? 1 : 0;
            }
        }
        Edge.due(clashes, 0);
    }

    private static boolean isLive(int[] row) {
        return row[4] == 1 || row[4] == 2;
    }

    private static boolean meet(int[] a, int[] b) {
        return isLive(a) && isLive(b) && a[0] < b[0] + b[1] && b[0] < a[0] + a[1] && a[2] < b[3] && b[2] < a[3];
    }

    // ---- best times

    /** Where a booking of one tick comes to stand if its byte is taken for some ticks. */
    private static String around(int begin, int duration, int wish, int flex) {
        SpanLodge x = Edge.owners(1);
        Edge.put(x, 0, 0, 1, duration, begin, 0, 1);
        Edge.put(x, 0, 0, 1, 1, wish, flex, 1);
        return Edge.place(x, 1);
    }

    @Says(promise = 0, value = "A booking fits at a time t if t is not less than the present time")
    static void itFitsAtThePresentTimeAndNotBefore() {
        SpanLodge x = Edge.at(Edge.owners(1), 10);
        x.book(0, 5, 5, 1);
        Edge.due(Edge.place(x, 0), "1 10 11");
        Edge.put(x, 0, 1, 1, 3, 10, 0, 1);
        x.book(0, 9, 3, 1);
        Edge.due(Edge.place(x, 2), "0 -1 -1");
        x.book(0, 9, 4, 1);
        Edge.due(Edge.place(x, 3), "1 13 16");
    }

    @Says(promise = 0, value = "it clashes with no live booking but itself.")
    static void aBookedOneFitsWhereItStandsItself() {
        SpanLodge x = Edge.owners(1);
        Edge.put(x, 0, 0, 4, 10, 10, 0, 1);
        Edge.due(x.extend(0, 5), 0);
        Edge.due(x.evict(0), 0);
        Edge.due(Edge.place(x, 0), "1 10 20");
    }

    @Says(promise = 0, value = "Its best time is, of all times t from WISH - FLEX to WISH + FLEX at which it fits")
    static void theLastTimeIsWishAndFlex() {
        Edge.due(around(10, 20, 20, 10), "1 30 31");
        Edge.due(around(10, 21, 20, 10), "0 -1 -1");
    }

    @Says(promise = 0, value = "Its best time is, of all times t from WISH - FLEX to WISH + FLEX at which it fits")
    static void theFirstTimeIsWishLessFlex() {
        Edge.due(around(10, 40, 20, 11), "1 9 10");
        Edge.due(around(10, 40, 20, 10), "0 -1 -1");
    }

    @Says(promise = 0, value = "Its best time is, of all times t from WISH - FLEX to WISH + FLEX at which it fits")
    static void withoutFlexTheWishAloneIsTaken() {
        Edge.due(around(10, 5, 9, 0), "1 9 10");
        Edge.due(around(10, 5, 10, 0), "0 -1 -1");
        Edge.due(around(10, 5, 14, 0), "0 -1 -1");
        Edge.due(around(10, 5, 15, 0), "1 15 16");
    }

    @Says(promise = 0, value = "Its best time is, of all times t from WISH - FLEX to WISH + FLEX at which it fits")
    static void aTimeBelow0IsNone() {
        Edge.due(around(0, 50, 2, 99), "1 50 51");
        Edge.due(around(0, 50, 2, 47), "0 -1 -1");
        Edge.due(around(1, 50, 2, 99), "1 0 1");
    }

    @Says(promise = 0, value = "Its best time is, of all times t from WISH - FLEX to WISH + FLEX at which it fits")
    static void theLastTimeOfAllIs10098() {
        SpanLodge x = Edge.owners(1);
        Edge.put(x, 0, 0, 1, 98, 9901, 0, 1);
        Edge.put(x, 0, 0, 1, 99, 9999, 0, 1);
        Edge.put(x, 0, 0, 1, 1, 9999, 99, 1);
        Edge.due(Edge.place(x, 1), "1 9999 10098");
        Edge.due(Edge.place(x, 2), "1 9900 9901");
        Edge.put(x, 0, 0, 1, 2, 9999, 99, 1);
        Edge.due(Edge.place(x, 3), "1 10098 10100");
    }

    @Says(promise = 0, value = "the one nearest to WISH, of two the earlier one.")
    static void theNearestTimeIsTaken() {
        Edge.due(around(18, 4, 20, 9), "1 22 23");
        Edge.due(around(19, 4, 20, 9), "1 18 19");
        Edge.due(around(30, 4, 20, 9), "1 20 21");
    }

    @Says(promise = 0, value = "the one nearest to WISH, of two the earlier one.")
    static void ofTwoTheEarlierOneIsTaken() {
        Edge.due(around(18, 5, 20, 9), "1 17 18");
    }

    @Says(promise = 0, value = "with BEGIN = t and END = t + DURATION it clashes with no live booking but itself.")
    static void aGapHasToBeAsLongAsTheDuration() {
        SpanLodge x = Edge.owners(1);
        Edge.put(x, 0, 0, 1, 10, 10, 0, 1);
        Edge.put(x, 0, 0, 1, 60, 25, 0, 1);
        Edge.put(x, 0, 0, 1, 6, 19, 10, 1);
        Edge.due(Edge.place(x, 2), "0 -1 -1");
        Edge.put(x, 0, 0, 1, 5, 19, 10, 1);
        Edge.due(Edge.place(x, 3), "1 20 25");
    }

    // ---- joys

    /** The joy of a booking with the URGENCY 3 that stands some ticks behind its WISH. */
    private static int joyBehind(int ticks) {
        SpanLodge x = Edge.at(Edge.owners(1), 50);
        x.book(0, 50 - ticks, 50, 3);
        Edge.due(Edge.place(x, 0), "1 50 51");
        return x.booking(0, 10);
    }

    /** The joy of a booking with the URGENCY 3 that stands some ticks ahead of its WISH. */
    private static int joyAhead(int ticks) {
        SpanLodge x = Edge.owners(1);
        Edge.put(x, 0, 0, 1, 2 * ticks, 51 - ticks, 0, 1);
        Edge.put(x, 0, 0, 1, 1, 50, 50, 3);
        Edge.due(Edge.place(x, 1), "1 " + (50 - ticks) + " " + (51 - ticks));
        return x.booking(1, 10);
    }

    @Says(promise = 0, value = "The joy of a booking at a time t is URGENCY * (20 less the difference of t and WISH)")
    static void theJoyShrinksByUrgencyWithEachTickBehindTheWish() {
        Edge.due(joyBehind(0), 60);
        Edge.due(joyBehind(1), 57);
        Edge.due(joyBehind(19), 3);
    }

    @Says(promise = 0, value = "The joy of a booking at a time t is URGENCY * (20 less the difference of t and WISH)")
    static void theJoyShrinksByUrgencyWithEachTickAheadOfTheWish() {
        Edge.due(joyAhead(1), 57);
        Edge.due(joyAhead(19), 3);
    }

    @Says(promise = 0, value = "but at least 0;")
    static void theJoyIs0AtLeast() {
        Edge.due(joyBehind(20), 0);
        Edge.due(joyBehind(21), 0);
        Edge.due(joyBehind(50), 0);
        Edge.due(joyAhead(20), 0);
        Edge.due(joyAhead(21), 0);
    }

    @Says(promise = 0, value = "the joy of a booked one is that at its BEGIN, that of a waiting one is 0.")
    static void aWaitingOneHasNoJoy() {
        SpanLodge x = Edge.owners(1);
        x.book(0, 5, 0, 2);
        x.book(0, 5, 0, 9);
        Edge.due(x.booking(0, 10), 40);
        Edge.due(x.booking(1, 10), 0);
        Edge.due(x.owner(0, 10), 40);
        x.pass(6);
        Edge.due(x.booking(0, 10), 40);
    }

    // ---- settings

    private static void settingTakes(int what, int first, int least, int most) {
        Edge.due(new SpanLodge().count(what), first);
        SpanLodge x = new SpanLodge();
        Edge.due(x.set(what, least), first);
        Edge.due(x.count(what), least);
        Edge.due(x.set(what, most), least);
        Edge.due(x.count(what), most);
        Edge.still(Edge::busy, y -> y.set(what, least - 1), Edge.NO_ARGUMENT);
        Edge.still(Edge::busy, y -> y.set(what, most + 1), Edge.NO_ARGUMENT);
        Edge.still(Edge::busy, y -> y.set(what, Edge.MIN), Edge.NO_ARGUMENT);
        Edge.still(Edge::busy, y -> y.set(what, Edge.MAX), Edge.NO_ARGUMENT);
    }

    @Says(promise = 0, value = "0 GRACE 0 to 50 (5);")
    static void graceIs0To50() {
        settingTakes(0, 5, 0, 50);
    }

    @Says(promise = 0, value = "1 NOTICE 0 to 99 (10);")
    static void noticeIs0To99() {
        settingTakes(1, 10, 0, 99);
    }

    @Says(promise = 0, value = "2 LIMIT 1 to 9 (4);")
    static void limitIs1To9() {
        settingTakes(2, 4, 1, 9);
    }

    @Says(promise = 0, value = "3 STRIKES 1 to 9 (3)")
    static void strikesAre1To9() {
        settingTakes(3, 3, 1, 9);
    }
}
