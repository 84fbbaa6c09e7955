/** What could be, and the line: the promises 29 to 32, 35 and 36. */
public final class LookEdges {
    private LookEdges() {
    }

    public static void main(String[] args) {
        Edge.run(LookEdges.class);
    }

    private static SpanLodge sized(int size) {
        SpanLodge x = new SpanLodge();
        Checks.load(x, "size " + size + ";owner 0;owner 0;");
        return x;
    }

    /** A booking of the bytes 4 to 6 from 10 to 15. */
    private static SpanLodge one() {
        SpanLodge x = Edge.free(2);
        Edge.put(x, 1, 4, 3, 5, 10, 0, 1);
        return x;
    }

    /** A booking of the byte 0 from 9999 up to an END far behind. */
    private static SpanLodge long0(int end) {
        SpanLodge x = Edge.free(1);
        Edge.put(x, 0, 0, 1, 99, 9999, 0, 1);
        for (int left = end - x.booking(0, 9); left > 0; left -= 99) {
            x.extend(0, Math.min(99, left));
        }
        Edge.due(x.booking(0, 9), end);
        return x;
    }

    private static String line(SpanLodge x) {
        StringBuilder s = new StringBuilder();
        for (int index = 0; x.shown(index) != -1; index++) {
            s.append((char) x.shown(index));
        }
        return s.toString();
    }

    // ---- 29: holder

    @Says(promise = 29, value = "Throws `IndexOutOfBoundsException` if there is no such byte")
    static void holderWantsAByte() {
        for (int at : new int[] {-1, 32, Edge.MIN, Edge.MAX}) {
            Edge.still(LookEdges::one, x -> x.holder(at, 10), Edge.NO_INDEX);
            Edge.still(LookEdges::one, x -> x.holder(at, -1), Edge.NO_INDEX);
        }
        Edge.still(LookEdges::one, x -> x.holder(0, 10), -1);
        Edge.still(LookEdges::one, x -> x.holder(31, 10), -1);
    }

    @Says(promise = 29, value = "`time`: 0 to 20100")
    static void holderLooksAtTheTimes0To20100() {
        for (int time : new int[] {-1, 20101, Edge.MIN, Edge.MAX}) {
            Edge.still(LookEdges::one, x -> x.holder(4, time), Edge.NO_ARGUMENT);
        }
        Edge.due(long0(20101).holder(0, 20100), 0);
        Edge.due(long0(20100).holder(0, 20100), -1);
        SpanLodge x = Edge.owners(1);
        x.book(0, 0, 0, 1);
        Edge.due(x.holder(0, 0), 0);
    }

    @Says(promise = 29, value = "Returns the live booking that has this byte at this time; NONE without one.")
    static void holderKnowsTheEdgesOfASpan() {
        int[] due = {-1, 0, 0, 0, -1};
        for (int i = 0; i < due.length; i++) {
            int at = 3 + i;
            Edge.still(LookEdges::one, x -> x.holder(at, 12), due[i]);
        }
    }

    @Says(promise = 29, value = "Returns the live booking that has this byte at this time; NONE without one.")
    static void holderKnowsBeginAndEnd() {
        int[][] due = {{9, -1}, {10, 0}, {14, 0}, {15, -1}};
        for (int[] row : due) {
            Edge.still(LookEdges::one, x -> x.holder(4, row[0]), row[1]);
        }
        SpanLodge x = Edge.at(one(), 12);
        Edge.due(x.holder(4, 11), 0);
        x.extend(0, 1);
        Edge.due(x.holder(4, 15), 0);
        Edge.due(x.holder(4, 16), -1);
    }

    @Says(promise = 29, value = "Returns the live booking that has this byte at this time; NONE without one.")
    static void onlyALiveOneHasAByte() {
        SpanLodge x = Edge.states();
        int[][] due = {{0, 20, 0}, {2, 3, 2}, {4, 0, -1}, {6, 20, -1}, {8, 20, -1}, {10, 49, 7}};
        for (int[] row : due) {
            Edge.due(x.holder(row[0], row[1]), row[2]);
        }
    }

    // ---- 30: nextFree

    @Says(promise = 30, value = "`from`: a time from the present one to 20000")
    static void nextFreeBeginsWithThePresentTime() {
        Edge.Recipe now = () -> Edge.at(one(), 5);
        Edge.still(now, x -> x.nextFree(5), 5);
        for (int from : new int[] {4, 0, -1, 20001, Edge.MIN, Edge.MAX}) {
            Edge.still(now, x -> x.nextFree(from), Edge.NO_ARGUMENT);
        }
        Edge.still(now, x -> x.nextFree(20000), 20000);
        Edge.still(SpanLodge::new, x -> x.nextFree(0), 0);
        Edge.still(SpanLodge::new, x -> x.nextFree(-1), Edge.NO_ARGUMENT);
    }

    @Says(promise = 30, value = "`from`: a time from the present one to 20000")
    static void nextFreeLooksBeyondTheLastTime() {
        Edge.Recipe last = () -> Edge.at(Edge.owners(1), 20000);
        Edge.still(last, x -> x.nextFree(20000), 20000);
        Edge.still(last, x -> x.nextFree(19999), Edge.NO_ARGUMENT);
        Edge.still(last, x -> x.nextFree(20001), Edge.NO_ARGUMENT);
        Edge.due(long0(20300).nextFree(20000), 20300);
        Edge.due(long0(20301).nextFree(20000), -1);
    }

    /** A booking of the byte 0 from 10 to an END; the draft is the same byte for one tick. */
    private static SpanLodge takenUpTo(int end) {
        SpanLodge x = Edge.free(1);
        Edge.put(x, 0, 0, 1, 99, 10, 0, 1);
        for (int left = end - 109; left > 0; left -= 99) {
            x.extend(0, Math.min(99, left));
        }
        x.draft(0, 1, 1);
        return x;
    }

    @Says(promise = 30, value = "NONE if it is later than 300 ticks behind from.")
    static void nextFreeLooks300TicksAhead() {
        Edge.still(() -> takenUpTo(310), x -> x.nextFree(10), 310);
        Edge.still(() -> takenUpTo(311), x -> x.nextFree(10), -1);
        Edge.still(() -> takenUpTo(311), x -> x.nextFree(11), 311);
        Edge.still(() -> takenUpTo(311), x -> x.nextFree(9), 9);
    }

    private static SpanLodge gaps(int from, int length, int duration) {
        SpanLodge x = one();
        Edge.put(x, 0, 4, 3, 5, 18, 0, 1);
        x.draft(from, length, duration);
        return x;
    }

    @Says(promise = 30, value = "Returns the earliest time, from this one on, at which a booking with the draft would fit;")
    static void nextFreeFindsAGapThatIsLongEnough() {
        Edge.still(() -> gaps(4, 3, 3), x -> x.nextFree(10), 15);
        Edge.still(() -> gaps(4, 3, 4), x -> x.nextFree(10), 23);
        Edge.still(() -> gaps(4, 3, 10), x -> x.nextFree(0), 0);
        Edge.still(() -> gaps(4, 3, 11), x -> x.nextFree(0), 23);
        Edge.still(() -> gaps(4, 3, 10), x -> x.nextFree(1), 23);
        Edge.still(() -> gaps(4, 3, 3), x -> x.nextFree(16), 23);
        Edge.still(() -> gaps(4, 3, 3), x -> x.nextFree(23), 23);
    }

    @Says(promise = 30, value = "Returns the earliest time, from this one on, at which a booking with the draft would fit;")
    static void nextFreeLooksBehind40Bookings() {
        Edge.still(Edge::full, x -> x.nextFree(0), 40);
        Edge.still(Edge::full, x -> x.nextFree(39), 40);
        Edge.still(Edge::full, x -> x.nextFree(40), 40);
        SpanLodge x = Edge.full();
        x.cancel(39);
        x.clean();
        x.book(7, 0, 99, 1);
        Edge.due(Edge.place(x, 39), "1 39 40");
        SpanLodge y = Edge.full();
        y.cancel(0);
        y.clean();
        y.book(0, 20, 20, 1);
        Edge.due(Edge.place(y, 39), "1 0 1");
    }

    @Says(promise = 30, value = "Returns the earliest time, from this one on, at which a booking with the draft would fit;")
    static void nextFreeKnowsTheSpanOfTheDraft() {
        Edge.still(() -> gaps(0, 4, 9), x -> x.nextFree(10), 10);
        Edge.still(() -> gaps(0, 5, 9), x -> x.nextFree(10), 23);
        Edge.still(() -> gaps(7, 25, 9), x -> x.nextFree(10), 10);
        Edge.still(() -> gaps(6, 26, 9), x -> x.nextFree(10), 23);
    }

    // ---- 31: mayWrite

    /** The owner 0 holds the bytes 4 to 5 and 6 to 7 from 0 on, the owner 1 has booked 8 to 9. */
    private static SpanLodge written() {
        SpanLodge x = Edge.free(2);
        Edge.put(x, 0, 4, 2, 5, 0, 0, 1);
        Edge.put(x, 0, 6, 2, 3, 0, 0, 1);
        Edge.put(x, 1, 8, 2, 5, 0, 0, 1);
        x.arrive(0);
        x.arrive(1);
        return x;
    }

    @Says(promise = 31, value = "Throws `IndexOutOfBoundsException` if there is no such owner or byte, or the span does not "
            + "end within the file")
    static void mayWriteWantsAnOwner() {
        for (int none : new int[] {-1, 2, 8, Edge.MIN, Edge.MAX}) {
            Edge.still(LookEdges::written, x -> x.mayWrite(none, 4, 1), Edge.NO_INDEX);
            Edge.still(LookEdges::written, x -> x.mayWrite(none, 4, 0), Edge.NO_INDEX);
        }
        Edge.still(SpanLodge::new, x -> x.mayWrite(0, 0, 1), Edge.NO_INDEX);
    }

    @Says(promise = 31, value = "Throws `IndexOutOfBoundsException` if there is no such owner or byte, or the span does not "
            + "end within the file")
    static void mayWriteWantsBytesOfTheFile() {
        for (int from : new int[] {-1, 32, Edge.MIN, Edge.MAX}) {
            Edge.still(LookEdges::written, x -> x.mayWrite(0, from, 1), Edge.NO_INDEX);
            Edge.still(LookEdges::written, x -> x.mayWrite(0, from, 0), Edge.NO_INDEX);
        }
        Edge.still(LookEdges::written, x -> x.mayWrite(0, 31, 1), false);
        Edge.still(LookEdges::written, x -> x.mayWrite(0, 31, 2), Edge.NO_INDEX);
        Edge.still(LookEdges::written, x -> x.mayWrite(0, 0, 32), false);
        Edge.still(LookEdges::written, x -> x.mayWrite(0, 0, 33), Edge.NO_INDEX);
        Edge.still(LookEdges::written, x -> x.mayWrite(0, 1, Edge.MAX), Edge.NO_INDEX);
        Edge.still(LookEdges::written, x -> x.mayWrite(0, 31, Edge.MAX), Edge.NO_INDEX);
    }

    @Says(promise = 31, value = "Throws `IllegalArgumentException` if length is less than 1")
    static void mayWriteWantsALengthOf1AtLeast() {
        Edge.still(LookEdges::written, x -> x.mayWrite(0, 4, 1), true);
        for (int length : new int[] {0, -1, Edge.MIN}) {
            Edge.still(LookEdges::written, x -> x.mayWrite(0, 4, length), Edge.NO_ARGUMENT);
        }
    }

    @Says(promise = 31, value = "Returns whether each byte of this span is held now")
    static void eachByteHasToBeHeld() {
        Object[][] due = {
            {4, 2, true}, {3, 2, false}, {4, 4, true}, {5, 2, true}, {4, 5, false}, {3, 6, false},
            {7, 1, true}, {8, 1, false}, {0, 32, false},
        };
        for (Object[] row : due) {
            Edge.still(LookEdges::written, x -> x.mayWrite(0, (int) row[0], (int) row[1]), row[2]);
        }
    }

    @Says(promise = 31, value = "(the present time is one of its BEGIN to END - 1) by a booking of this owner in the state 2.")
    static void aBookedOneOrAnotherOwnersIsNotEnough() {
        Edge.still(LookEdges::written, x -> x.mayWrite(1, 8, 1), false);
        Edge.still(LookEdges::written, x -> x.mayWrite(1, 4, 1), false);
        SpanLodge x = written();
        x.arrive(2);
        Edge.due(x.mayWrite(1, 8, 2), true);
        Edge.due(x.mayWrite(0, 8, 1), false);
        Edge.due(x.mayWrite(1, 7, 2), false);
    }

    @Says(promise = 31, value = "(the present time is one of its BEGIN to END - 1)")
    static void heldUpToTheTickAheadOfEnd() {
        SpanLodge x = written();
        x.pass(2);
        Edge.due(x.mayWrite(0, 6, 2), true);
        x.pass(1);
        Edge.due(x.mayWrite(0, 6, 2), false);
        Edge.due(x.mayWrite(0, 4, 2), true);
        x.leave(0);
        Edge.due(x.mayWrite(0, 4, 2), false);
    }

    @Says(promise = 31, value = "(the present time is one of its BEGIN to END - 1)")
    static void heldBehindItsEndIsNotHeldNow() {
        SpanLodge x = Edge.at(one(), 15);
        x.arrive(0);
        Edge.due(x.booking(0, 7), 2);
        Edge.due(x.mayWrite(1, 4, 3), false);
        x.extend(0, 1);
        Edge.due(x.mayWrite(1, 4, 3), true);
    }

    @Says(promise = 31, value = "Returns whether each byte of this span is held now")
    static void theWholeFileMayBeHeld() {
        for (int size : new int[] {1, 64}) {
            SpanLodge x = sized(size);
            Edge.put(x, 0, 0, size, 1, 0, 0, 1);
            x.arrive(0);
            Edge.due(x.mayWrite(0, 0, size), true);
            Edge.due(x.mayWrite(1, 0, size), false);
        }
    }

    // ---- 32: usage

    @Says(promise = 32, value = "`ticks`: 1 to 200")
    static void usageLooks1To200TicksAhead() {
        Edge.still(LookEdges::one, x -> x.usage(1), 0.0f);
        Edge.still(LookEdges::one, x -> x.usage(200), 15.0f / 6400.0f);
        for (int ticks : new int[] {0, -1, 201, Edge.MIN, Edge.MAX}) {
            Edge.still(LookEdges::one, x -> x.usage(ticks), Edge.NO_ARGUMENT);
        }
    }

    @Says(promise = 32, value = "Returns of all bytes and ticks from the present time on, so many, the part that is booked by "
            + "live bookings, both numbers converted to float.")
    static void usageIs0OfNothingAnd1OfAll() {
        Edge.still(SpanLodge::new, x -> x.usage(200), 0.0f);
        SpanLodge x = sized(64);
        Edge.put(x, 0, 0, 64, 99, 0, 0, 1);
        x.extend(0, 99);
        x.extend(0, 2);
        Edge.due(x.usage(200), 1.0f);
        Edge.due(x.usage(1), 1.0f);
        x.pass(1);
        Edge.due(x.usage(199), 1.0f);
        Edge.due(x.usage(200), (float) (64 * 199) / (float) (64 * 200));
    }

    @Says(promise = 32, value = "Returns of all bytes and ticks from the present time on, so many, the part that is booked by "
            + "live bookings, both numbers converted to float.")
    static void usageCountsTicksWithinItsEdges() {
        Edge.still(LookEdges::one, x -> x.usage(10), 0.0f);
        Edge.still(LookEdges::one, x -> x.usage(11), 3.0f / 352.0f);
        Edge.still(LookEdges::one, x -> x.usage(15), 15.0f / 480.0f);
        Edge.still(LookEdges::one, x -> x.usage(16), 15.0f / 512.0f);
        Edge.still(() -> Edge.at(one(), 12), x -> x.usage(1), 3.0f / 32.0f);
        Edge.still(() -> Edge.at(one(), 12), x -> x.usage(9), 9.0f / 288.0f);
        Edge.still(() -> Edge.at(one(), 14), x -> x.usage(1), 3.0f / 32.0f);
        Edge.still(() -> Edge.at(one(), 15), x -> x.usage(1), 0.0f);
    }

    @Says(promise = 32, value = "the part that is booked by live bookings")
    static void usageCountsLiveOnesOnly() {
        SpanLodge x = Edge.states();
        Edge.due(x.usage(1), 2.0f / 32.0f);
        Edge.due(x.usage(100), (2 * 23 + 2 * 30 + 2 * 30) / 3200.0f);
    }

    /** All 64 bytes are held from 0 to 396, the time is 1. */
    private static SpanLodge fullFile() {
        SpanLodge x = sized(64);
        Edge.put(x, 0, 0, 64, 99, 0, 0, 1);
        x.arrive(0);
        x.extend(0, 99);
        x.extend(0, 99);
        x.extend(0, 99);
        x.pass(1);
        x.draft(63, 1, 1);
        return x;
    }

    @Says(promise = 30, value = "NONE if it is later than 300 ticks behind from.")
    static void aFullFileHasNoFreeTime() {
        Edge.still(LookEdges::fullFile, x -> x.nextFree(1), -1);
        Edge.still(LookEdges::fullFile, x -> x.nextFree(95), -1);
        Edge.still(LookEdges::fullFile, x -> x.nextFree(96), 396);
        Edge.still(LookEdges::fullFile, x -> x.usage(200), 1.0f);
        Edge.still(LookEdges::fullFile, x -> x.mayWrite(0, 0, 64), true);
        Edge.still(LookEdges::fullFile, x -> x.holder(63, 395), 0);
        Edge.still(LookEdges::fullFile, x -> x.count(13), 64);
        SpanLodge x = fullFile();
        x.show(1);
        Edge.due(line(x), "0".repeat(64));
        x.book(1, 99, 99, 9);
        Edge.due(Edge.place(x, 1), "0 -1 -1");
    }

    // ---- 35: show

    @Says(promise = 35, value = "`time`: 0 to 20100")
    static void showTakesTheTimes0To20100() {
        Edge.Recipe shown = () -> {
            SpanLodge x = one();
            x.show(12);
            return x;
        };
        for (int time : new int[] {-1, 20101, Edge.MIN, Edge.MAX}) {
            Edge.still(shown, x -> x.show(time), Edge.NO_ARGUMENT);
            Edge.still(LookEdges::one, x -> x.show(time), Edge.NO_ARGUMENT);
        }
        Edge.due(one().show(0), 32);
        SpanLodge far = long0(20101);
        Edge.due(far.show(20100), 32);
        Edge.due(line(far), "0" + ".".repeat(31));
        SpanLodge near = long0(20100);
        near.show(20100);
        Edge.due(line(near), ".".repeat(32));
    }

    @Says(promise = 35, value = "Returns the number of bytes.")
    static void showWritesAsManyBytesAsTheFileHas() {
        for (int size : new int[] {1, 2, 63, 64}) {
            SpanLodge x = sized(size);
            Edge.due(x.show(0), size);
            Edge.due(line(x), ".".repeat(size));
            Edge.due(x.shown(size - 1), 46);
            Edge.due(x.shown(size), -1);
        }
    }

    @Says(promise = 35, value = "for each byte the number of the owner of the live booking that has it then, or a point "
            + "(byte 46).")
    static void showWritesTheOwners0To7() {
        SpanLodge x = Edge.free(8);
        for (int owner = 0; owner < 8; owner++) {
            Edge.put(x, owner, 31 - 2 * owner, 1, 5, 10, 0, 1);
        }
        x.show(12);
        Edge.due(line(x), ".................7.6.5.4.3.2.1.0");
        for (int owner = 0; owner < 8; owner++) {
            Edge.due(x.shown(31 - 2 * owner), 48 + owner);
            Edge.due(x.shown(30 - 2 * owner), 46);
        }
    }

    @Says(promise = 35, value = "Writes a line for a time:")
    static void showKnowsTheEdgesOfSpansAndTimes() {
        String free = ".".repeat(32);
        String taken = "....111" + ".".repeat(25);
        Object[][] due = {{9, free}, {10, taken}, {14, taken}, {15, free}};
        for (Object[] row : due) {
            SpanLodge x = one();
            x.show((int) row[0]);
            Edge.due(line(x), row[1]);
        }
        SpanLodge y = Edge.states();
        y.show(20);
        Edge.due(line(y), "0000......11" + ".".repeat(20));
    }

    // ---- 36: shown

    private static SpanLodge written12() {
        SpanLodge x = one();
        x.show(12);
        return x;
    }

    @Says(promise = 36, value = "NONE if there is no such byte, or nothing was written.")
    static void nothingIsShownBeforeTheFirstLine() {
        for (int index : new int[] {0, 31, 63, -1, Edge.MIN, Edge.MAX}) {
            Edge.still(SpanLodge::new, x -> x.shown(index), -1);
            Edge.still(LookEdges::one, x -> x.shown(index), -1);
        }
    }

    @Says(promise = 36, value = "NONE if there is no such byte, or nothing was written.")
    static void theLineHasNoByteBeyondItsEdges() {
        Edge.still(LookEdges::written12, x -> x.shown(0), 46);
        Edge.still(LookEdges::written12, x -> x.shown(31), 46);
        Edge.still(LookEdges::written12, x -> x.shown(4), 49);
        for (int index : new int[] {-1, 32, 63, 64, Edge.MIN, Edge.MAX}) {
            Edge.still(LookEdges::written12, x -> x.shown(index), -1);
        }
    }

    @Says(promise = 36, value = "(it stays if things change, and for load() and restore());")
    static void theLineStaysIfThingsChange() {
        SpanLodge x = written12();
        String before = line(x);
        x.cancel(0);
        x.addOwner(3);
        x.clean();
        x.pass(20);
        Edge.due(line(x), before);
        x.show(12);
        Edge.due(line(x), ".".repeat(32));
    }

    @Says(promise = 36, value = "(it stays if things change, and for load() and restore());")
    static void theLineStaysForLoadAndRestore() {
        SpanLodge x = new SpanLodge();
        x.save(0);
        x.addOwner(0);
        x.addOwner(0);
        Edge.put(x, 1, 4, 3, 5, 10, 0, 1);
        x.show(12);
        String before = line(x);
        x.restore(0);
        Edge.due(line(x), before);
        Checks.load(x, "size 3;owner 0;book 0 0 3 9 9;");
        Edge.due(line(x), before);
        Checks.load(x, "?");
        Edge.due(line(x), before);
        Edge.due(x.show(9), 3);
        Edge.due(line(x), "000");
        Checks.load(x, "size 64;");
        Edge.due(line(x), "000");
        Edge.due(x.shown(3), -1);
    }
}
