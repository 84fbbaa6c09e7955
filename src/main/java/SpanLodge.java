/**
 * Spans of bytes that are booked like rooms: locks ahead of time, owners that come late and are
 * bumped, waiters that are placed when something becomes free, swaps of times that help both,
 * places that are bought out, cancelled bookings, and records of promises that were kept and
 * broken.
 */
public final class SpanLodge {
    /** There is none. */
    public static final int NONE = -1;

    private static final int MOST_TEXT = 800;
    private static final int FIRST_SIZE = 32;
    private static final int MOST_SIZE = 64;
    private static final int MOST_OWNERS = 8;
    private static final int MOST_BOOKINGS = 40;
    private static final int MOST_CREDIT = 999;
    private static final int MOST_DURATION = 99;
    private static final int MOST_WISH = 9999;
    private static final int MOST_FLEX = 99;
    private static final int MOST_URGENCY = 9;
    private static final int MOST_LONGER = 99;
    private static final int MOST_TICKS = 200;
    private static final int LAST_TIME = 20000;
    private static final int LAST_LOOK = 20100;
    private static final int FREE_REACH = 300;
    private static final int MOST_JOY_STEPS = 20;
    private static final int SLOTS = 2;

    private static final int GRACE = 0;
    private static final int NOTICE = 1;
    private static final int LIMIT = 2;
    private static final int STRIKES = 3;
    private static final int SETTINGS = 4;
    private static final int[] SETTING_FIRST = {5, 10, 4, 3};
    private static final int[] SETTING_LEAST = {0, 0, 1, 1};
    private static final int[] SETTING_MOST = {50, 99, 9, 9};

    // The places in the row of an owner are the numbers that owner() takes.
    private static final int CREDIT = 0;
    private static final int KEPT = 1;
    private static final int NO_SHOWS = 2;
    private static final int LATE_CANCELS = 3;
    private static final int EVICTED = 4;
    private static final int EXPIRIES = 5;
    private static final int LATE_TICKS = 6;
    private static final int BARGAINS = 7;
    private static final int OWNER_PLACES = 8;
    private static final int ASK_ACTIVE = 8;
    private static final int ASK_BARRED = 9;
    private static final int ASK_OWNER_JOY = 10;

    // The places in the row of a booking are the numbers that booking() takes.
    private static final int OWNER = 0;
    private static final int FROM = 1;
    private static final int LENGTH = 2;
    private static final int DURATION = 3;
    private static final int WISH = 4;
    private static final int FLEX = 5;
    private static final int URGENCY = 6;
    private static final int STATE = 7;
    private static final int BEGIN = 8;
    private static final int END = 9;
    private static final int BOOKING_PLACES = 10;
    private static final int ASK_JOY = 10;
    private static final int ASK_BEST_TIME = 11;

    private static final int WAITING = 0;
    private static final int BOOKED = 1;
    private static final int HELD = 2;
    private static final int DONE = 3;
    private static final int CANCELLED = 4;
    private static final int BUMPED = 5;
    private static final int EXPIRED = 6;

    private static final int ASK_SIZE = 4;
    private static final int ASK_OWNERS = 5;
    private static final int ASK_BOOKINGS = 6;
    private static final int ASK_TIME = 7;
    private static final int ASK_WAITING = 8;
    private static final int ASK_BOOKED = 9;
    private static final int ASK_HELD = 10;
    private static final int ASK_SWAPS = 11;
    private static final int ASK_BUYOUTS = 12;
    private static final int ASK_BYTES_NOW = 13;

    // The places of what the ticks count are the numbers that ahead() takes.
    private static final int TALLY_BUMPED = 0;
    private static final int TALLY_EXPIRED = 1;
    private static final int TALLY_PLACED = 2;
    private static final int TALLY_DONE = 3;
    private static final int TALLIES = 4;

    // The places of what is told of the best bargain are the numbers that best() takes.
    private static final int DEAL_GAIN = 0;
    private static final int DEAL_KIND = 1;
    private static final int DEAL_FIRST = 2;
    private static final int DEAL_SECOND = 3;
    private static final int DEAL_PRICE = 4;
    private static final int DEAL_PLACES = 5;
    private static final int KIND_SWAP = 0;
    private static final int KIND_BUYOUT = 1;

    private static final int ACT_DONE = 0;
    private static final int WRONG_STATE = 1;
    private static final int TOO_EARLY = 2;
    private static final int WOULD_CLASH = 3;
    private static final int NOT_POSSIBLE = 4;
    private static final int NO_BARGAIN = 5;

    private static final int BAD_TOKEN = 1;
    private static final int BAD_NUMBER = 2;
    private static final int BAD_COUNT = 3;
    private static final int BAD_SPAN = 4;

    private final byte[] text = new byte[MOST_TEXT];
    private int textLength = 0;
    private int latestError = 0;
    private int latestPosition = NONE;

    private final Ledger ledger = new Ledger();
    // Setups and predictions are tried here, so that an error or a look ahead changes nothing.
    private final Ledger trial = new Ledger();
    // A slot is null until something is saved there.
    private final Ledger[] saved = new Ledger[SLOTS];
    private final Broker broker = new Broker(ledger);
    private final SetupReader reader = new SetupReader(text, trial);

    private int draftFrom = 0;
    private int draftLength = 1;
    private int draftDuration = 1;

    private final byte[] line = new byte[MOST_SIZE];
    private int lineLength = 0;

    /** Creates a file of 32 bytes without owners and bookings. */
    public SpanLodge() {
    }

    // ---- setup texts

    /** Appends four bytes to the text buffer, the highest byte of the parameter first. */
    public int appendText(int fourBytes) throws IllegalStateException {
        if (textLength > MOST_TEXT - 4) {
            throw new IllegalStateException("the text would be too long");
        }
        for (int shift = 24; shift >= 0; shift -= 8) {
            text[textLength] = (byte) (fourBytes >>> shift);
            textLength++;
        }
        return textLength;
    }

    /** Cuts the text to its first bytes. */
    public int truncateText(int length) throws IllegalArgumentException {
        needWithin(length, 0, textLength);
        textLength = length;
        return textLength;
    }

    /** Reads the text as a setup, which replaces everything except saved states. */
    public int load() {
        boolean isSetup = reader.readSetup(textLength);
        textLength = 0;
        latestError = reader.errorKind;
        latestPosition = reader.errorAt;
        if (!isSetup) {
            return NONE;
        }
        ledger.copyFrom(trial);
        resetDraft();
        return ledger.bookingCount;
    }

    /** The error code of the latest load(). */
    public int errorCode() {
        return latestError;
    }

    /** The error position of the latest load(). */
    public int errorPosition() {
        return latestPosition;
    }

    // ---- owners and settings

    /** Adds an owner. */
    public int addOwner(int credit) throws IllegalArgumentException, IllegalStateException {
        needWithin(credit, 0, MOST_CREDIT);
        if (ledger.ownerCount >= MOST_OWNERS) {
            throw new IllegalStateException("there are 8 owners");
        }
        return ledger.enterOwner(credit);
    }

    /** Changes a setting. */
    public int set(int what, int value) throws IllegalArgumentException {
        needWithin(what, 0, SETTINGS - 1);
        needWithin(value, SETTING_LEAST[what], SETTING_MOST[what]);
        int previous = ledger.settings[what];
        ledger.settings[what] = value;
        return previous;
    }

    /** Tells a setting or a number of the whole. */
    public int count(int what) throws IllegalArgumentException {
        needWithin(what, 0, ASK_BYTES_NOW);
        switch (what) {
            case ASK_SIZE:
                return ledger.size;
            case ASK_OWNERS:
                return ledger.ownerCount;
            case ASK_BOOKINGS:
                return ledger.bookingCount;
            case ASK_TIME:
                return ledger.time;
            case ASK_WAITING:
                return ledger.countIn(WAITING);
            case ASK_BOOKED:
                return ledger.countIn(BOOKED);
            case ASK_HELD:
                return ledger.countIn(HELD);
            case ASK_SWAPS:
                return ledger.swaps;
            case ASK_BUYOUTS:
                return ledger.buyouts;
            case ASK_BYTES_NOW:
                return ledger.usedWithin(1);
            default:
                return ledger.settings[what];
        }
    }

    /** Tells a number of an owner. */
    public int owner(int owner, int what)
            throws IndexOutOfBoundsException, IllegalArgumentException {
        needOwner(owner);
        needWithin(what, 0, ASK_OWNER_JOY);
        switch (what) {
            case ASK_ACTIVE:
                return ledger.activeOf(owner);
            case ASK_BARRED:
                return ledger.isBarred(owner) ? 1 : 0;
            case ASK_OWNER_JOY:
                return ledger.joyOfOwner(owner);
            default:
                return ledger.owners[owner][what];
        }
    }

    /** The part of an owner's promises that it kept. */
    public double trust(int owner) throws IndexOutOfBoundsException {
        needOwner(owner);
        int kept = ledger.owners[owner][KEPT];
        int all = kept + ledger.brokenOf(owner);
        if (all == 0) {
            return 1.0;
        }
        return (double) kept / (double) all;
    }

    /** Takes all no-shows and late cancellations of an owner back. */
    public int forgive(int owner) throws IndexOutOfBoundsException {
        needOwner(owner);
        int broken = ledger.brokenOf(owner);
        ledger.owners[owner][NO_SHOWS] = 0;
        ledger.owners[owner][LATE_CANCELS] = 0;
        return broken;
    }

    // ---- bookings

    /** Sets the span and the DURATION of the next bookings. */
    public void draft(int from, int length, int duration)
            throws IndexOutOfBoundsException, IllegalArgumentException {
        needSpan(from, length);
        needWithin(duration, 1, MOST_DURATION);
        draftFrom = from;
        draftLength = length;
        draftDuration = duration;
    }

    /** Makes a booking with the draft at its best time; without one it waits. */
    public int book(int owner, int wish, int flex, int urgency)
            throws IndexOutOfBoundsException, IllegalArgumentException, IllegalStateException {
        needOwner(owner);
        needWithin(wish, 0, MOST_WISH);
        needWithin(flex, 0, MOST_FLEX);
        needWithin(urgency, 1, MOST_URGENCY);
        if (wish + flex < ledger.time) {
            throw new IllegalArgumentException("all its times are over");
        }
        if (ledger.bookingCount >= MOST_BOOKINGS) {
            throw new IllegalStateException("there are 40 bookings");
        }
        if (ledger.hasLimit(owner) || ledger.isBarred(owner)) {
            throw new IllegalStateException("the owner may not book");
        }
        return ledger.enterBooking(
                owner, draftFrom, draftLength, draftDuration, wish, flex, urgency);
    }

    /** Tells a number of a booking. */
    public int booking(int booking, int what)
            throws IndexOutOfBoundsException, IllegalArgumentException {
        needBooking(booking);
        needWithin(what, 0, ASK_BEST_TIME);
        switch (what) {
            case ASK_JOY:
                return ledger.joyOf(booking);
            case ASK_BEST_TIME:
                return ledger.isIn(booking, WAITING) ? ledger.bestTime(booking) : NONE;
            default:
                return ledger.bookings[booking][what];
        }
    }

    /** The waiting booking at a place of the order in which they are placed. */
    public int waiter(int index) throws IndexOutOfBoundsException {
        if (index < 0) {
            throw new IndexOutOfBoundsException("the index is negative");
        }
        return ledger.waiterAt(index);
    }

    /** Takes all bookings away that neither wait nor are live. */
    public int clean() {
        return ledger.dropEnded();
    }

    // ---- acts: 0 if it is done, otherwise the reason

    /** The owner of a booking has come: it is held. */
    public int arrive(int booking) throws IndexOutOfBoundsException {
        needBooking(booking);
        int[] row = ledger.bookings[booking];
        if (row[STATE] != BOOKED) {
            return WRONG_STATE;
        }
        if (ledger.time < row[BEGIN]) {
            return TOO_EARLY;
        }
        row[STATE] = HELD;
        ledger.owners[row[OWNER]][LATE_TICKS] += ledger.time - row[BEGIN];
        return ACT_DONE;
    }

    /** The owner of a booking leaves: it is done. */
    public int leave(int booking) throws IndexOutOfBoundsException {
        needBooking(booking);
        int[] row = ledger.bookings[booking];
        if (row[STATE] != HELD) {
            return WRONG_STATE;
        }
        row[STATE] = DONE;
        row[END] = ledger.time;
        ledger.owners[row[OWNER]][KEPT]++;
        ledger.placeWaiting();
        return ACT_DONE;
    }

    /** Lets a live booking end later. */
    public int extend(int booking, int ticks)
            throws IndexOutOfBoundsException, IllegalArgumentException {
        needBooking(booking);
        needWithin(ticks, 1, MOST_LONGER);
        int[] row = ledger.bookings[booking];
        if (row[STATE] != BOOKED && row[STATE] != HELD) {
            return WRONG_STATE;
        }
        if (ledger.wouldClash(booking, row[BEGIN], row[END] + ticks, booking)) {
            return WOULD_CLASH;
        }
        row[END] += ticks;
        ledger.placeWaiting();
        return ACT_DONE;
    }

    /** Cancels a booking. */
    public int cancel(int booking) throws IndexOutOfBoundsException {
        needBooking(booking);
        int[] row = ledger.bookings[booking];
        if (row[STATE] != WAITING && row[STATE] != BOOKED) {
            return WRONG_STATE;
        }
        if (row[STATE] == BOOKED && row[BEGIN] < ledger.time + ledger.settings[NOTICE]) {
            ledger.owners[row[OWNER]][LATE_CANCELS]++;
        }
        row[STATE] = CANCELLED;
        ledger.placeWaiting();
        return ACT_DONE;
    }

    /** Evicts a booking: it waits again. */
    public int evict(int booking) throws IndexOutOfBoundsException {
        needBooking(booking);
        int[] row = ledger.bookings[booking];
        if (row[STATE] != BOOKED) {
            return WRONG_STATE;
        }
        ledger.letWait(booking);
        ledger.owners[row[OWNER]][EVICTED]++;
        ledger.placeWaiting();
        return ACT_DONE;
    }

    /** Makes a swap. */
    public int swap(int one, int other)
            throws IndexOutOfBoundsException, IllegalArgumentException {
        needBooking(one);
        needBooking(other);
        if (one == other) {
            throw new IllegalArgumentException("both are the same");
        }
        if (!ledger.isIn(one, BOOKED) || !ledger.isIn(other, BOOKED)) {
            return WRONG_STATE;
        }
        if (broker.swapGain(one, other) == 0) {
            return NOT_POSSIBLE;
        }
        broker.makeSwap(one, other);
        ledger.placeWaiting();
        return ACT_DONE;
    }

    /** Makes a buyout. */
    public int buy(int waiting, int booked) throws IndexOutOfBoundsException {
        needBooking(waiting);
        needBooking(booked);
        if (!ledger.isIn(waiting, WAITING) || !ledger.isIn(booked, BOOKED)) {
            return WRONG_STATE;
        }
        if (broker.buyoutGain(waiting, booked) == 0) {
            return NOT_POSSIBLE;
        }
        broker.makeBuyout(waiting, booked);
        ledger.placeWaiting();
        return ACT_DONE;
    }

    /** Makes the best bargain. */
    public int bargain() {
        if (!broker.findBest()) {
            return NO_BARGAIN;
        }
        broker.makeFound();
        ledger.placeWaiting();
        return ACT_DONE;
    }

    // ---- time

    /** Lets ticks pass. */
    public int pass(int ticks) throws IllegalArgumentException, IllegalStateException {
        needWithin(ticks, 1, MOST_TICKS);
        if (ledger.time > LAST_TIME - ticks) {
            throw new IllegalStateException("the time would be too great");
        }
        return tallyOf(ledger, ticks, TALLY_BUMPED);
    }

    // ---- what could be

    /** The gain of the swap or the buyout of two bookings. */
    public int gain(int first, int second) throws IndexOutOfBoundsException {
        needBooking(first);
        needBooking(second);
        if (first == second || !ledger.isIn(second, BOOKED)) {
            return 0;
        }
        if (ledger.isIn(first, BOOKED)) {
            return broker.swapGain(first, second);
        }
        return ledger.isIn(first, WAITING) ? broker.buyoutGain(first, second) : 0;
    }

    /** Tells a number of the best bargain. */
    public int best(int what) throws IllegalArgumentException {
        needWithin(what, 0, DEAL_PLACES - 1);
        return broker.findBest() ? broker.found[what] : NONE;
    }

    /** The live booking that has a byte at a time. */
    public int holder(int at, int time)
            throws IndexOutOfBoundsException, IllegalArgumentException {
        needByte(at);
        needWithin(time, 0, LAST_LOOK);
        return ledger.holderAt(at, time);
    }

    /** The earliest time, from this one on, at which a booking with the draft would fit. */
    public int nextFree(int from) throws IllegalArgumentException {
        needWithin(from, ledger.time, LAST_TIME);
        return ledger.earliestFit(
                draftFrom, draftLength, draftDuration, from, from + FREE_REACH);
    }

    /** Whether each byte of a span is held now by a booking of an owner. */
    public boolean mayWrite(int owner, int from, int length)
            throws IndexOutOfBoundsException, IllegalArgumentException {
        needOwner(owner);
        needSpan(from, length);
        for (int at = from; at < from + length; at++) {
            if (!ledger.isHeldNow(at, owner)) {
                return false;
            }
        }
        return true;
    }

    /** The part of all bytes and ticks from the present time on that is booked. */
    public float usage(int ticks) throws IllegalArgumentException {
        needWithin(ticks, 1, MOST_TICKS);
        int all = ledger.size * ticks;
        if (all == 0) {
            return 0.0f;
        }
        return (float) ledger.usedWithin(ticks) / (float) all;
    }

    /** Predicts behind how many ticks a waiting booking waits no more. */
    public int waitsFor(int booking, int most)
            throws IndexOutOfBoundsException, IllegalArgumentException {
        needBooking(booking);
        needWithin(most, 1, MOST_TICKS);
        if (!ledger.isIn(booking, WAITING)) {
            return 0;
        }
        trial.copyFrom(ledger);
        for (int ticks = 1; ticks <= most; ticks++) {
            trial.tick();
            if (!trial.isIn(booking, WAITING)) {
                return ticks;
            }
        }
        return NONE;
    }

    /** Predicts how many bookings will be bumped, expire, be placed or be done. */
    public int ahead(int ticks, int what) throws IllegalArgumentException {
        needWithin(ticks, 1, MOST_TICKS);
        needWithin(what, 0, TALLIES - 1);
        trial.copyFrom(ledger);
        return tallyOf(trial, ticks, what);
    }

    /** Writes a line for a time: for each byte the number of its owner, or a point. */
    public int show(int time) throws IllegalArgumentException {
        needWithin(time, 0, LAST_LOOK);
        for (int at = 0; at < ledger.size; at++) {
            int booking = ledger.holderAt(at, time);
            line[at] = (byte) (booking == NONE ? '.' : '0' + ledger.bookings[booking][OWNER]);
        }
        lineLength = ledger.size;
        return lineLength;
    }

    /** A byte of the line that was written last. */
    public int shown(int index) {
        return index >= 0 && index < lineLength ? line[index] : NONE;
    }

    // ---- saved states

    /** Saves the file with its owners, bookings, settings and time. */
    public void save(int slot) throws IllegalArgumentException {
        needWithin(slot, 0, SLOTS - 1);
        if (saved[slot] == null) {
            saved[slot] = new Ledger();
        }
        saved[slot].copyFrom(ledger);
    }

    /** Brings back a saved state, which stays saved. */
    public void restore(int slot) throws IllegalArgumentException, IllegalStateException {
        needWithin(slot, 0, SLOTS - 1);
        Ledger kept = saved[slot];
        if (kept == null) {
            throw new IllegalStateException("nothing is saved there");
        }
        ledger.copyFrom(kept);
        resetDraft();
    }

    // The draft of an earlier file could lie outside of this one.
    private void resetDraft() {
        draftFrom = 0;
        draftLength = 1;
        draftDuration = 1;
    }

    private static int tallyOf(Ledger passing, int ticks, int what) {
        passing.clearTally();
        for (int i = 0; i < ticks; i++) {
            passing.tick();
        }
        return passing.tally[what];
    }

    private static void needWithin(int value, int least, int most) {
        if (value < least || value > most) {
            throw new IllegalArgumentException("an argument is out of range");
        }
    }

    private void needOwner(int owner) {
        if (owner < 0 || owner >= ledger.ownerCount) {
            throw new IndexOutOfBoundsException("there is no such owner");
        }
    }

    private void needBooking(int booking) {
        if (booking < 0 || booking >= ledger.bookingCount) {
            throw new IndexOutOfBoundsException("there is no such booking");
        }
    }

    private void needByte(int at) {
        if (at < 0 || at >= ledger.size) {
            throw new IndexOutOfBoundsException("there is no such byte");
        }
    }

    private void needSpan(int from, int length) {
        needByte(from);
        if (length > ledger.size - from) {
            throw new IndexOutOfBoundsException("the span does not end within the file");
        }
        if (length < 1) {
            throw new IllegalArgumentException("the length is less than 1");
        }
    }

    /** The file with its owners, bookings, settings and time: all that is saved. */
    private static final class Ledger {
        final int[] settings = new int[SETTINGS];
        final int[][] owners = new int[MOST_OWNERS][OWNER_PLACES];
        final int[][] bookings = new int[MOST_BOOKINGS][BOOKING_PLACES];
        // What happened in the ticks since clearTally().
        final int[] tally = new int[TALLIES];
        private final int[] queue = new int[MOST_BOOKINGS];
        int size;
        int time;
        int ownerCount;
        int bookingCount;
        int swaps;
        int buyouts;

        Ledger() {
            startWith(FIRST_SIZE);
        }

        void startWith(int bytes) {
            size = bytes;
            time = 0;
            ownerCount = 0;
            bookingCount = 0;
            swaps = 0;
            buyouts = 0;
            System.arraycopy(SETTING_FIRST, 0, settings, 0, SETTINGS);
        }

        void copyFrom(Ledger other) {
            size = other.size;
            time = other.time;
            ownerCount = other.ownerCount;
            bookingCount = other.bookingCount;
            swaps = other.swaps;
            buyouts = other.buyouts;
            System.arraycopy(other.settings, 0, settings, 0, SETTINGS);
            for (int i = 0; i < ownerCount; i++) {
                System.arraycopy(other.owners[i], 0, owners[i], 0, OWNER_PLACES);
            }
            for (int i = 0; i < bookingCount; i++) {
                System.arraycopy(other.bookings[i], 0, bookings[i], 0, BOOKING_PLACES);
            }
        }

        void clearTally() {
            for (int i = 0; i < TALLIES; i++) {
                tally[i] = 0;
            }
        }

        // ---- owners

        int enterOwner(int credit) {
            int[] row = owners[ownerCount];
            for (int i = 0; i < OWNER_PLACES; i++) {
                row[i] = 0;
            }
            row[CREDIT] = credit;
            ownerCount++;
            return ownerCount - 1;
        }

        int brokenOf(int owner) {
            return owners[owner][NO_SHOWS] + owners[owner][LATE_CANCELS];
        }

        boolean isBarred(int owner) {
            return brokenOf(owner) >= settings[STRIKES];
        }

        /** How many bookings of an owner wait or are live. */
        int activeOf(int owner) {
            int active = 0;
            for (int b = 0; b < bookingCount; b++) {
                if (bookings[b][OWNER] == owner && isActive(b)) {
                    active++;
                }
            }
            return active;
        }

        boolean hasLimit(int owner) {
            return activeOf(owner) >= settings[LIMIT];
        }

        int joyOfOwner(int owner) {
            int joy = 0;
            for (int b = 0; b < bookingCount; b++) {
                if (bookings[b][OWNER] == owner) {
                    joy += joyOf(b);
                }
            }
            return joy;
        }

        // ---- bookings

        int enterBooking(int owner, int from, int length, int duration,
                int wish, int flex, int urgency) {
            int booking = bookingCount;
            int[] row = bookings[booking];
            row[OWNER] = owner;
            row[FROM] = from;
            row[LENGTH] = length;
            row[DURATION] = duration;
            row[WISH] = wish;
            row[FLEX] = flex;
            row[URGENCY] = urgency;
            letWait(booking);
            bookingCount++;
            bookAt(booking, bestTime(booking));
            return booking;
        }

        void letWait(int booking) {
            int[] row = bookings[booking];
            row[STATE] = WAITING;
            row[BEGIN] = NONE;
            row[END] = NONE;
        }

        /** Books a waiting booking at a time and tells whether there is such a time. */
        boolean bookAt(int booking, int begin) {
            if (begin == NONE) {
                return false;
            }
            int[] row = bookings[booking];
            row[STATE] = BOOKED;
            row[BEGIN] = begin;
            row[END] = begin + row[DURATION];
            return true;
        }

        boolean isIn(int booking, int state) {
            return bookings[booking][STATE] == state;
        }

        boolean isActive(int booking) {
            int state = bookings[booking][STATE];
            return state == WAITING || state == BOOKED || state == HELD;
        }

        int countIn(int state) {
            int found = 0;
            for (int b = 0; b < bookingCount; b++) {
                if (bookings[b][STATE] == state) {
                    found++;
                }
            }
            return found;
        }

        int dropEnded() {
            int kept = 0;
            for (int b = 0; b < bookingCount; b++) {
                if (isActive(b)) {
                    System.arraycopy(bookings[b], 0, bookings[kept], 0, BOOKING_PLACES);
                    kept++;
                }
            }
            int dropped = bookingCount - kept;
            bookingCount = kept;
            return dropped;
        }

        int joyOf(int booking) {
            int[] row = bookings[booking];
            return row[STATE] == BOOKED ? joyAt(booking, row[BEGIN]) : 0;
        }

        int joyAt(int booking, int begin) {
            int[] row = bookings[booking];
            int steps = MOST_JOY_STEPS - Math.abs(begin - row[WISH]);
            return steps > 0 ? row[URGENCY] * steps : 0;
        }

        // ---- bytes and times

        /** The first live booking, but for two, with a byte of a span and one of some ticks. */
        int clashing(int from, int length, int begin, int end, int but, int orBut) {
            for (int b = 0; b < bookingCount; b++) {
                int[] row = bookings[b];
                if ((row[STATE] == BOOKED || row[STATE] == HELD) && b != but && b != orBut
                        && row[FROM] < from + length && from < row[FROM] + row[LENGTH]
                        && row[BEGIN] < end && begin < row[END]) {
                    return b;
                }
            }
            return NONE;
        }

        /** Whether a booking with these times would clash with a live one but itself and one. */
        boolean wouldClash(int booking, int begin, int end, int but) {
            int[] row = bookings[booking];
            return clashing(row[FROM], row[LENGTH], begin, end, booking, but) != NONE;
        }

        int holderAt(int at, int when) {
            return clashing(at, 1, when, when + 1, NONE, NONE);
        }

        boolean isHeldNow(int at, int owner) {
            int booking = holderAt(at, time);
            return booking != NONE && bookings[booking][STATE] == HELD
                    && bookings[booking][OWNER] == owner;
        }

        /** How many bytes are booked, summed up over some ticks from the present time on. */
        int usedWithin(int ticks) {
            int used = 0;
            for (int b = 0; b < bookingCount; b++) {
                int[] row = bookings[b];
                if (row[STATE] == BOOKED || row[STATE] == HELD) {
                    int common = Math.min(row[END], time + ticks) - Math.max(row[BEGIN], time);
                    used += common > 0 ? common * row[LENGTH] : 0;
                }
            }
            return used;
        }

        /** The earliest time from first to last at which something new would fit. */
        int earliestFit(int from, int length, int duration, int first, int last) {
            int begin = Math.max(first, time);
            // Behind a booking it clashes with no more, so that each one is met once at most.
            for (int met = 0; met <= bookingCount && begin <= last; met++) {
                int booking = clashing(from, length, begin, begin + duration, NONE, NONE);
                if (booking == NONE) {
                    return begin;
                }
                begin = bookings[booking][END];
            }
            return NONE;
        }

        /** The latest time from last back to first at which something new would fit. */
        int latestFit(int from, int length, int duration, int first, int last) {
            int least = Math.max(first, time);
            int begin = last;
            // Ahead of a booking it clashes with no more, so that each one is met once at most.
            for (int met = 0; met <= bookingCount && begin >= least; met++) {
                int booking = clashing(from, length, begin, begin + duration, NONE, NONE);
                if (booking == NONE) {
                    return begin;
                }
                begin = bookings[booking][BEGIN] - duration;
            }
            return NONE;
        }

        /** The best time of a waiting booking. */
        int bestTime(int booking) {
            int[] row = bookings[booking];
            int wish = row[WISH];
            int later = earliestFit(
                    row[FROM], row[LENGTH], row[DURATION], wish, wish + row[FLEX]);
            int earlier = latestFit(
                    row[FROM], row[LENGTH], row[DURATION], wish - row[FLEX], wish);
            if (earlier == NONE) {
                return later;
            }
            return later != NONE && later - wish < wish - earlier ? later : earlier;
        }

        // ---- placing and ticks

        void placeWaiting() {
            int waiting = queueUp();
            for (int i = 0; i < waiting; i++) {
                if (bookAt(queue[i], bestTime(queue[i]))) {
                    tally[TALLY_PLACED]++;
                }
            }
        }

        int waiterAt(int index) {
            int waiting = queueUp();
            return index >= 0 && index < waiting ? queue[index] : NONE;
        }

        /** Puts the waiting bookings into the queue in their order and counts them. */
        private int queueUp() {
            int waiting = 0;
            for (int b = 0; b < bookingCount; b++) {
                if (bookings[b][STATE] == WAITING) {
                    int broken = brokenOf(bookings[b][OWNER]);
                    int place = waiting;
                    while (place > 0 && brokenOf(bookings[queue[place - 1]][OWNER]) > broken) {
                        queue[place] = queue[place - 1];
                        place--;
                    }
                    queue[place] = b;
                    waiting++;
                }
            }
            return waiting;
        }

        void tick() {
            time++;
            int freed = finishHeld() + bumpLate();
            expireWaiting();
            // Who waits found no time when places became free last, and passing time brings none.
            if (freed > 0) {
                placeWaiting();
            }
        }

        private int finishHeld() {
            int finished = 0;
            for (int b = 0; b < bookingCount; b++) {
                int[] row = bookings[b];
                if (row[STATE] == HELD && row[END] <= time) {
                    row[STATE] = DONE;
                    owners[row[OWNER]][KEPT]++;
                    finished++;
                }
            }
            tally[TALLY_DONE] += finished;
            return finished;
        }

        private int bumpLate() {
            int bumped = 0;
            for (int b = 0; b < bookingCount; b++) {
                int[] row = bookings[b];
                if (row[STATE] == BOOKED && row[BEGIN] + settings[GRACE] < time) {
                    row[STATE] = BUMPED;
                    owners[row[OWNER]][NO_SHOWS]++;
                    bumped++;
                }
            }
            tally[TALLY_BUMPED] += bumped;
            return bumped;
        }

        private void expireWaiting() {
            for (int b = 0; b < bookingCount; b++) {
                int[] row = bookings[b];
                if (row[STATE] == WAITING && row[WISH] + row[FLEX] < time) {
                    row[STATE] = EXPIRED;
                    owners[row[OWNER]][EXPIRIES]++;
                    tally[TALLY_EXPIRED]++;
                }
            }
        }
    }

    /** Finds and makes the bargains of a ledger; a bargain that is possible gains 1 or more. */
    private static final class Broker {
        private final Ledger ledger;
        /** The best bargain that was found last. */
        final int[] found = new int[DEAL_PLACES];

        Broker(Ledger ledger) {
            this.ledger = ledger;
        }

        /** The gain of the swap of two booked bookings; 0 if it is not possible. */
        int swapGain(int one, int other) {
            int[] a = ledger.bookings[one];
            int[] b = ledger.bookings[other];
            if (a[END] - a[BEGIN] != b[END] - b[BEGIN]
                    || a[BEGIN] < ledger.time || b[BEGIN] < ledger.time) {
                return 0;
            }
            int gainOfOne = ledger.joyAt(one, b[BEGIN]) - ledger.joyAt(one, a[BEGIN]);
            int gainOfOther = ledger.joyAt(other, a[BEGIN]) - ledger.joyAt(other, b[BEGIN]);
            if (gainOfOne <= 0 || gainOfOther <= 0
                    || ledger.wouldClash(one, b[BEGIN], b[END], other)
                    || ledger.wouldClash(other, a[BEGIN], a[END], one)) {
                return 0;
            }
            return gainOfOne + gainOfOther;
        }

        /** The gain of the buyout of a booked booking by a waiting one; 0 if not possible. */
        int buyoutGain(int waiting, int booked) {
            int[] row = ledger.bookings[waiting];
            int begin = ledger.bookings[booked][BEGIN];
            if (begin < ledger.time || Math.abs(begin - row[WISH]) > row[FLEX]) {
                return 0;
            }
            int joyBefore = ledger.joyAt(booked, begin);
            int joyThen = ledger.joyAt(waiting, begin);
            int price = priceOf(waiting, booked);
            if (price <= joyBefore || price >= joyThen
                    || ledger.owners[row[OWNER]][CREDIT] < price
                    || ledger.wouldClash(waiting, begin, begin + row[DURATION], booked)) {
                return 0;
            }
            return joyThen - joyBefore;
        }

        private int priceOf(int waiting, int booked) {
            int begin = ledger.bookings[booked][BEGIN];
            return (ledger.joyAt(waiting, begin) + ledger.joyAt(booked, begin)) / 2;
        }

        void makeSwap(int one, int other) {
            int[] a = ledger.bookings[one];
            int[] b = ledger.bookings[other];
            int begin = a[BEGIN];
            int end = a[END];
            a[BEGIN] = b[BEGIN];
            a[END] = b[END];
            b[BEGIN] = begin;
            b[END] = end;
            countBargain(one, other);
            ledger.swaps++;
        }

        void makeBuyout(int waiting, int booked) {
            int price = priceOf(waiting, booked);
            int begin = ledger.bookings[booked][BEGIN];
            ledger.letWait(booked);
            ledger.bookAt(waiting, begin);
            ledger.owners[ledger.bookings[waiting][OWNER]][CREDIT] -= price;
            ledger.owners[ledger.bookings[booked][OWNER]][CREDIT] += price;
            countBargain(waiting, booked);
            ledger.buyouts++;
        }

        private void countBargain(int first, int second) {
            ledger.owners[ledger.bookings[first][OWNER]][BARGAINS]++;
            ledger.owners[ledger.bookings[second][OWNER]][BARGAINS]++;
        }

        /** Looks for the best bargain and tells whether there is one. */
        boolean findBest() {
            found[DEAL_GAIN] = 0;
            // Of equal gains the first one that is met stays: a swap, then the lower numbers.
            findBestSwap();
            findBestBuyout();
            return found[DEAL_GAIN] > 0;
        }

        private void findBestSwap() {
            for (int one = 0; one < ledger.bookingCount; one++) {
                for (int other = one + 1; other < ledger.bookingCount; other++) {
                    if (ledger.isIn(one, BOOKED) && ledger.isIn(other, BOOKED)) {
                        keepBetter(swapGain(one, other), KIND_SWAP, one, other);
                    }
                }
            }
        }

        private void findBestBuyout() {
            for (int waiting = 0; waiting < ledger.bookingCount; waiting++) {
                for (int booked = 0; booked < ledger.bookingCount; booked++) {
                    if (ledger.isIn(waiting, WAITING) && ledger.isIn(booked, BOOKED)) {
                        keepBetter(buyoutGain(waiting, booked), KIND_BUYOUT, waiting, booked);
                    }
                }
            }
        }

        private void keepBetter(int gain, int kind, int first, int second) {
            if (gain > found[DEAL_GAIN]) {
                found[DEAL_GAIN] = gain;
                found[DEAL_KIND] = kind;
                found[DEAL_FIRST] = first;
                found[DEAL_SECOND] = second;
                found[DEAL_PRICE] = kind == KIND_BUYOUT ? priceOf(first, second) : 0;
            }
        }

        /** Makes the bargain that was found last. */
        void makeFound() {
            if (found[DEAL_KIND] == KIND_SWAP) {
                makeSwap(found[DEAL_FIRST], found[DEAL_SECOND]);
            } else {
                makeBuyout(found[DEAL_FIRST], found[DEAL_SECOND]);
            }
        }
    }

    /** Reads a text as a setup into a ledger, up to the first token that is wrong. */
    private static final class SetupReader {
        private static final int AT_END = 0;
        private static final int WORD = 1;
        private static final int NUMBER = 2;
        private static final int SEMICOLON = 3;
        private static final int STRAY = 4;
        // Numbers may be longer than an int: they are cut here, far above each range.
        private static final int HUGE = 1000000;

        private final byte[] text;
        private final Ledger into;
        private int length;
        private int next;
        // The token that is looked at.
        private int kind;
        private int start;
        private int number;
        /** The error code and the error position; 0 and NONE without an error. */
        int errorKind;
        int errorAt;

        SetupReader(byte[] text, Ledger into) {
            this.text = text;
            this.into = into;
        }

        /** Reads the first bytes of the text and tells whether they are a setup. */
        boolean readSetup(int textLength) {
            length = Math.min(textLength, text.length);
            next = 0;
            errorKind = 0;
            errorAt = NONE;
            advance();
            if (!readSize() || !readSemicolon()) {
                return false;
            }
            // Each statement takes some bytes of the text.
            for (int left = length; left > 0 && kind != AT_END; left--) {
                boolean isStatement = isWord("owner") ? readOwner()
                        : isWord("book") ? readBook()
                        : isWord("set") ? readSetting()
                        : fail(BAD_TOKEN);
                if (!isStatement || !readSemicolon()) {
                    return false;
                }
            }
            return true;
        }

        private boolean readSize() {
            if (!isWord("size")) {
                return fail(BAD_TOKEN);
            }
            advance();
            int size = readNumber(1, MOST_SIZE);
            if (size == NONE) {
                return false;
            }
            into.startWith(size);
            return true;
        }

        private boolean readOwner() {
            if (into.ownerCount >= MOST_OWNERS) {
                return fail(BAD_COUNT);
            }
            advance();
            int credit = readNumber(0, MOST_CREDIT);
            if (credit == NONE) {
                return false;
            }
            into.enterOwner(credit);
            return true;
        }

        private boolean readSetting() {
            advance();
            int what = readNumber(0, SETTINGS - 1);
            if (what == NONE) {
                return false;
            }
            int value = readNumber(SETTING_LEAST[what], SETTING_MOST[what]);
            if (value == NONE) {
                return false;
            }
            into.settings[what] = value;
            return true;
        }

        private boolean readBook() {
            if (into.bookingCount >= MOST_BOOKINGS) {
                return fail(BAD_COUNT);
            }
            advance();
            int owner = readBookingOwner();
            int from = owner == NONE ? NONE : readNumber(0, into.size - 1);
            int span = from == NONE ? NONE : readLength(from);
            int duration = span == NONE ? NONE : readNumber(1, MOST_DURATION);
            int wish = duration == NONE ? NONE : readNumber(0, MOST_WISH);
            int flex = wish == NONE ? NONE : readOption("flex", 0, MOST_FLEX, 0);
            int urgency = flex == NONE ? NONE : readOption("urgency", 1, MOST_URGENCY, 1);
            if (urgency == NONE) {
                return false;
            }
            into.enterBooking(owner, from, span, duration, wish, flex, urgency);
            return true;
        }

        private int readBookingOwner() {
            int owner = checkNumber(0, into.ownerCount - 1);
            if (owner == NONE) {
                return NONE;
            }
            if (into.hasLimit(owner)) {
                fail(BAD_COUNT);
                return NONE;
            }
            advance();
            return owner;
        }

        private int readLength(int from) {
            int span = checkNumber(1, HUGE);
            if (span == NONE) {
                return NONE;
            }
            if (span > into.size - from) {
                fail(BAD_SPAN);
                return NONE;
            }
            advance();
            return span;
        }

        /** Reads a word and its number; without the word it is another number. */
        private int readOption(String word, int least, int most, int otherwise) {
            if (!isWord(word)) {
                return otherwise;
            }
            advance();
            return readNumber(least, most);
        }

        /** Reads a number; NONE if there is an error. */
        private int readNumber(int least, int most) {
            int value = checkNumber(least, most);
            if (value != NONE) {
                advance();
            }
            return value;
        }

        /** Looks at a number without reading on; NONE if there is an error. */
        private int checkNumber(int least, int most) {
            if (kind != NUMBER) {
                fail(BAD_TOKEN);
                return NONE;
            }
            if (number < least || number > most) {
                fail(BAD_NUMBER);
                return NONE;
            }
            return number;
        }

        private boolean readSemicolon() {
            if (kind != SEMICOLON) {
                return fail(BAD_TOKEN);
            }
            advance();
            return true;
        }

        private boolean fail(int code) {
            errorKind = code;
            errorAt = start;
            return false;
        }

        private boolean isWord(String word) {
            if (kind != WORD || next - start != word.length()) {
                return false;
            }
            for (int i = 0; i < word.length(); i++) {
                if (text[start + i] != word.charAt(i)) {
                    return false;
                }
            }
            return true;
        }

        /** Goes on to the next token. */
        private void advance() {
            while (next < length && (text[next] == ' ' || text[next] == '\n')) {
                next++;
            }
            start = next;
            number = 0;
            if (next >= length) {
                kind = AT_END;
            } else if (isLetter(text[next])) {
                kind = WORD;
                passLetters();
            } else if (isDigit(text[next])) {
                kind = NUMBER;
                passDigits();
            } else {
                kind = text[next] == ';' ? SEMICOLON : STRAY;
                next++;
            }
        }

        private void passLetters() {
            while (next < length && isLetter(text[next])) {
                next++;
            }
        }

        private void passDigits() {
            while (next < length && isDigit(text[next])) {
                number = Math.min(number * 10 + text[next] - '0', HUGE);
                next++;
            }
        }

        private static boolean isLetter(byte sign) {
            return sign >= 'a' && sign <= 'z';
        }

        private static boolean isDigit(byte sign) {
            return sign >= '0' && sign <= '9';
        }
    }
}
