import java.util.function.Supplier;

/**
 * Long runs of calls, chosen by a counter with a fixed start: SpanLodge and PlainLodge have to
 * answer each of them alike. An object gets 512 calls at most: what it answers then is free.
 */
public final class RandomRuns {
    private static final int RUNS = 3000;
    private static final int CALLS = 512;
    private static final int[] TIMES_SEEN = new int[6];

    private final int run;
    private final SpanLodge x = new SpanLodge();
    private final PlainLodge y = new PlainLodge();
    private long seed;
    private int calls = 0;
    private int wrong = 0;
    // A tight run has bookings of one DURATION that stand in each other's way: swaps come of it.
    private boolean tight = false;

    private RandomRuns(int run) {
        this.run = run;
        this.seed = run * 7919L + 17;
    }

    public static void main(String[] args) {
        int runs = args.length > 0 ? Integer.parseInt(args[0]) : RUNS;
        int wrong = 0;
        for (int run = 0; run < runs && wrong < 20; run++) {
            wrong += new RandomRuns(run).go();
        }
        for (int what = 0; what < 6 && args.length == 0; what++) {
            // A comparison that never meets an act would say nothing about it.
            if (TIMES_SEEN[what] < 50) {
                wrong++;
                System.out.println("random runs: act " + what + " was done too seldom");
            }
        }
        System.out.println("RandomRuns: " + (wrong == 0 ? "all answers are alike" : wrong + " differ"));
        System.exit(wrong == 0 ? 0 : 1);
    }

    private int upTo(int bound) {
        seed = seed * 6364136223846793005L + 1442695040888963407L;
        return (int) ((seed >>> 33) % bound);
    }

    private int from(int least, int most) {
        return least + upTo(most - least + 1);
    }

    /** Mostly a number of the range, seldom one at or beyond its edges. */
    private int about(int least, int most) {
        int way = upTo(40);
        if (way == 0) {
            return least - 1;
        }
        if (way == 1) {
            return most + 1;
        }
        if (way == 2) {
            int[] far = {Integer.MIN_VALUE, Integer.MAX_VALUE, -1, 0, 1, 1 << 30, -(1 << 30)};
            return far[upTo(far.length)];
        }
        if (way == 3) {
            return least;
        }
        if (way == 4) {
            return most;
        }
        return most < least ? least : from(least, most);
    }

    private static Object answer(Supplier<Object> call) {
        try {
            return call.get();
        } catch (IndexOutOfBoundsException | IllegalArgumentException | IllegalStateException e) {
            // The machine's own exceptions are classes below these: each is told by its own name.
            return e.getClass().getSimpleName();
        }
    }

    private Object same(String call, Supplier<Object> mine, Supplier<Object> plain) {
        if (calls >= CALLS) {
            return "no more calls";
        }
        calls++;
        Object a = answer(mine);
        Object b = answer(plain);
        if (!a.equals(b)) {
            wrong++;
            System.out.println("random run " + run + ": " + call + " answered " + a + ", due is " + b);
        }
        return a;
    }

    private int go() {
        prepare();
        // The rest of the calls tells what all the others have left behind.
        int acts = from(50, CALLS - 50);
        while (calls < acts && wrong == 0) {
            makeRoom();
            oneCall(upTo(100));
        }
        int first = upTo(4);
        for (int i = 0; i < 4; i++) {
            comparePart((first + i) % 4);
        }
        return wrong;
    }

    /** Without it most runs would soon stand still: all bookings used up, all owners barred. */
    private void makeRoom() {
        if (y.world.bookings.size() > 36 && upTo(4) == 0) {
            same("clean", x::clean, y::clean);
        }
        int owner = upTo(Math.max(1, y.world.owners.size()));
        if (owner < y.world.owners.size() && y.world.barred(owner) && upTo(4) == 0) {
            same("forgive", () -> x.forgive(owner), () -> y.forgive(owner));
        }
    }

    /** Mostly a booked booking that may be arrived at, if there is one. */
    private int aDueBooking() {
        for (int b = 0; b < y.world.bookings.size(); b++) {
            PlainLodge.Booking row = y.world.bookings.get(b);
            if (row.state == 1 && row.begin <= y.world.time && upTo(4) > 0) {
                return b;
            }
        }
        return aBookingIn(1);
    }

    private void prepare() {
        tight = upTo(2) == 0;
        int owners = from(1, 8);
        for (int i = 0; i < owners; i++) {
            int credit = upTo(3) == 0 ? 999 : from(0, 999);
            same("addOwner", () -> x.addOwner(credit), () -> y.addOwner(credit));
        }
        if (tight || upTo(2) == 0) {
            same("set", () -> x.set(2, 9), () -> y.set(2, 9));
        }
        if (tight || upTo(2) == 0) {
            same("set", () -> x.set(3, 9), () -> y.set(3, 9));
        }
        if (upTo(4) == 0) {
            same("set", () -> x.set(0, 50), () -> y.set(0, 50));
        }
    }

    private int anOwner() {
        return about(0, y.world.owners.size() - 1);
    }

    private int aBooking() {
        return about(0, y.world.bookings.size() - 1);
    }

    /** Mostly a booking in a state, if there is one. */
    private int aBookingIn(int state) {
        int start = upTo(40);
        boolean any = upTo(10) == 0;
        for (int i = 0; i < 40 && !any; i++) {
            int b = (start + i) % 40;
            if (b < y.world.bookings.size() && y.world.bookings.get(b).state == state) {
                return b;
            }
        }
        return aBooking();
    }

    private Object oneCall(int way) {
        if (way < 22) {
            return bookOne();
        } else if (way < 28) {
            return draftOne();
        } else if (way < 52) {
            return actOne();
        } else if (way < 62) {
            int most = upTo(10) == 0 ? 60 : 2;
            int ticks = upTo(40) == 0 ? about(1, 200) : from(1, most);
            return same("pass(" + ticks + ")", () -> x.pass(ticks), () -> y.pass(ticks));
        } else if (way < 67) {
            return manageOne();
        } else if (way < 69) {
            return upTo(3) > 0 ? askOne() : loadOne();
        } else if (way < 71) {
            return keepOne();
        }
        return upTo(2) == 0 ? askOne() : compareOne();
    }

    private Object draftOne() {
        int size = tight ? Math.min(8, y.world.size) : y.world.size;
        int from = tight ? 4 * upTo(2) : about(0, size - 1);
        int length = tight ? from(1, 4) : upTo(5) == 0 ? about(1, size) : about(1, Math.min(6, size));
        int duration = tight ? 4 : upTo(5) == 0 ? about(1, 99) : upTo(2) == 0 ? 5 : about(1, 12);
        return same("draft", () -> {
            x.draft(from, length, duration);
            return 0;
        }, () -> {
            y.draft(from, length, duration);
            return 0;
        });
    }

    private Object bookOne() {
        if (upTo(2) == 0) {
            draftOne();
        }
        int owner = anOwner();
        int near = tight ? Math.min(9999, (y.world.time / 4 + from(1, 6)) * 4)
                : Math.min(9999, y.world.time + upTo(30));
        int wish = upTo(20) == 0 ? about(0, 9999) : near;
        int flex = upTo(3) == 0 ? about(0, 99) : from(tight ? 10 : 0, 15);
        int urgency = about(1, 9);
        return same("book(" + owner + ", " + wish + ", " + flex + ", " + urgency + ")",
                () -> x.book(owner, wish, flex, urgency), () -> y.book(owner, wish, flex, urgency));
    }

    private void seen(int act, Object answer) {
        if (answer.equals(0)) {
            TIMES_SEEN[act]++;
        }
    }

    private Object actOne() {
        int one = aBookingIn(1);
        int other = aBookingIn(1);
        Object got;
        switch (upTo(10)) {
            case 0, 1:
                int due = aDueBooking();
                return same("arrive(" + due + ")", () -> x.arrive(due), () -> y.arrive(due));
            case 2:
                int held = aBookingIn(2);
                got = same("leave(" + held + ")", () -> x.leave(held), () -> y.leave(held));
                seen(0, got);
                return got;
            case 3:
                int live = aBookingIn(from(1, 2));
                int ticks = upTo(3) == 0 ? about(1, 99) : from(1, 4);
                got = same("extend", () -> x.extend(live, ticks), () -> y.extend(live, ticks));
                seen(1, got);
                return got;
            case 4:
                int gone = aBookingIn(from(0, 1));
                got = same("cancel", () -> x.cancel(gone), () -> y.cancel(gone));
                return got;
            case 5:
                got = same("evict(" + one + ")", () -> x.evict(one), () -> y.evict(one));
                seen(2, got);
                return got;
            case 6:
                int[] s = aPair(0, one, other);
                got = same("swap", () -> x.swap(s[0], s[1]), () -> y.swap(s[0], s[1]));
                seen(3, got);
                return got;
            case 7, 8:
                int[] d = aPair(1, aBookingIn(0), one);
                got = same("buy", () -> x.buy(d[0], d[1]), () -> y.buy(d[0], d[1]));
                seen(4, got);
                return got;
            default:
                got = same("bargain", x::bargain, y::bargain);
                seen(5, got);
                return got;
        }
    }

    /** Mostly two bookings that gain something by a swap (0) or a buyout (1), if there are some. */
    private int[] aPair(int kind, int one, int other) {
        int count = y.world.bookings.size();
        int start = count == 0 ? 0 : upTo(count * count);
        boolean any = upTo(4) == 0;
        for (int i = 0; i < count * count && !any; i++) {
            int pair = (start + i) % (count * count);
            PlainLodge.Booking a = y.world.bookings.get(pair / count);
            PlainLodge.Booking b = y.world.bookings.get(pair % count);
            int gain = kind == 0 ? y.world.swapGain(a, b) : y.world.buyGain(a, b);
            if (gain > 0) {
                return new int[] {pair / count, pair % count};
            }
        }
        return new int[] {one, other};
    }

    private Object manageOne() {
        int what = about(0, 3);
        switch (upTo(5)) {
            case 0:
                int credit = about(0, 999);
                return same("addOwner", () -> x.addOwner(credit), () -> y.addOwner(credit));
            case 1:
                int value = about(0, upTo(2) == 0 ? 9 : 99);
                return same("set", () -> x.set(what, value), () -> y.set(what, value));
            case 2, 3:
                int owner = anOwner();
                return same("forgive", () -> x.forgive(owner), () -> y.forgive(owner));
            default:
                return same("clean", x::clean, y::clean);
        }
    }

    private Object keepOne() {
        int slot = about(0, 1);
        if (upTo(2) == 0) {
            return same("save", () -> {
                x.save(slot);
                return 0;
            }, () -> {
                y.save(slot);
                return 0;
            });
        }
        return same("restore", () -> {
            x.restore(slot);
            return 0;
        }, () -> {
            y.restore(slot);
            return 0;
        });
    }

    private Object loadOne() {
        String text = someText();
        for (int i = 0; i + 4 <= text.length() + 3; i += 4) {
            int four = 0;
            for (int k = 0; k < 4; k++) {
                four = four << 8 | (i + k < text.length() ? text.charAt(i + k) & 255 : ' ');
            }
            int bytes = four;
            same("appendText", () -> x.appendText(bytes), () -> y.appendText(bytes));
        }
        int cut = upTo(3) == 0 ? about(0, text.length()) : text.length();
        same("truncateText", () -> x.truncateText(cut), () -> y.truncateText(cut));
        return same("load of " + text, x::load, y::load);
    }

    private String number(int least, int most) {
        int n = upTo(60) == 0 ? most + 1 : upTo(60) == 0 ? Math.max(0, least - 1) : from(least, most);
        String digits = String.valueOf(n);
        if (upTo(30) == 0) {
            digits = "000".concat(digits);
        }
        return upTo(200) == 0 ? digits.concat("00000000000000000000") : digits;
    }

    private String someText() {
        StringBuilder s = new StringBuilder();
        int size = from(1, 64);
        s.append("size ").append(upTo(40) == 0 ? number(1, 64) : String.valueOf(size)).append(';');
        int owners = upTo(30) == 0 ? 9 : from(1, 5);
        for (int i = 0; i < owners; i++) {
            s.append("owner ").append(number(0, 999)).append(';');
        }
        if (upTo(2) == 0) {
            s.append("set 2 9;");
        }
        int statements = upTo(12);
        for (int i = 0; i < statements; i++) {
            if (upTo(5) == 0) {
                int what = from(0, 3);
                int[] most = {50, 99, 9, 9};
                s.append("set ").append(what).append(' ').append(number(what < 2 ? 0 : 1, most[what]));
            } else {
                s.append("book ").append(number(0, Math.max(0, owners - 1))).append(' ');
                int from = upTo(size);
                s.append(from).append(' ').append(number(1, size - from)).append('\n');
                s.append(number(1, upTo(3) == 0 ? 99 : 9)).append(' ').append(number(0, 30));
                if (upTo(2) == 0) {
                    s.append(" flex ").append(number(0, 99));
                }
                if (upTo(2) == 0) {
                    s.append(" urgency").append(number(1, 9));
                }
            }
            s.append(upTo(4) == 0 ? " ; " : ";");
        }
        int harm = upTo(3) == 0 ? from(1, 2) : 0;
        for (int i = 0; i < harm; i++) {
            int at = upTo(s.length());
            char[] marks = {';', ' ', 'a', '7', 'A', '\n', (char) 200, (char) 0, 's', '\t', '-'};
            if (upTo(2) == 0) {
                s.setCharAt(at, marks[upTo(marks.length)]);
            } else {
                s.insert(at, marks[upTo(marks.length)]);
            }
        }
        return s.toString();
    }

    private Object askOne() {
        int owner = anOwner();
        int one = aBooking();
        int other = aBooking();
        int ticks = upTo(3) == 0 ? about(1, 200) : about(1, 30);
        int size = y.world.size;
        int time = upTo(4) == 0 ? about(0, 20100) : y.world.time + from(-5, 40);
        switch (upTo(12)) {
            case 0:
                int a = aBookingIn(from(0, 1));
                int b = aBookingIn(1);
                return same("gain", () -> x.gain(a, b), () -> y.gain(a, b));
            case 1:
                int what = about(0, 4);
                return same("best", () -> x.best(what), () -> y.best(what));
            case 2:
                int at = about(0, size - 1);
                return same("holder", () -> x.holder(at, time), () -> y.holder(at, time));
            case 3, 4:
                return same("nextFree", () -> x.nextFree(time), () -> y.nextFree(time));
            case 5:
                int from = about(0, size - 1);
                int length = about(1, upTo(2) == 0 ? 3 : size);
                return same("mayWrite", () -> x.mayWrite(owner, from, length),
                        () -> y.mayWrite(owner, from, length));
            case 6:
                return same("usage", () -> x.usage(ticks), () -> y.usage(ticks));
            case 7, 8:
                int waits = aBookingIn(0);
                return same("waitsFor", () -> x.waitsFor(waits, ticks), () -> y.waitsFor(waits, ticks));
            case 9:
                int which = about(0, 3);
                return same("ahead", () -> x.ahead(ticks, which), () -> y.ahead(ticks, which));
            case 10:
                return same("show", () -> x.show(time), () -> y.show(time));
            default:
                int index = about(0, 9);
                return same("waiter", () -> x.waiter(index), () -> y.waiter(index));
        }
    }

    /** A number that acts change. */
    private Object compareOne() {
        int owner = anOwner();
        int booking = aBooking();
        int what = about(0, 13);
        switch (upTo(6)) {
            case 0:
                return same("count(" + what + ")", () -> x.count(what), () -> y.count(what));
            case 1:
                return same("owner(" + owner + ", " + what + ")", () -> x.owner(owner, what),
                        () -> y.owner(owner, what));
            case 2:
                return same("trust(" + owner + ")", () -> x.trust(owner), () -> y.trust(owner));
            case 3, 4:
                return same("booking(" + booking + ", " + what + ")", () -> x.booking(booking, what),
                        () -> y.booking(booking, what));
            default:
                int index = about(0, 63);
                return same("shown(" + index + ")", () -> x.shown(index), () -> y.shown(index));
        }
    }

    private void comparePart(int part) {
        switch (part) {
            case 0:
                compareCounts();
                break;
            case 1:
                compareOwners();
                break;
            case 2:
                compareBookings();
                break;
            default:
                compareLine();
                break;
        }
    }

    private void compareCounts() {
        same("errorCode", x::errorCode, y::errorCode);
        same("errorPosition", x::errorPosition, y::errorPosition);
        for (int i = 0; i <= 13; i++) {
            int what = i;
            same("count(" + what + ")", () -> x.count(what), () -> y.count(what));
        }
        for (int i = 0; i <= 4; i++) {
            int what = i;
            same("best(" + what + ")", () -> x.best(what), () -> y.best(what));
        }
        int now = Math.min(y.world.time, 20000);
        same("nextFree(" + now + ")", () -> x.nextFree(now), () -> y.nextFree(now));
    }

    private void compareOwners() {
        for (int i = 0; i < y.world.owners.size(); i++) {
            int owner = i;
            same("trust", () -> x.trust(owner), () -> y.trust(owner));
            for (int k = 0; k <= 10; k++) {
                int what = k;
                same("owner(" + owner + ", " + what + ")", () -> x.owner(owner, what),
                        () -> y.owner(owner, what));
            }
        }
    }

    private void compareBookings() {
        int count = y.world.bookings.size();
        int start = upTo(Math.max(1, count));
        for (int i = 0; i < count; i++) {
            int booking = (start + i) % count;
            for (int k = 0; k <= 11; k++) {
                int what = k;
                same("booking(" + booking + ", " + what + ")", () -> x.booking(booking, what),
                        () -> y.booking(booking, what));
            }
        }
        for (int i = 0; i <= 5; i++) {
            int index = i;
            same("waiter(" + index + ")", () -> x.waiter(index), () -> y.waiter(index));
        }
    }

    private void compareLine() {
        for (int i = -1; i <= 64; i++) {
            int index = i;
            same("shown(" + index + ")", () -> x.shown(index), () -> y.shown(index));
        }
    }
}
