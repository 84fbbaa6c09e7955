/** Promises 18 to 25: acts. */
public final class ActsTest {
    private static final Checks C = new Checks("ActsTest");

    public static void main(String[] args) {
        missing();
        arrive();
        leave();
        extend();
        cancel();
        evict();
        swap();
        swapRefusals();
        buy();
        buyRefusals();
        buyOfOneOwner();
        bargain();
        C.end();
    }

    private static void missing() {
        SpanLodge x = Checks.withOwners(1);
        x.book(0, 5, 0, 1);
        for (int b : new int[] {-1, 1, Integer.MAX_VALUE, Integer.MIN_VALUE}) {
            C.noIndex("18: arrive(" + b + ")", () -> x.arrive(b));
            C.noIndex("19: leave(" + b + ")", () -> x.leave(b));
            C.noIndex("20: extend(" + b + ", 0)", () -> x.extend(b, 0));
            C.noIndex("21: cancel(" + b + ")", () -> x.cancel(b));
            C.noIndex("22: evict(" + b + ")", () -> x.evict(b));
            C.noIndex("23: swap(0, " + b + ")", () -> x.swap(0, b));
            C.noIndex("23: swap(" + b + ", 0)", () -> x.swap(b, 0));
            C.noIndex("23: swap(" + b + ", " + b + ")", () -> x.swap(b, b));
            C.noIndex("24: buy(0, " + b + ")", () -> x.buy(0, b));
            C.noIndex("24: buy(" + b + ", 0)", () -> x.buy(b, 0));
        }
        C.noArgument("20: extend(0, 0)", () -> x.extend(0, 0));
        C.noArgument("20: extend(0, 100)", () -> x.extend(0, 100));
        C.noArgument("23: swap(0, 0)", () -> x.swap(0, 0));
        C.due("24: buy(0, 0)", x.buy(0, 0), 1);
    }

    /** An act that is refused with a reason changes nothing. */
    private static void reason(String call, SpanLodge x, Checks.Call act, int reason) {
        String before = Checks.stateOf(x);
        C.due(call, act.make(), reason);
        C.due(call + " changes nothing", Checks.stateOf(x), before);
    }

    private static void arrive() {
        SpanLodge x = Checks.withOwners(1);
        x.draft(0, 1, 3);
        x.book(0, 2, 0, 1);
        x.book(0, 2, 0, 1);
        reason("18: too early", x, () -> x.arrive(0), 2);
        reason("18: it waits", x, () -> x.arrive(1), 1);
        x.pass(1);
        reason("18: too early", x, () -> x.arrive(0), 2);
        x.pass(1);
        C.due("18: arrive", x.arrive(0), 0);
        C.due("18: held", Checks.placeOf(x, 0), "2 2 5");
        C.due("18: in time", x.owner(0, 6), 0);
        reason("18: held already", x, () -> x.arrive(0), 1);
        x.book(0, 5, 0, 1);
        x.pass(8);
        C.due("18: behind its END", x.arrive(2), 0);
        C.due("18: late", x.owner(0, 6), 5);
        C.due("18: held behind its END", Checks.placeOf(x, 2), "2 5 8");
        reason("18: done", x, () -> x.arrive(0), 1);
        reason("20: extended to a time that is over", x, () -> x.leave(1), 1);
        x.pass(1);
        C.due("26: it is done", x.booking(2, 7), 3);
    }

    private static void leave() {
        SpanLodge x = Checks.withOwners(2);
        x.draft(0, 4, 10);
        x.book(0, 0, 0, 1);
        x.book(1, 4, 1, 1);
        reason("19: booked", x, () -> x.leave(0), 1);
        reason("19: waiting", x, () -> x.leave(1), 1);
        x.arrive(0);
        x.pass(5);
        C.due("19: still waiting", x.booking(1, 7), 0);
        C.due("19: leave", x.leave(0), 0);
        C.due("19: done", Checks.placeOf(x, 0), "3 0 5");
        C.due("19: kept", x.owner(0, 1), 1);
        C.due("19: the waiting one is placed", Checks.placeOf(x, 1), "1 5 15");
        reason("19: done already", x, () -> x.leave(0), 1);
        SpanLodge y = Checks.withOwners(1);
        y.book(0, 0, 0, 1);
        y.arrive(0);
        y.leave(0);
        C.due("19: left at once", Checks.placeOf(y, 0), "3 0 0");
    }

    private static void extend() {
        SpanLodge x = Checks.withOwners(2);
        x.draft(0, 4, 5);
        x.book(0, 0, 0, 1);
        x.book(0, 10, 0, 1);
        x.book(0, 10, 0, 1);
        x.draft(4, 4, 5);
        x.book(1, 5, 0, 1);
        reason("20: it waits", x, () -> x.extend(2, 1), 1);
        reason("20: it would clash", x, () -> x.extend(0, 6), 3);
        C.due("20: extend", x.extend(0, 5), 0);
        C.due("20: up to the next one", Checks.placeOf(x, 0), "1 0 10");
        reason("20: it would clash", x, () -> x.extend(0, 1), 3);
        x.arrive(0);
        C.due("20: held, and would clash", x.extend(0, 1), 3);
        C.due("20: extend", x.extend(1, 99), 0);
        C.due("20: extend again", x.extend(1, 99), 0);
        C.due("20: its END", Checks.placeOf(x, 1), "1 10 213");
        x.pass(10);
        C.due("26: a held one is done at its END", x.booking(0, 7), 3);
        C.due("20: done", x.extend(0, 1), 1);
        SpanLodge y = Checks.withOwners(1);
        y.draft(0, 4, 5);
        y.book(0, 0, 0, 1);
        y.arrive(0);
        C.due("20: held", y.extend(0, 2), 0);
        y.pass(6);
        C.due("20: held on", Checks.placeOf(y, 0), "2 0 7");
        y.pass(1);
        C.due("20: done then", Checks.placeOf(y, 0), "3 0 7");
    }

    private static void cancel() {
        SpanLodge x = Checks.withOwners(2);
        x.draft(0, 4, 5);
        x.book(0, 9, 0, 1);
        x.book(1, 10, 0, 1);
        x.draft(4, 4, 5);
        x.book(1, 10, 0, 1);
        C.due("21: late", x.cancel(0), 0);
        C.due("21: late", x.owner(0, 3), 1);
        C.due("21: cancelled", Checks.placeOf(x, 0), "4 9 14");
        C.due("21: the waiting one is placed", Checks.placeOf(x, 1), "1 10 15");
        C.due("21: BEGIN is the present time and NOTICE", x.cancel(1), 0);
        C.due("21: not late", x.owner(1, 3), 0);
        reason("21: cancelled already", x, () -> x.cancel(1), 1);
        x.set(1, 11);
        x.cancel(2);
        C.due("21: NOTICE tells", x.owner(1, 3), 1);
        x.draft(0, 1, 9);
        x.book(0, 0, 0, 1);
        x.book(1, 0, 0, 1);
        C.due("21: a waiting one", x.cancel(4), 0);
        C.due("21: it is never late", x.owner(1, 3), 1);
        C.due("21: cancelled", Checks.placeOf(x, 4), "4 -1 -1");
        x.arrive(3);
        reason("21: held", x, () -> x.cancel(3), 1);
        x.leave(3);
        reason("21: done", x, () -> x.cancel(3), 1);
        SpanLodge y = Checks.withOwners(1);
        y.set(1, 0);
        y.book(0, 0, 0, 1);
        y.pass(1);
        y.cancel(0);
        C.due("21: late without NOTICE", y.owner(0, 3), 1);
    }

    private static void evict() {
        SpanLodge x = Checks.withOwners(2);
        x.draft(0, 4, 5);
        x.book(0, 9, 0, 1);
        x.book(1, 7, 0, 1);
        x.extend(0, 3);
        C.due("22: evict", x.evict(0), 0);
        C.due("22: it is placed first again", Checks.placeOf(x, 0), "1 9 14");
        C.due("22: evicted", x.owner(0, 4), 1);
        C.due("22: no promise is broken", x.owner(0, 3), 0);
        reason("22: waiting", x, () -> x.evict(1), 1);
        x.draft(20, 1, 1);
        x.book(0, 0, 0, 1);
        x.cancel(2);
        C.due("22: evict", x.evict(0), 0);
        C.due("22: the owner without broken promises is placed first", Checks.placeOf(x, 1), "1 7 12");
        C.due("22: it waits", Checks.placeOf(x, 0), "0 -1 -1");
        C.due("22: evicted", x.owner(0, 4), 2);
        x.pass(7);
        x.arrive(1);
        reason("22: held", x, () -> x.evict(1), 1);
        reason("22: cancelled", x, () -> x.evict(2), 1);
    }

    /** Two bookings with other spans that stand at each other's WISH: gains 25. */
    private static SpanLodge crossed() {
        SpanLodge x = Checks.withOwners(2);
        x.set(2, 9);
        x.draft(0, 2, 5);
        x.book(0, 20, 0, 1);
        x.book(0, 20, 10, 2);
        x.draft(2, 2, 10);
        x.book(0, 10, 0, 1);
        x.draft(2, 2, 5);
        x.book(1, 15, 5, 3);
        x.set(1, 0);
        x.cancel(0);
        x.cancel(2);
        C.due("23: first", Checks.placeOf(x, 1), "1 15 20");
        C.due("23: second", Checks.placeOf(x, 3), "1 20 25");
        return x;
    }

    private static void swap() {
        SpanLodge x = crossed();
        C.due("27: gain", x.gain(1, 3), 25);
        C.due("23: swap", x.swap(3, 1), 0);
        C.due("23: first", Checks.placeOf(x, 1), "1 20 25");
        C.due("23: second", Checks.placeOf(x, 3), "1 15 20");
        C.due("9: swaps", x.count(11), 1);
        C.due("9: buyouts", x.count(12), 0);
        C.due("10: bargains", x.owner(0, 7), 1);
        C.due("10: bargains", x.owner(1, 7), 1);
        reason("23: back again", x, () -> x.swap(1, 3), 4);
        x.save(1);
        Checks.load(x, "size 1;");
        C.due("4: no swaps", x.count(11), 0);
        x.restore(1);
        C.due("38: swaps", x.count(11), 1);
        x.ahead(1, 0);
        Checks.load(x, "size 1;");
        C.due("4: no swaps", x.count(11), 0);
        SpanLodge y = crossed();
        y.draft(0, 1, 5);
        y.book(0, 15, 4, 1);
        C.due("23: it waits behind the first", y.booking(4, 7), 0);
        y.swap(1, 3);
        C.due("23: and is placed behind the swap", Checks.placeOf(y, 4), "1 15 20");
        SpanLodge z = crossed();
        z.extend(1, 2);
        C.due("23: another DURATION", z.swap(1, 3), 4);
        z.extend(3, 2);
        C.due("23: the same DURATION again", z.swap(1, 3), 0);
        C.due("23: the END moves too", Checks.placeOf(z, 1), "1 20 27");
        z.evict(1);
        C.due("23: DURATION as it was booked", Checks.placeOf(z, 1), "1 20 25");
    }

    private static void swapRefusals() {
        SpanLodge x = crossed();
        reason("23: a cancelled one", x, () -> x.swap(0, 1), 1);
        reason("23: a cancelled one", x, () -> x.swap(1, 2), 1);
        x.draft(0, 1, 3);
        x.book(1, 21, 0, 1);
        reason("23: a third one stands there", x, () -> x.swap(1, 3), 4);
        SpanLodge late = crossed();
        late.pass(15);
        C.due("23: BEGIN is the present time", late.gain(1, 3), 25);
        C.due("23: BEGIN is the present time", late.gain(3, 1), 25);
        late.pass(1);
        reason("23: BEGIN is over", late, () -> late.swap(1, 3), 4);
        late.arrive(1);
        reason("23: a held one", late, () -> late.swap(1, 3), 1);
        SpanLodge y = Checks.withOwners(1);
        y.draft(0, 1, 5);
        y.book(0, 10, 0, 1);
        y.draft(1, 1, 5);
        y.book(0, 10, 0, 1);
        reason("23: nobody gains", y, () -> y.swap(0, 1), 4);
        y.draft(2, 1, 10);
        y.book(0, 10, 0, 1);
        y.draft(2, 1, 5);
        y.book(0, 10, 5, 1);
        C.due("23: moved", Checks.placeOf(y, 3), "1 5 10");
        reason("23: one of both loses", y, () -> y.swap(0, 3), 4);
        for (int wish : new int[] {15, 13}) {
            SpanLodge z = besideEachOther(wish);
            reason("23: one of both gains nothing", z, () -> z.swap(1, 3), 4);
            reason("23: one of both gains nothing", z, () -> z.swap(3, 1), 4);
        }
        SpanLodge w = besideEachOther(16);
        C.due("23: both gain", w.gain(1, 3), 92);
    }

    /** Bookings at 10 and at 20 of other spans; the second one would gain 90 by a swap. */
    private static SpanLodge besideEachOther(int wishOfFirst) {
        SpanLodge x = Checks.withOwners(2);
        x.set(1, 0);
        x.draft(0, 2, 15);
        x.book(0, 15, 0, 1);
        x.draft(0, 2, 5);
        x.book(0, wishOfFirst, 6, 1);
        x.draft(2, 2, 16);
        x.book(1, 4, 0, 1);
        x.draft(2, 2, 5);
        x.book(1, 10, 10, 9);
        x.cancel(0);
        x.cancel(2);
        C.due("23: first", Checks.placeOf(x, 1), "1 10 15");
        C.due("23: second", Checks.placeOf(x, 3), "1 20 25");
        return x;
    }

    /** A waiting booking 1 (joy 100 there) and a booked booking 0 (joy 40). */
    private static SpanLodge oneWaits() {
        SpanLodge x = new SpanLodge();
        x.addOwner(10);
        x.addOwner(70);
        x.draft(0, 4, 10);
        x.book(0, 30, 5, 2);
        x.draft(2, 4, 5);
        x.book(1, 30, 0, 5);
        C.due("24: it waits", x.booking(1, 7), 0);
        return x;
    }

    private static void buy() {
        SpanLodge x = oneWaits();
        C.due("27: gain", x.gain(1, 0), 60);
        C.due("27: gain the other way", x.gain(0, 1), 0);
        C.due("28: the price", x.best(4), 70);
        C.due("24: buy", x.buy(1, 0), 0);
        C.due("24: who waited", Checks.placeOf(x, 1), "1 30 35");
        C.due("24: who was booked is placed again", Checks.placeOf(x, 0), "1 35 45");
        C.due("10: CREDIT", x.owner(0, 0), 80);
        C.due("10: CREDIT", x.owner(1, 0), 0);
        C.due("10: not evicted", x.owner(0, 4), 0);
        C.due("10: bargains", x.owner(0, 7), 1);
        C.due("10: bargains", x.owner(1, 7), 1);
        C.due("9: buyouts", x.count(12), 1);
        C.due("9: swaps", x.count(11), 0);
        reason("24: both are booked", x, () -> x.buy(1, 0), 1);
        SpanLodge y = new SpanLodge();
        y.addOwner(999);
        y.draft(0, 4, 10);
        y.book(0, 30, 0, 1);
        y.extend(0, 7);
        y.book(0, 31, 1, 2);
        C.due("24: joys 38 and 20, the price is rounded down", y.best(4), 29);
        y.buy(1, 0);
        C.due("24: the DURATION of the waiting one", Checks.placeOf(y, 1), "1 30 40");
        C.due("24: it waits", Checks.placeOf(y, 0), "0 -1 -1");
        y.cancel(1);
        C.due("24: DURATION as it was booked", Checks.placeOf(y, 0), "1 30 40");
    }

    private static void buyRefusals() {
        SpanLodge x = oneWaits();
        x.draft(5, 1, 3);
        x.book(0, 34, 0, 9);
        reason("24: a third one stands there", x, () -> x.buy(1, 0), 4);
        x.set(1, 0);
        x.cancel(2);
        reason("24: a cancelled one", x, () -> x.buy(1, 2), 1);
        reason("24: a cancelled one", x, () -> x.buy(2, 0), 1);
        reason("24: the other way", x, () -> x.buy(0, 1), 1);
        x.pass(30);
        C.due("24: BEGIN is the present time", x.gain(1, 0), 60);
        SpanLodge late = oneWaits();
        late.draft(0, 6, 5);
        late.book(1, 30, 4, 9);
        late.pass(31);
        reason("24: BEGIN is over", late, () -> late.buy(2, 0), 4);
        late.arrive(0);
        reason("24: a held one", late, () -> late.buy(2, 0), 1);
        SpanLodge poor = new SpanLodge();
        poor.addOwner(69);
        poor.draft(0, 4, 10);
        poor.book(0, 30, 5, 2);
        poor.book(0, 30, 0, 5);
        reason("24: 69 is not enough", poor, () -> poor.buy(1, 0), 4);
        SpanLodge even = new SpanLodge();
        even.addOwner(999);
        even.draft(0, 4, 10);
        even.book(0, 30, 0, 1);
        even.book(0, 31, 0, 9);
        even.book(0, 29, 0, 9);
        even.book(0, 30, 0, 1);
        reason("24: outside of FLEX", even, () -> even.buy(1, 0), 4);
        reason("24: outside of FLEX", even, () -> even.buy(2, 0), 4);
        reason("24: no more joy", even, () -> even.buy(3, 0), 4);
        SpanLodge near = new SpanLodge();
        near.addOwner(999);
        near.draft(0, 4, 10);
        near.book(0, 35, 0, 1);
        near.draft(0, 4, 9);
        near.book(0, 30, 0, 1);
        near.book(0, 41, 6, 1);
        C.due("24: within FLEX, but with less joy", near.gain(2, 0), 0);
    }

    private static void buyOfOneOwner() {
        SpanLodge x = new SpanLodge();
        x.addOwner(30);
        x.draft(0, 4, 10);
        x.book(0, 30, 0, 1);
        x.book(0, 30, 0, 2);
        C.due("24: CREDIT is just the price", x.buy(1, 0), 0);
        C.due("24: CREDIT stays", x.owner(0, 0), 30);
        C.due("24: it counts twice", x.owner(0, 7), 2);
        SpanLodge close = new SpanLodge();
        close.addOwner(999);
        close.draft(0, 1, 10);
        close.book(0, 30, 0, 1);
        close.book(0, 11, 19, 9);
        C.due("24: joys 20 and 9", close.gain(1, 0), 0);
        SpanLodge odd = new SpanLodge();
        odd.addOwner(999);
        odd.draft(0, 1, 99);
        odd.book(0, 30, 0, 1);
        odd.book(0, 43, 13, 3);
        reason("24: joys 20 and 21, the price is 20", odd, () -> odd.buy(1, 0), 4);
        odd.book(0, 41, 11, 3);
        C.due("24: joys 20 and 27, the price is 23", odd.gain(2, 0), 7);
        odd.buy(2, 0);
        C.due("24: bought", Checks.placeOf(odd, 2), "1 30 129");
    }

    private static void bargain() {
        SpanLodge none = Checks.withOwners(1);
        reason("25: no bargain", none, none::bargain, 5);
        SpanLodge x = crossed();
        C.due("25: a swap", x.bargain(), 0);
        C.due("25: swapped", Checks.placeOf(x, 1), "1 20 25");
        C.due("9: swaps", x.count(11), 1);
        reason("25: no bargain more", x, x::bargain, 5);
        SpanLodge y = oneWaits();
        C.due("25: a buyout", y.bargain(), 0);
        C.due("25: bought", Checks.placeOf(y, 1), "1 30 35");
        C.due("25: placed behind it", Checks.placeOf(y, 0), "1 35 45");
        C.due("9: buyouts", y.count(12), 1);
        C.due("10: CREDIT", y.owner(0, 0), 80);
        SpanLodge z = crossed();
        z.draft(10, 1, 4);
        z.book(0, 50, 0, 1);
        z.book(1, 50, 0, 3);
        z.book(1, 50, 0, 2);
        C.due("28: the greatest gain", z.best(0), 40);
        C.due("28: a buyout", z.best(1), 1);
        z.bargain();
        C.due("25: the greatest gain first", z.booking(5, 7), 1);
        C.due("25: the swap is still to come", z.count(11), 0);
        z.bargain();
        C.due("25: the swap", z.count(11), 1);
    }
}
