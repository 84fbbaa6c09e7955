/** Swaps and buyouts: the terms, and the promises 23, 24, 25, 27 and 28. */
public final class BargainEdges {
    private BargainEdges() {
    }

    public static void main(String[] args) {
        Edge.run(BargainEdges.class);
    }

    /** 0 at 10 (WISH 15, joy 15) and 1 at 15 (WISH 10, URGENCY 3, joy 45), with other bytes. */
    private static SpanLodge crossed() {
        SpanLodge x = Edge.free(3);
        Edge.stand(x, 0, 0, 2, 5, 15, 1, 10);
        Edge.stand(x, 1, 2, 2, 5, 10, 3, 15);
        return x;
    }

    /** A swap is not possible, whichever is named first. */
    private static void noSwap(Edge.Recipe recipe, int one, int other) {
        Edge.still(recipe, x -> x.swap(one, other), 4);
        Edge.still(recipe, x -> x.swap(other, one), 4);
        Edge.still(recipe, x -> x.gain(one, other), 0);
        Edge.still(recipe, x -> x.gain(other, one), 0);
        Edge.still(recipe, SpanLodge::bargain, 5);
        Edge.still(recipe, x -> x.best(0), -1);
    }

    private static void swapGains(Edge.Recipe recipe, int one, int other, int gain) {
        Edge.still(recipe, x -> x.gain(one, other), gain);
        Edge.still(recipe, x -> x.gain(other, one), gain);
        Edge.due(recipe.make().swap(one, other), 0);
        Edge.due(recipe.make().swap(other, one), 0);
    }

    // ---- swaps

    @Says(promise = 0, value = "A swap exchanges the times of two booked bookings with the same DURATION (BEGIN and END;")
    static void aSwapExchangesBothTimes() {
        SpanLodge x = crossed();
        Edge.due(x.swap(0, 1), 0);
        Edge.due(Edge.rowOf(x, 0), "0 0 2 5 15 5 1 1 15 20 20 -1");
        Edge.due(Edge.rowOf(x, 1), "1 2 2 5 10 5 3 1 10 15 60 -1");
    }

    @Says(promise = 0, value = "A swap exchanges the times of two booked bookings with the same DURATION (BEGIN and END;")
    static void aDurationThatIs1GreaterOrLessIsNotTheSame() {
        for (int duration : new int[] {4, 6}) {
            noSwap(() -> {
                SpanLodge x = Edge.free(2);
                Edge.stand(x, 0, 0, 2, 5, 15, 1, 10);
                Edge.stand(x, 1, 2, 2, duration, 10, 3, 15);
                return x;
            }, 0, 1);
        }
    }

    @Says(promise = 0, value = "an extended booking has the DURATION that its BEGIN and END tell).")
    static void anExtendedOneHasAnotherDuration() {
        for (int extended = 0; extended < 2; extended++) {
            int which = extended;
            noSwap(() -> {
                SpanLodge x = crossed();
                x.extend(which, 1);
                return x;
            }, 0, 1);
        }
    }

    @Says(promise = 0, value = "an extended booking has the DURATION that its BEGIN and END tell).")
    static void anExtendedOneMayHaveTheSameDuration() {
        Edge.Recipe recipe = () -> {
            SpanLodge x = Edge.free(2);
            Edge.stand(x, 0, 0, 2, 5, 15, 1, 10);
            Edge.stand(x, 1, 2, 2, 4, 10, 3, 15);
            x.extend(1, 1);
            return x;
        };
        swapGains(recipe, 0, 1, 20);
        SpanLodge x = recipe.make();
        x.extend(0, 3);
        x.extend(1, 3);
        Edge.due(x.swap(0, 1), 0);
        Edge.due(Edge.place(x, 0), "1 15 23");
        Edge.due(Edge.place(x, 1), "1 10 18");
    }

    @Says(promise = 0, value = "It is possible if BEGIN of both is not less than the present time")
    static void aSwapIsPossibleUpToTheEarlierBegin() {
        swapGains(() -> Edge.at(crossed(), 10), 0, 1, 20);
        noSwap(() -> Edge.at(crossed(), 11), 0, 1);
    }

    /** Another booking stands in the way, or just beside it. */
    private static SpanLodge crossedWith(int from, int length, int begin, int duration) {
        SpanLodge x = crossed();
        Edge.put(x, 2, from, length, duration, begin, 0, 1);
        Edge.due(Edge.place(x, 2), "1 " + begin + " " + (begin + duration));
        return x;
    }

    @Says(promise = 0, value = "none of both clashes with another live booking then (with both at their new times)")
    static void anotherOneAtTheNewTimeOfTheFirst() {
        noSwap(() -> crossedWith(0, 1, 15, 1), 0, 1);
        noSwap(() -> crossedWith(1, 1, 19, 3), 0, 1);
        swapGains(() -> crossedWith(0, 2, 20, 3), 0, 1, 20);
        swapGains(() -> crossedWith(4, 9, 10, 20), 0, 1, 20);
    }

    @Says(promise = 0, value = "none of both clashes with another live booking then (with both at their new times)")
    static void anotherOneAtTheNewTimeOfTheSecond() {
        noSwap(() -> crossedWith(3, 1, 14, 1), 0, 1);
        noSwap(() -> crossedWith(2, 1, 6, 5), 0, 1);
        swapGains(() -> crossedWith(2, 2, 5, 5), 0, 1, 20);
    }

    @Says(promise = 0, value = "none of both clashes with another live booking then (with both at their new times)")
    static void aHeldOneStandsInTheWayAndAnEndedOneDoesNot() {
        noSwap(() -> {
            SpanLodge x = Edge.at(crossedWith(2, 1, 6, 5), 10);
            x.arrive(2);
            return x;
        }, 0, 1);
        swapGains(() -> {
            SpanLodge x = crossedWith(2, 1, 6, 5);
            x.cancel(2);
            return x;
        }, 0, 1, 20);
        swapGains(() -> {
            SpanLodge x = crossed();
            Edge.put(x, 2, 1, 2, 5, 12, 2, 1);
            Edge.due(x.booking(2, 7), 0);
            return x;
        }, 0, 1, 20);
    }

    @Says(promise = 0, value = "none of both clashes with another live booking then (with both at their new times)")
    static void bothMayHaveTheSameBytes() {
        Edge.Recipe recipe = () -> {
            SpanLodge x = Edge.free(2);
            Edge.stand(x, 0, 0, 2, 5, 15, 1, 10);
            Edge.put(x, 1, 0, 2, 5, 5, 0, 1);
            Edge.put(x, 1, 0, 2, 5, 10, 5, 3);
            x.cancel(1);
            x.clean();
            Edge.due(Edge.place(x, 1), "1 15 20");
            return x;
        };
        swapGains(recipe, 0, 1, 20);
        SpanLodge x = recipe.make();
        x.swap(0, 1);
        Edge.due(Edge.place(x, 0), "1 15 20");
        Edge.due(Edge.place(x, 1), "1 10 15");
    }

    /** 0 at 10 with a WISH and 1 at 16, which would gain 6 by a swap. */
    private static SpanLodge wishes(int wish) {
        SpanLodge x = Edge.free(2);
        Edge.stand(x, 0, 0, 2, 5, wish, 1, 10);
        Edge.stand(x, 1, 2, 2, 5, 10, 1, 16);
        return x;
    }

    @Says(promise = 0, value = "and the joy of both becomes greater.")
    static void equalJoyIsNotGreater() {
        noSwap(() -> wishes(13), 0, 1);
        noSwap(() -> wishes(12), 0, 1);
        noSwap(() -> wishes(10), 0, 1);
        swapGains(() -> wishes(14), 0, 1, 8);
    }

    @Says(promise = 0, value = "and the joy of both becomes greater.")
    static void aJoyThatStays0IsNotGreater() {
        noSwap(() -> wishes(36), 0, 1);
        swapGains(() -> wishes(35), 0, 1, 7);
    }

    @Says(promise = 0, value = "and the joy of both becomes greater.")
    static void theJoyOfTheSecondHasToBecomeGreaterToo() {
        noSwap(() -> {
            SpanLodge x = Edge.free(2);
            Edge.stand(x, 0, 0, 2, 5, 16, 9, 10);
            Edge.stand(x, 1, 2, 2, 5, 13, 1, 16);
            return x;
        }, 0, 1);
    }

    @Says(promise = 0, value = "Its gain is the sum by which the joys become greater.")
    static void theGainOfASwapIsTheSumOfBoth() {
        swapGains(BargainEdges::crossed, 0, 1, 20);
        SpanLodge x = crossed();
        x.swap(0, 1);
        Edge.due(x.booking(0, 10), 20);
        Edge.due(x.booking(1, 10), 60);
    }

    @Says(promise = 0, value = "A swap exchanges the times of two booked bookings with the same DURATION")
    static void aHeldOrACancelledOneIsNotSwapped() {
        for (int ended = 0; ended < 2; ended++) {
            int which = ended;
            Edge.Recipe recipe = () -> {
                SpanLodge x = crossed();
                x.cancel(which);
                return x;
            };
            Edge.still(recipe, x -> x.best(0), -1);
            Edge.still(recipe, SpanLodge::bargain, 5);
            Edge.still(recipe, x -> x.gain(0, 1), 0);
        }
        Edge.Recipe held = () -> {
            SpanLodge x = Edge.at(crossed(), 10);
            x.arrive(0);
            return x;
        };
        Edge.still(held, x -> x.best(0), -1);
        Edge.still(held, SpanLodge::bargain, 5);
        Edge.still(held, x -> x.gain(0, 1), 0);
        Edge.still(held, x -> x.swap(1, 0), 1);
    }

    @Says(promise = 0, value = "A swap exchanges the times of two booked bookings with the same DURATION")
    static void aHeldOneOfAHigherNumberIsNotSwapped() {
        Edge.Recipe held = () -> {
            SpanLodge x = Edge.free(2);
            Edge.stand(x, 1, 2, 2, 5, 10, 3, 15);
            Edge.stand(x, 0, 0, 2, 5, 15, 1, 10);
            Edge.at(x, 10);
            x.arrive(1);
            return x;
        };
        Edge.still(held, x -> x.best(0), -1);
        Edge.still(held, SpanLodge::bargain, 5);
        Edge.still(held, x -> x.swap(0, 1), 1);
    }

    // ---- buyouts

    /** 0 is booked from 30 to 40 (joy 20), 1 waits for 30 to 35 (joy 60, CREDIT 100). */
    private static SpanLodge oneWaits() {
        SpanLodge x = Edge.free(3);
        Edge.put(x, 0, 0, 4, 10, 30, 0, 1);
        Edge.put(x, 1, 2, 4, 5, 30, 0, 3);
        Edge.due(x.booking(1, 7), 0);
        return x;
    }

    private static SpanLodge oneWaits(int duration, int wish, int flex, int urgency) {
        SpanLodge x = Edge.free(3);
        Edge.put(x, 0, 0, 4, 60, 30, 0, 1);
        Edge.put(x, 1, 2, 4, duration, wish, flex, urgency);
        Edge.due(x.booking(1, 7), 0);
        return x;
    }

    private static void noBuyout(Edge.Recipe recipe, int waiting, int booked) {
        Edge.still(recipe, x -> x.buy(waiting, booked), 4);
        Edge.still(recipe, x -> x.gain(waiting, booked), 0);
        Edge.still(recipe, SpanLodge::bargain, 5);
        Edge.still(recipe, x -> x.best(4), -1);
    }

    private static void buyoutGains(Edge.Recipe recipe, int waiting, int booked, int gain, int price) {
        Edge.still(recipe, x -> x.gain(waiting, booked), gain);
        Edge.still(recipe, x -> x.gain(booked, waiting), 0);
        Edge.still(recipe, x -> x.best(0), gain);
        Edge.still(recipe, x -> x.best(4), price);
        Edge.due(recipe.make().buy(waiting, booked), 0);
    }

    @Says(promise = 0, value = "it is possible if BEGIN of b is not less than the present time and differs from WISH of w "
            + "by at most FLEX of w")
    static void aBuyoutIsPossibleUpToTheBegin() {
        buyoutGains(() -> Edge.at(oneWaits(5, 31, 1, 3), 30), 1, 0, 37, 38);
        noBuyout(() -> Edge.at(oneWaits(5, 31, 1, 3), 31), 1, 0);
    }

    @Says(promise = 0, value = "it is possible if BEGIN of b is not less than the present time and differs from WISH of w "
            + "by at most FLEX of w")
    static void theBeginMayDifferByFlexFromALaterWish() {
        buyoutGains(() -> oneWaits(5, 33, 3, 3), 1, 0, 31, 35);
        noBuyout(() -> oneWaits(5, 33, 2, 3), 1, 0);
        noBuyout(() -> oneWaits(5, 31, 0, 3), 1, 0);
    }

    @Says(promise = 0, value = "it is possible if BEGIN of b is not less than the present time and differs from WISH of w "
            + "by at most FLEX of w")
    static void theBeginMayDifferByFlexFromAnEarlierWish() {
        buyoutGains(() -> oneWaits(10, 27, 3, 3), 1, 0, 31, 35);
        noBuyout(() -> oneWaits(10, 27, 2, 3), 1, 0);
        noBuyout(() -> oneWaits(10, 29, 0, 3), 1, 0);
    }

    /** The waiting one needs the bytes 2 to 5 from 30 to 45; another one is made. */
    private static SpanLodge oneWaitsWith(int from, int length, int begin, int duration) {
        SpanLodge x = Edge.free(3);
        Edge.put(x, 0, 0, 4, 10, 30, 0, 1);
        Edge.put(x, 1, 2, 4, 15, 30, 0, 3);
        Edge.put(x, 2, from, length, duration, begin, 0, 1);
        Edge.due(Edge.place(x, 2), "1 " + begin + " " + (begin + duration));
        return x;
    }

    @Says(promise = 0, value = "w with its own span and DURATION fits at BEGIN of b if b is not there")
    static void anotherOneMayStandBesideIt() {
        buyoutGains(() -> oneWaitsWith(0, 8, 45, 5), 1, 0, 40, 40);
        buyoutGains(() -> oneWaitsWith(0, 8, 25, 5), 1, 0, 40, 40);
        buyoutGains(() -> oneWaitsWith(6, 2, 30, 15), 1, 0, 40, 40);
        buyoutGains(() -> oneWaitsWith(0, 2, 40, 5), 1, 0, 40, 40);
    }

    @Says(promise = 0, value = "w with its own span and DURATION fits at BEGIN of b if b is not there")
    static void anotherOneMayNotStandInItsWay() {
        noBuyout(() -> oneWaitsWith(5, 1, 44, 5), 1, 0);
        noBuyout(() -> oneWaitsWith(5, 1, 26, 5), 1, 0);
        noBuyout(() -> oneWaitsWith(5, 3, 37, 1), 1, 0);
        noBuyout(() -> oneWaitsWith(0, 3, 40, 1), 1, 0);
    }

    @Says(promise = 0, value = "w with its own span and DURATION fits at BEGIN of b if b is not there")
    static void aHeldOneStandsInItsWayAndAnEndedOneDoesNot() {
        noBuyout(() -> {
            SpanLodge x = Edge.at(oneWaitsWith(5, 1, 26, 5), 26);
            x.arrive(2);
            return x;
        }, 1, 0);
        buyoutGains(() -> {
            SpanLodge x = oneWaitsWith(5, 1, 26, 5);
            x.cancel(2);
            return x;
        }, 1, 0, 40, 40);
    }

    @Says(promise = 0, value = "the price is greater than the joy of b and less than the joy that w has at this time")
    static void aPriceThatIsTheJoyOfTheBookedOneIsTooLow() {
        noBuyout(() -> oneWaits(5, 43, 13, 3), 1, 0);
        buyoutGains(() -> oneWaits(5, 39, 9, 2), 1, 0, 2, 21);
        noBuyout(() -> oneWaits(5, 30, 0, 1), 1, 0);
        noBuyout(() -> oneWaits(5, 35, 5, 1), 1, 0);
    }

    /** The booked one stands 20 behind its WISH and has no joy; another waits for its place. */
    private static SpanLodge noJoy(int urgency) {
        SpanLodge x = Edge.free(2);
        Edge.stand(x, 0, 0, 4, 99, 30, 9, 50);
        Edge.put(x, 1, 0, 4, 5, 69, 19, urgency);
        Edge.due(x.booking(1, 7), 0);
        return x;
    }

    @Says(promise = 0, value = "the price is greater than the joy of b and less than the joy that w has at this time")
    static void aPriceOf0IsNotGreaterThanNoJoy() {
        noBuyout(() -> noJoy(1), 1, 0);
        buyoutGains(() -> noJoy(2), 1, 0, 2, 1);
        buyoutGains(() -> noJoy(3), 1, 0, 3, 1);
    }

    private static SpanLodge withCredit(int credit) {
        SpanLodge x = new SpanLodge();
        x.addOwner(0);
        x.addOwner(credit);
        Edge.put(x, 0, 0, 4, 60, 30, 0, 1);
        Edge.put(x, 1, 2, 4, 5, 41, 11, 3);
        return x;
    }

    @Says(promise = 0, value = "and the owner of w has the price as CREDIT.")
    static void theCreditMayBeJustThePrice() {
        buyoutGains(() -> withCredit(23), 1, 0, 7, 23);
        noBuyout(() -> withCredit(22), 1, 0);
        noBuyout(() -> withCredit(0), 1, 0);
    }

    @Says(promise = 0, value = "The price is the sum of both these joys divided by 2, rounded down.")
    static void thePriceIsRoundedDown() {
        SpanLodge x = withCredit(100);
        Edge.due(x.best(4), 23);
        Edge.due(x.buy(1, 0), 0);
        Edge.due(x.owner(1, 0), 77);
        Edge.due(x.owner(0, 0), 23);
    }

    @Says(promise = 0, value = "Then w is booked at this time, b waits (it does not count as evicted), and the price goes "
            + "from the CREDIT of the owner of w to that of the owner of b.")
    static void whoIsBoughtOutWaits() {
        SpanLodge x = oneWaits();
        x.extend(0, 7);
        Edge.due(x.buy(1, 0), 0);
        Edge.due(Edge.rowOf(x, 1), "1 2 4 5 30 0 3 1 30 35 60 -1");
        Edge.due(Edge.rowOf(x, 0), "0 0 4 10 30 0 1 0 -1 -1 0 -1");
        Edge.due(x.owner(0, 0), 140);
        Edge.due(x.owner(1, 0), 60);
        Edge.due(x.owner(0, 4), 0);
        x.cancel(1);
        Edge.due(Edge.place(x, 0), "1 30 40");
    }

    @Says(promise = 0, value = "Its gain is the joy of w less that of b (as they were told).")
    static void theGainOfABuyoutIsTheDifference() {
        buyoutGains(BargainEdges::oneWaits, 1, 0, 40, 40);
    }

    private static SpanLodge ofOneOwner(int credit) {
        SpanLodge x = new SpanLodge();
        x.addOwner(credit);
        Edge.put(x, 0, 0, 4, 10, 30, 0, 1);
        Edge.put(x, 0, 2, 4, 5, 30, 0, 3);
        return x;
    }

    @Says(promise = 0, value = "The owners of both can be the same one.")
    static void anOwnerMayBuyFromItself() {
        buyoutGains(() -> ofOneOwner(40), 1, 0, 40, 40);
        noBuyout(() -> ofOneOwner(39), 1, 0);
        SpanLodge x = ofOneOwner(40);
        x.buy(1, 0);
        Edge.due(x.owner(0, 0), 40);
    }

    @Says(promise = 0, value = "Each bargain counts for the owners of both bookings (twice if they are the same one).")
    static void aBargainCountsForBothOwners() {
        SpanLodge x = crossed();
        x.swap(0, 1);
        Edge.due(x.owner(0, 7), 1);
        Edge.due(x.owner(1, 7), 1);
        Edge.due(x.owner(2, 7), 0);
        SpanLodge y = oneWaits();
        y.buy(1, 0);
        Edge.due(y.owner(0, 7), 1);
        Edge.due(y.owner(1, 7), 1);
        Edge.due(y.owner(2, 7), 0);
    }

    @Says(promise = 0, value = "Each bargain counts for the owners of both bookings (twice if they are the same one).")
    static void aBargainOfOneOwnerCountsTwice() {
        SpanLodge x = Edge.free(1);
        Edge.stand(x, 0, 0, 2, 5, 15, 1, 10);
        Edge.stand(x, 0, 2, 2, 5, 10, 3, 15);
        x.swap(0, 1);
        Edge.due(x.owner(0, 7), 2);
        SpanLodge y = ofOneOwner(40);
        y.bargain();
        Edge.due(y.owner(0, 7), 2);
    }

    // ---- the best bargain

    private static void best(Edge.Recipe recipe, int... told) {
        for (int what = 0; what < told.length; what++) {
            int which = what;
            Edge.still(recipe, x -> x.best(which), told[which]);
        }
    }

    /** Buyouts of 0 by 1 (gain 40) and swaps of 2 and 3 (gain 5 times the sum of URGENCYs). */
    private static SpanLodge swapAndBuyout(int urgency, int other) {
        SpanLodge x = oneWaits();
        Edge.stand(x, 0, 10, 2, 5, 15, urgency, 10);
        Edge.stand(x, 1, 12, 2, 5, 10, other, 15);
        return x;
    }

    @Says(promise = 0, value = "The best bargain is the one with the greatest gain, of several a swap ahead of a buyout")
    static void theGreatestGainIsTheBest() {
        best(() -> swapAndBuyout(3, 4), 40, 1, 1, 0, 40);
        best(() -> swapAndBuyout(5, 4), 45, 0, 2, 3, 0);
    }

    @Says(promise = 0, value = "The best bargain is the one with the greatest gain, of several a swap ahead of a buyout")
    static void ofEqualGainsASwapIsTheBest() {
        best(() -> swapAndBuyout(4, 4), 40, 0, 2, 3, 0);
    }

    /** Swaps of 0 and 3, and of 1 and 2. */
    private static SpanLodge nested(int urgencyWithin) {
        SpanLodge x = Edge.free(2);
        Edge.stand(x, 0, 0, 2, 5, 15, 3, 10);
        Edge.stand(x, 1, 2, 2, 7, 45, urgencyWithin, 40);
        Edge.stand(x, 1, 4, 2, 7, 40, 3, 45);
        Edge.stand(x, 0, 6, 2, 5, 10, 3, 15);
        return x;
    }

    @Says(promise = 0, value = "then the one with the lower first booking (of a swap the one with the lower number, of a "
            + "buyout w), then the lower second one.")
    static void ofEqualSwapsTheLowerFirstIsTheBest() {
        best(() -> nested(3), 30, 0, 0, 3, 0);
        best(() -> nested(4), 35, 0, 1, 2, 0);
    }

    @Says(promise = 0, value = "then the one with the lower first booking (of a swap the one with the lower number, of a "
            + "buyout w), then the lower second one.")
    static void ofEqualSwapsTheLowerSecondIsTheBest() {
        for (int urgency = 3; urgency <= 4; urgency++) {
            int last = urgency;
            best(() -> {
                SpanLodge x = Edge.free(2);
                Edge.stand(x, 0, 0, 2, 5, 15, 3, 10);
                Edge.stand(x, 1, 2, 2, 5, 10, 3, 15);
                Edge.stand(x, 1, 4, 2, 5, 10, last, 15);
                return x;
            }, 15 + 5 * last, 0, 0, last == 3 ? 1 : 2, 0);
        }
    }

    @Says(promise = 0, value = "then the one with the lower first booking (of a swap the one with the lower number, of a "
            + "buyout w), then the lower second one.")
    static void ofEqualBuyoutsTheLowerWaitingOneIsTheBest() {
        for (int urgency = 3; urgency <= 4; urgency++) {
            int last = urgency;
            best(() -> {
                SpanLodge x = Edge.free(2);
                Edge.put(x, 0, 0, 2, 5, 30, 0, 1);
                Edge.put(x, 0, 4, 2, 5, 30, 0, 1);
                Edge.put(x, 1, 4, 2, 5, 30, 0, 3);
                Edge.put(x, 1, 0, 2, 5, 30, 0, last);
                return x;
            }, 20 * last - 20, 1, last == 3 ? 2 : 3, last == 3 ? 1 : 0, 10 + 10 * last);
        }
    }

    @Says(promise = 0, value = "then the one with the lower first booking (of a swap the one with the lower number, of a "
            + "buyout w), then the lower second one.")
    static void ofEqualBuyoutsTheLowerBookedOneIsTheBest() {
        best(() -> {
            SpanLodge x = Edge.free(2);
            Edge.put(x, 0, 0, 2, 5, 36, 0, 1);
            Edge.put(x, 0, 0, 2, 6, 30, 0, 1);
            Edge.put(x, 1, 0, 2, 5, 33, 3, 3);
            Edge.due(x.gain(2, 0), 31);
            Edge.due(x.gain(2, 1), 31);
            return x;
        }, 31, 1, 2, 0, 35);
    }

    @Says(promise = 0, value = "A buyout gives the place of a booked booking b to a waiting one w:")
    static void theWaitingOneMayHaveTheLowestNumber() {
        best(() -> {
            SpanLodge x = Edge.free(2);
            x.set(1, 99);
            x.cancel(x.book(0, 0, 0, 1));
            x.clean();
            Edge.put(x, 0, 0, 4, 10, 30, 0, 3);
            Edge.put(x, 1, 0, 4, 10, 30, 0, 1);
            x.evict(0);
            Edge.due(Edge.place(x, 0), "0 -1 -1");
            return x;
        }, 40, 1, 0, 1, 40);
    }

    @Says(promise = 0, value = "A buyout gives the place of a booked booking b to a waiting one w:")
    static void theHighestNumbersMayBargain() {
        Edge.Recipe recipe = () -> {
            SpanLodge x = Edge.full();
            x.cancel(38);
            x.cancel(39);
            x.clean();
            Edge.put(x, 7, 0, 4, 10, 90, 0, 1);
            Edge.put(x, 7, 0, 4, 10, 90, 0, 3);
            return x;
        };
        best(recipe, 40, 1, 39, 38, 40);
        Edge.due(recipe.make().bargain(), 0);
    }

    // ---- 23: swap

    @Says(promise = 23, value = "Returns 0, or the reason (1 if one of both is not booked; 4).")
    static void aSwapNeedsTwoBookedOnes() {
        SpanLodge made = Edge.states();
        for (int state = 0; state <= 6; state++) {
            int other = Edge.in(made, state);
            Edge.due(made.booking(other, 7), state);
            int due = state == 1 ? 4 : 1;
            Edge.still(Edge::states, x -> x.swap(7, other), due);
            Edge.still(Edge::states, x -> x.swap(other, 7), due);
        }
    }

    @Says(promise = 23, value = "Throws `IndexOutOfBoundsException` if there is no such booking")
    static void aSwapWantsBookings() {
        for (int none : new int[] {-1, 2, Edge.MIN, Edge.MAX}) {
            Edge.still(BargainEdges::crossed, x -> x.swap(none, 0), Edge.NO_INDEX);
            Edge.still(BargainEdges::crossed, x -> x.swap(1, none), Edge.NO_INDEX);
            Edge.still(BargainEdges::crossed, x -> x.swap(none, none), Edge.NO_INDEX);
        }
        Edge.still(SpanLodge::new, x -> x.swap(0, 0), Edge.NO_INDEX);
    }

    @Says(promise = 23, value = "Throws `IllegalArgumentException` if both are the same")
    static void aSwapWantsTwoBookings() {
        Edge.still(BargainEdges::crossed, x -> x.swap(0, 0), Edge.NO_ARGUMENT);
        Edge.still(BargainEdges::crossed, x -> x.swap(1, 1), Edge.NO_ARGUMENT);
        int cancelled = Edge.in(Edge.states(), 4);
        Edge.still(Edge::states, x -> x.swap(cancelled, cancelled), Edge.NO_ARGUMENT);
    }

    @Says(promise = 23, value = "`int swap(int one, int other) throws IndexOutOfBoundsException, "
            + "IllegalArgumentException`: Makes a swap.")
    static void aSwapIsCounted() {
        SpanLodge x = crossed();
        Edge.due(x.swap(1, 0), 0);
        Edge.due(x.count(11), 1);
        Edge.due(x.count(12), 0);
        Edge.due(x.swap(1, 0), 4);
        Edge.due(x.count(11), 1);
    }

    // ---- 24: buy

    @Says(promise = 24, value = "Returns 0, or the reason (1 if one of both is not in its state; 4).")
    static void aBuyoutNeedsAWaitingAndABookedOne() {
        SpanLodge made = Edge.states();
        int waits = Edge.in(made, 0);
        for (int state = 0; state <= 6; state++) {
            int other = Edge.in(made, state);
            Edge.still(Edge::states, x -> x.buy(other, 7), state == 0 ? 4 : 1);
            Edge.still(Edge::states, x -> x.buy(waits, other), state == 1 ? 4 : 1);
            Edge.still(Edge::states, x -> x.buy(other, other), 1);
        }
        Edge.still(BargainEdges::oneWaits, x -> x.buy(0, 1), 1);
    }

    @Says(promise = 24, value = "Throws `IndexOutOfBoundsException` if there is no such booking")
    static void aBuyoutWantsBookings() {
        for (int none : new int[] {-1, 2, Edge.MIN, Edge.MAX}) {
            Edge.still(BargainEdges::oneWaits, x -> x.buy(none, 0), Edge.NO_INDEX);
            Edge.still(BargainEdges::oneWaits, x -> x.buy(1, none), Edge.NO_INDEX);
            Edge.still(BargainEdges::oneWaits, x -> x.buy(none, none), Edge.NO_INDEX);
        }
        Edge.still(SpanLodge::new, x -> x.buy(0, 0), Edge.NO_INDEX);
    }

    @Says(promise = 24, value = "`int buy(int waiting, int booked) throws IndexOutOfBoundsException`: Makes a buyout.")
    static void aBuyoutIsCounted() {
        SpanLodge x = oneWaits();
        Edge.due(x.buy(1, 0), 0);
        Edge.due(x.count(12), 1);
        Edge.due(x.count(11), 0);
        Edge.due(x.buy(0, 1), 4);
        Edge.due(x.count(12), 1);
    }

    // ---- 25: bargain

    @Says(promise = 25, value = "Returns 0, or the reason (5).")
    static void withoutABargainTheReasonIs5() {
        Edge.still(SpanLodge::new, SpanLodge::bargain, 5);
        Edge.still(Edge::full, SpanLodge::bargain, 5);
        Edge.still(Edge::states, SpanLodge::bargain, 5);
    }

    @Says(promise = 25, value = "`int bargain()`: Makes the best bargain.")
    static void theBestBargainIsMade() {
        SpanLodge x = swapAndBuyout(4, 4);
        Edge.due(x.bargain(), 0);
        Edge.due(x.count(11), 1);
        Edge.due(x.count(12), 0);
        Edge.due(Edge.place(x, 2), "1 15 20");
        Edge.due(x.bargain(), 0);
        Edge.due(x.count(12), 1);
        Edge.due(Edge.place(x, 1), "1 30 35");
        Edge.due(x.owner(0, 0), 140);
        Edge.due(x.bargain(), 5);
        Edge.due(x.owner(0, 7), 2);
    }

    // ---- 27: gain

    @Says(promise = 27, value = "0 if it is not possible, or both are the same.")
    static void thereIsNoGainWithItself() {
        Edge.still(BargainEdges::crossed, x -> x.gain(0, 0), 0);
        Edge.still(BargainEdges::oneWaits, x -> x.gain(1, 1), 0);
        for (int state = 0; state <= 6; state++) {
            int same = Edge.in(Edge.states(), state);
            Edge.still(Edge::states, x -> x.gain(same, same), 0);
        }
    }

    @Says(promise = 27, value = "Returns the gain of the swap (both booked) or the buyout (the first one waits, the second "
            + "one is booked)")
    static void thereIsNoGainWithOtherStates() {
        SpanLodge made = Edge.states();
        int waits = Edge.in(made, 0);
        for (int state = 0; state <= 6; state++) {
            int other = Edge.in(made, state);
            Edge.still(Edge::states, x -> x.gain(other, 7), 0);
            Edge.still(Edge::states, x -> x.gain(7, other), 0);
            Edge.still(Edge::states, x -> x.gain(waits, other), 0);
        }
        Edge.still(BargainEdges::oneWaits, x -> x.gain(0, 1), 0);
        Edge.still(BargainEdges::heldAt30, x -> x.gain(1, 0), 0);
    }

    private static SpanLodge heldAt30() {
        SpanLodge x = Edge.at(oneWaits(), 30);
        x.arrive(0);
        return x;
    }

    @Says(promise = 27, value = "Throws `IndexOutOfBoundsException` if there is no such booking")
    static void aGainWantsBookings() {
        for (int none : new int[] {-1, 2, Edge.MIN, Edge.MAX}) {
            Edge.still(BargainEdges::oneWaits, x -> x.gain(none, 0), Edge.NO_INDEX);
            Edge.still(BargainEdges::oneWaits, x -> x.gain(1, none), Edge.NO_INDEX);
            Edge.still(BargainEdges::oneWaits, x -> x.gain(none, none), Edge.NO_INDEX);
        }
        Edge.still(SpanLodge::new, x -> x.gain(0, 0), Edge.NO_INDEX);
    }

    // ---- 28: best

    @Says(promise = 28, value = "Returns that number of the best bargain; NONE without one.")
    static void withoutABargainTheBestIsNone() {
        best(SpanLodge::new, -1, -1, -1, -1, -1);
        best(Edge::full, -1, -1, -1, -1, -1);
        SpanLodge x = oneWaits();
        x.buy(1, 0);
        for (int what = 0; what <= 4; what++) {
            Edge.due(x.best(what), -1);
        }
    }

    @Says(promise = 28, value = "`what`: 0: its gain; 1: 0 for a swap, 1 for a buyout; 2: its first booking; 3: the second "
            + "one; 4: the price (0 for a swap)")
    static void bestTellsFiveNumbers() {
        best(BargainEdges::crossed, 20, 0, 0, 1, 0);
        best(BargainEdges::oneWaits, 40, 1, 1, 0, 40);
        for (int what : new int[] {-1, 5, Edge.MIN, Edge.MAX}) {
            Edge.still(BargainEdges::crossed, x -> x.best(what), Edge.NO_ARGUMENT);
            Edge.still(SpanLodge::new, x -> x.best(what), Edge.NO_ARGUMENT);
        }
    }
}
