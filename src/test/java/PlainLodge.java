import java.util.ArrayList;
import java.util.Comparator;
import java.util.List;

/**
 * A second program for the same document, written as slowly and plainly as its words: each time is
 * tried, each byte is looked at, each tick places. RandomRuns compares SpanLodge with it.
 */
final class PlainLodge {
    static final int NONE = -1;

    static final class Owner {
        int credit, kept, noShows, lateCancels, evicted, expired, lateTicks, bargains;

        int broken() {
            return noShows + lateCancels;
        }

        Owner copy() {
            Owner o = new Owner();
            o.credit = credit;
            o.kept = kept;
            o.noShows = noShows;
            o.lateCancels = lateCancels;
            o.evicted = evicted;
            o.expired = expired;
            o.lateTicks = lateTicks;
            o.bargains = bargains;
            return o;
        }
    }

    static final class Booking {
        int owner, from, length, duration, wish, flex, urgency;
        int state = 0, begin = NONE, end = NONE;

        Booking copy() {
            Booking b = new Booking();
            b.owner = owner;
            b.from = from;
            b.length = length;
            b.duration = duration;
            b.wish = wish;
            b.flex = flex;
            b.urgency = urgency;
            b.state = state;
            b.begin = begin;
            b.end = end;
            return b;
        }

        boolean live() {
            return state == 1 || state == 2;
        }

        boolean has(int at, int time) {
            return live() && at >= from && at <= from + length - 1 && time >= begin && time <= end - 1;
        }

        int joyAt(int t) {
            return Math.max(0, urgency * (20 - Math.abs(t - wish)));
        }

        int joy() {
            return state == 1 ? joyAt(begin) : 0;
        }
    }

    static final class World {
        int size = 32, time = 0, swaps = 0, buyouts = 0;
        int[] settings = {5, 10, 4, 3};
        List<Owner> owners = new ArrayList<>();
        List<Booking> bookings = new ArrayList<>();

        World copy() {
            World w = new World();
            w.size = size;
            w.time = time;
            w.swaps = swaps;
            w.buyouts = buyouts;
            w.settings = settings.clone();
            for (Owner o : owners) {
                w.owners.add(o.copy());
            }
            for (Booking b : bookings) {
                w.bookings.add(b.copy());
            }
            return w;
        }

        static boolean clash(int from, int length, int begin, int end, Booking b) {
            boolean bytes = false;
            for (int at = from; at < from + length; at++) {
                bytes |= at >= b.from && at < b.from + b.length;
            }
            boolean ticks = false;
            for (int t = begin; t < end; t++) {
                ticks |= t >= b.begin && t < b.end;
            }
            return bytes && ticks;
        }

        boolean clear(int from, int length, int begin, int end, List<Booking> but) {
            for (Booking b : bookings) {
                if (b.live() && !but.contains(b) && clash(from, length, begin, end, b)) {
                    return false;
                }
            }
            return true;
        }

        int bestTime(Booking b) {
            int found = NONE;
            for (int t = b.wish - b.flex; t <= b.wish + b.flex; t++) {
                if (t >= time && clear(b.from, b.length, t, t + b.duration, List.of(b))
                        && (found == NONE || Math.abs(t - b.wish) < Math.abs(found - b.wish))) {
                    found = t;
                }
            }
            return found;
        }

        boolean placeOne(Booking b) {
            int t = bestTime(b);
            if (t == NONE) {
                return false;
            }
            b.state = 1;
            b.begin = t;
            b.end = t + b.duration;
            return true;
        }

        List<Booking> waiters() {
            List<Booking> all = new ArrayList<>();
            for (Booking b : bookings) {
                if (b.state == 0) {
                    all.add(b);
                }
            }
            all.sort(Comparator.comparingInt((Booking b) -> owners.get(b.owner).broken())
                    .thenComparingInt(b -> bookings.indexOf(b)));
            return all;
        }

        int placeAll() {
            int placed = 0;
            for (Booking b : waiters()) {
                placed += placeOne(b) ? 1 : 0;
            }
            return placed;
        }

        /** bumped, expired, placed, done */
        int[] tick() {
            int[] n = new int[4];
            time++;
            for (Booking b : bookings) {
                if (b.state == 2 && b.end <= time) {
                    b.state = 3;
                    owners.get(b.owner).kept++;
                    n[3]++;
                }
            }
            for (Booking b : bookings) {
                if (b.state == 1 && b.begin + settings[0] < time) {
                    b.state = 5;
                    owners.get(b.owner).noShows++;
                    n[0]++;
                }
            }
            for (Booking b : bookings) {
                if (b.state == 0 && b.wish + b.flex < time) {
                    b.state = 6;
                    owners.get(b.owner).expired++;
                    n[1]++;
                }
            }
            n[2] += placeAll();
            return n;
        }

        int active(int owner) {
            int n = 0;
            for (Booking b : bookings) {
                n += b.owner == owner && b.state <= 2 ? 1 : 0;
            }
            return n;
        }

        boolean barred(int owner) {
            return owners.get(owner).broken() >= settings[3];
        }

        int states(int state) {
            int n = 0;
            for (Booking b : bookings) {
                n += b.state == state ? 1 : 0;
            }
            return n;
        }

        int holder(int at, int t) {
            for (int i = 0; i < bookings.size(); i++) {
                if (bookings.get(i).has(at, t)) {
                    return i;
                }
            }
            return NONE;
        }

        int usedAt(int t) {
            int n = 0;
            for (int at = 0; at < size; at++) {
                n += holder(at, t) == NONE ? 0 : 1;
            }
            return n;
        }

        int swapGain(Booking a, Booking b) {
            if (a == b || a.state != 1 || b.state != 1 || a.end - a.begin != b.end - b.begin
                    || a.begin < time || b.begin < time) {
                return 0;
            }
            if (!clear(a.from, a.length, b.begin, b.end, List.of(a, b))
                    || !clear(b.from, b.length, a.begin, a.end, List.of(a, b))) {
                return 0;
            }
            int ga = a.joyAt(b.begin) - a.joy();
            int gb = b.joyAt(a.begin) - b.joy();
            return ga > 0 && gb > 0 ? ga + gb : 0;
        }

        int price(Booking w, Booking b) {
            return Math.floorDiv(w.joyAt(b.begin) + b.joy(), 2);
        }

        int buyGain(Booking w, Booking b) {
            if (w.state != 0 || b.state != 1 || b.begin < time || Math.abs(b.begin - w.wish) > w.flex
                    || !clear(w.from, w.length, b.begin, b.begin + w.duration, List.of(w, b))) {
                return 0;
            }
            int price = price(w, b);
            boolean fine = price > b.joy() && price < w.joyAt(b.begin)
                    && owners.get(w.owner).credit >= price;
            return fine ? w.joyAt(b.begin) - b.joy() : 0;
        }

        void swap(Booking a, Booking b) {
            int begin = a.begin;
            int end = a.end;
            a.begin = b.begin;
            a.end = b.end;
            b.begin = begin;
            b.end = end;
            swaps++;
            owners.get(a.owner).bargains++;
            owners.get(b.owner).bargains++;
            placeAll();
        }

        void buy(Booking w, Booking b) {
            int price = price(w, b);
            w.state = 1;
            w.begin = b.begin;
            w.end = b.begin + w.duration;
            b.state = 0;
            b.begin = NONE;
            b.end = NONE;
            owners.get(w.owner).credit -= price;
            owners.get(b.owner).credit += price;
            buyouts++;
            owners.get(w.owner).bargains++;
            owners.get(b.owner).bargains++;
            placeAll();
        }

        /** gain, kind, first, second, price; null without one */
        int[] best() {
            List<int[]> all = new ArrayList<>();
            for (int i = 0; i < bookings.size(); i++) {
                for (int j = 0; j < bookings.size(); j++) {
                    Booking a = bookings.get(i);
                    Booking b = bookings.get(j);
                    if (i < j && swapGain(a, b) > 0) {
                        all.add(new int[] {swapGain(a, b), 0, i, j, 0});
                    }
                    if (buyGain(a, b) > 0) {
                        all.add(new int[] {buyGain(a, b), 1, i, j, price(a, b)});
                    }
                }
            }
            all.sort(Comparator.comparingInt((int[] d) -> -d[0]).thenComparingInt(d -> d[1])
                    .thenComparingInt(d -> d[2]).thenComparingInt(d -> d[3]));
            return all.isEmpty() ? null : all.get(0);
        }
    }

    World world = new World();
    World[] slots = new World[2];
    StringBuilder text = new StringBuilder();
    int code = 0, position = NONE;
    int[] draft = {0, 1, 1};
    String line = "";

    // ---- setup texts

    int appendText(int four) {
        if (text.length() + 4 > 800) {
            throw new IllegalStateException();
        }
        text.append((char) (four >> 24 & 255)).append((char) (four >> 16 & 255))
                .append((char) (four >> 8 & 255)).append((char) (four & 255));
        return text.length();
    }

    int truncateText(int length) {
        if (length < 0 || length > text.length()) {
            throw new IllegalArgumentException();
        }
        text.setLength(length);
        return length;
    }

    static final class Wrong extends Exception {
        private static final long serialVersionUID = 1L;
        final int code;
        final int position;

        Wrong(int code, int position) {
            this.code = code;
            this.position = position;
        }
    }

    /** Splits a text into tokens, each with its place; a stray byte is a token "?". */
    static final class Tokens {
        final List<String> words = new ArrayList<>();
        final List<Integer> places = new ArrayList<>();
        int at = 0;

        Tokens(String text) {
            java.util.regex.Matcher m = java.util.regex.Pattern
                    .compile("[a-z]+|[0-9]+|;|[ \n]+|(?s:.)").matcher(text);
            while (m.find()) {
                if (m.group().matches("[ \n]+")) {
                    continue;
                }
                words.add(m.group().matches("[a-z]+|[0-9]+|;") ? m.group() : "?");
                places.add(m.start());
            }
            words.add("");
            places.add(text.length());
        }

        String peek() {
            return words.get(at);
        }

        Wrong wrong(int code) {
            return new Wrong(code, places.get(at));
        }

        void symbol(String what) throws Wrong {
            if (!peek().equals(what)) {
                throw wrong(1);
            }
            at++;
        }

        /** A number without an upper bound, cut at a million. */
        int number(int least) throws Wrong {
            String digits = peek();
            if (digits.matches("0*[1-9][0-9]{6,}")) {
                at++;
                return 1000000;
            }
            return number(least, 1000000);
        }

        int number(int least, int most) throws Wrong {
            if (!peek().matches("[0-9]+")) {
                throw wrong(1);
            }
            java.math.BigInteger n = new java.math.BigInteger(peek());
            if (n.compareTo(java.math.BigInteger.valueOf(least)) < 0
                    || n.compareTo(java.math.BigInteger.valueOf(most)) > 0) {
                throw wrong(2);
            }
            at++;
            return n.intValue();
        }
    }

    static World parse(String text) throws Wrong {
        Tokens t = new Tokens(text);
        World w = new World();
        t.symbol("size");
        w.size = t.number(1, 64);
        t.symbol(";");
        while (!t.peek().isEmpty()) {
            switch (t.peek()) {
                case "owner" -> {
                    if (w.owners.size() == 8) {
                        throw t.wrong(3);
                    }
                    t.at++;
                    Owner o = new Owner();
                    o.credit = t.number(0, 999);
                    w.owners.add(o);
                }
                case "set" -> {
                    t.at++;
                    int what = t.number(0, 3);
                    w.settings[what] = t.number(what < 2 ? 0 : 1, what == 0 ? 50 : what == 1 ? 99 : 9);
                }
                case "book" -> {
                    if (w.bookings.size() == 40) {
                        throw t.wrong(3);
                    }
                    t.at++;
                    Booking b = new Booking();
                    b.owner = t.number(0, w.owners.size() - 1);
                    if (w.active(b.owner) >= w.settings[2]) {
                        t.at--;
                        throw t.wrong(3);
                    }
                    b.from = t.number(0, w.size - 1);
                    b.length = t.number(1);
                    if (b.from + b.length > w.size) {
                        t.at--;
                        throw t.wrong(4);
                    }
                    b.duration = t.number(1, 99);
                    b.wish = t.number(0, 9999);
                    b.flex = 0;
                    b.urgency = 1;
                    if (t.peek().equals("flex")) {
                        t.at++;
                        b.flex = t.number(0, 99);
                    }
                    if (t.peek().equals("urgency")) {
                        t.at++;
                        b.urgency = t.number(1, 9);
                    }
                    w.bookings.add(b);
                    w.placeOne(b);
                }
                default -> throw t.wrong(1);
            }
            t.symbol(";");
        }
        return w;
    }

    int load() {
        String all = text.toString();
        text.setLength(0);
        try {
            world = parse(all);
            code = 0;
            position = NONE;
            draft = new int[] {0, 1, 1};
            return world.bookings.size();
        } catch (Wrong e) {
            code = e.code;
            position = e.position;
            return NONE;
        }
    }

    int errorCode() {
        return code;
    }

    int errorPosition() {
        return position;
    }

    // ---- checks

    void in(int value, int least, int most) {
        if (value < least || value > most) {
            throw new IllegalArgumentException();
        }
    }

    Owner anOwner(int owner) {
        if (owner < 0 || owner >= world.owners.size()) {
            throw new IndexOutOfBoundsException();
        }
        return world.owners.get(owner);
    }

    Booking aBooking(int booking) {
        if (booking < 0 || booking >= world.bookings.size()) {
            throw new IndexOutOfBoundsException();
        }
        return world.bookings.get(booking);
    }

    void aByte(int at) {
        if (at < 0 || at >= world.size) {
            throw new IndexOutOfBoundsException();
        }
    }

    void aSpan(int from, int length) {
        aByte(from);
        if ((long) from + length > world.size) {
            throw new IndexOutOfBoundsException();
        }
        in(length, 1, Integer.MAX_VALUE);
    }

    // ---- owners and settings

    int addOwner(int credit) {
        in(credit, 0, 999);
        if (world.owners.size() == 8) {
            throw new IllegalStateException();
        }
        Owner o = new Owner();
        o.credit = credit;
        world.owners.add(o);
        return world.owners.size() - 1;
    }

    int set(int what, int value) {
        in(what, 0, 3);
        in(value, what < 2 ? 0 : 1, what == 0 ? 50 : what == 1 ? 99 : 9);
        int before = world.settings[what];
        world.settings[what] = value;
        return before;
    }

    int count(int what) {
        in(what, 0, 13);
        int[] all = {world.settings[0], world.settings[1], world.settings[2], world.settings[3],
            world.size, world.owners.size(), world.bookings.size(), world.time, world.states(0),
            world.states(1), world.states(2), world.swaps, world.buyouts, world.usedAt(world.time)};
        return all[what];
    }

    int owner(int owner, int what) {
        Owner o = anOwner(owner);
        in(what, 0, 10);
        int joy = 0;
        for (Booking b : world.bookings) {
            joy += b.owner == owner ? b.joy() : 0;
        }
        int[] all = {o.credit, o.kept, o.noShows, o.lateCancels, o.evicted, o.expired, o.lateTicks,
            o.bargains, world.active(owner), world.barred(owner) ? 1 : 0, joy};
        return all[what];
    }

    double trust(int owner) {
        Owner o = anOwner(owner);
        return o.kept + o.broken() == 0 ? 1.0 : (double) o.kept / (double) (o.kept + o.broken());
    }

    int forgive(int owner) {
        Owner o = anOwner(owner);
        int broken = o.broken();
        o.noShows = 0;
        o.lateCancels = 0;
        return broken;
    }

    // ---- bookings

    void draft(int from, int length, int duration) {
        aSpan(from, length);
        in(duration, 1, 99);
        draft = new int[] {from, length, duration};
    }

    int book(int owner, int wish, int flex, int urgency) {
        Owner o = anOwner(owner);
        in(wish, 0, 9999);
        in(flex, 0, 99);
        in(urgency, 1, 9);
        in(wish + flex, world.time, Integer.MAX_VALUE);
        if (world.bookings.size() == 40 || world.active(owner) >= world.settings[2]
                || o.broken() >= world.settings[3]) {
            throw new IllegalStateException();
        }
        Booking b = new Booking();
        b.owner = owner;
        b.from = draft[0];
        b.length = draft[1];
        b.duration = draft[2];
        b.wish = wish;
        b.flex = flex;
        b.urgency = urgency;
        world.bookings.add(b);
        world.placeOne(b);
        return world.bookings.size() - 1;
    }

    int booking(int booking, int what) {
        Booking b = aBooking(booking);
        in(what, 0, 11);
        int[] all = {b.owner, b.from, b.length, b.duration, b.wish, b.flex, b.urgency, b.state, b.begin,
            b.end, b.joy(), b.state == 0 ? world.bestTime(b) : NONE};
        return all[what];
    }

    int waiter(int index) {
        if (index < 0) {
            throw new IndexOutOfBoundsException();
        }
        List<Booking> all = world.waiters();
        return index < all.size() ? world.bookings.indexOf(all.get(index)) : NONE;
    }

    int clean() {
        int before = world.bookings.size();
        world.bookings.removeIf(b -> b.state > 2);
        return before - world.bookings.size();
    }

    // ---- acts

    int arrive(int booking) {
        Booking b = aBooking(booking);
        if (b.state != 1) {
            return 1;
        }
        if (world.time < b.begin) {
            return 2;
        }
        b.state = 2;
        world.owners.get(b.owner).lateTicks += world.time - b.begin;
        return 0;
    }

    int leave(int booking) {
        Booking b = aBooking(booking);
        if (b.state != 2) {
            return 1;
        }
        b.state = 3;
        b.end = world.time;
        world.owners.get(b.owner).kept++;
        world.placeAll();
        return 0;
    }

    int extend(int booking, int ticks) {
        Booking b = aBooking(booking);
        in(ticks, 1, 99);
        if (!b.live()) {
            return 1;
        }
        if (!world.clear(b.from, b.length, b.begin, b.end + ticks, List.of(b))) {
            return 3;
        }
        b.end += ticks;
        world.placeAll();
        return 0;
    }

    int cancel(int booking) {
        Booking b = aBooking(booking);
        if (b.state > 1) {
            return 1;
        }
        if (b.state == 1 && b.begin < world.time + world.settings[1]) {
            world.owners.get(b.owner).lateCancels++;
        }
        b.state = 4;
        world.placeAll();
        return 0;
    }

    int evict(int booking) {
        Booking b = aBooking(booking);
        if (b.state != 1) {
            return 1;
        }
        b.state = 0;
        b.begin = NONE;
        b.end = NONE;
        world.owners.get(b.owner).evicted++;
        world.placeAll();
        return 0;
    }

    int swap(int one, int other) {
        Booking a = aBooking(one);
        Booking b = aBooking(other);
        if (a == b) {
            throw new IllegalArgumentException();
        }
        if (a.state != 1 || b.state != 1) {
            return 1;
        }
        if (world.swapGain(a, b) == 0) {
            return 4;
        }
        world.swap(a, b);
        return 0;
    }

    int buy(int waiting, int booked) {
        Booking w = aBooking(waiting);
        Booking b = aBooking(booked);
        if (w.state != 0 || b.state != 1) {
            return 1;
        }
        if (world.buyGain(w, b) == 0) {
            return 4;
        }
        world.buy(w, b);
        return 0;
    }

    int bargain() {
        int[] best = world.best();
        if (best == null) {
            return 5;
        }
        Booking a = world.bookings.get(best[2]);
        Booking b = world.bookings.get(best[3]);
        if (best[1] == 0) {
            world.swap(a, b);
        } else {
            world.buy(a, b);
        }
        return 0;
    }

    // ---- time

    int pass(int ticks) {
        in(ticks, 1, 200);
        if (world.time + ticks > 20000) {
            throw new IllegalStateException();
        }
        int bumped = 0;
        for (int i = 0; i < ticks; i++) {
            bumped += world.tick()[0];
        }
        return bumped;
    }

    // ---- what could be

    int gain(int first, int second) {
        Booking a = aBooking(first);
        Booking b = aBooking(second);
        return world.swapGain(a, b) + world.buyGain(a, b);
    }

    int best(int what) {
        in(what, 0, 4);
        int[] best = world.best();
        return best == null ? NONE : best[what];
    }

    int holder(int at, int time) {
        aByte(at);
        in(time, 0, 20100);
        return world.holder(at, time);
    }

    int nextFree(int from) {
        in(from, world.time, 20000);
        for (int t = from; t <= from + 300; t++) {
            if (world.clear(draft[0], draft[1], t, t + draft[2], List.of())) {
                return t;
            }
        }
        return NONE;
    }

    boolean mayWrite(int owner, int from, int length) {
        anOwner(owner);
        aSpan(from, length);
        boolean may = true;
        for (int at = from; at < from + length; at++) {
            boolean held = false;
            for (Booking b : world.bookings) {
                held |= b.state == 2 && b.owner == owner && b.has(at, world.time);
            }
            may &= held;
        }
        return may;
    }

    float usage(int ticks) {
        in(ticks, 1, 200);
        int used = 0;
        for (int t = 0; t < ticks; t++) {
            used += world.usedAt(world.time + t);
        }
        return (float) used / (float) (world.size * ticks);
    }

    int waitsFor(int booking, int most) {
        Booking b = aBooking(booking);
        in(most, 1, 200);
        World w = world.copy();
        for (int t = 0; t <= most; t++) {
            if (w.bookings.get(booking).state != 0) {
                return t;
            }
            w.tick();
        }
        return NONE;
    }

    int ahead(int ticks, int what) {
        in(ticks, 1, 200);
        in(what, 0, 3);
        World w = world.copy();
        int sum = 0;
        for (int i = 0; i < ticks; i++) {
            sum += w.tick()[what];
        }
        return sum;
    }

    int show(int time) {
        in(time, 0, 20100);
        StringBuilder s = new StringBuilder();
        for (int at = 0; at < world.size; at++) {
            int h = world.holder(at, time);
            s.append(h == NONE ? "." : String.valueOf(world.bookings.get(h).owner));
        }
        line = s.toString();
        return line.length();
    }

    int shown(int index) {
        return index >= 0 && index < line.length() ? line.charAt(index) : NONE;
    }

    // ---- saved states

    void save(int slot) {
        in(slot, 0, 1);
        slots[slot] = world.copy();
    }

    void restore(int slot) {
        in(slot, 0, 1);
        if (slots[slot] == null) {
            throw new IllegalStateException();
        }
        world = slots[slot].copy();
        draft = new int[] {0, 1, 1};
    }
}
