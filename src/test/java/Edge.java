import java.lang.reflect.InvocationTargetException;
import java.lang.reflect.Method;
import java.util.Arrays;
import java.util.Comparator;

/**
 * Runs tests of single sentences. A test tells how its object is made (a recipe), so that each
 * look at it can have a new one: no object gets near its 512th call.
 */
final class Edge {
    static final Class<?> NO_INDEX = IndexOutOfBoundsException.class;
    static final Class<?> NO_ARGUMENT = IllegalArgumentException.class;
    static final Class<?> NO_STATE = IllegalStateException.class;
    static final int NONE = -1;
    static final int MIN = Integer.MIN_VALUE;
    static final int MAX = Integer.MAX_VALUE;

    /** Makes a new object, always in the same state. */
    interface Recipe {
        SpanLodge make();
    }

    interface Call {
        Object on(SpanLodge x);
    }

    private static final Call[] LOOKS = {
        Edge::numbersOf, x -> rowsOf(x, 0, 20), x -> rowsOf(x, 20, 40), Edge::lineOf, Edge::draftOf,
        Edge::textOf, x -> savedIn(x, 0), x -> savedIn(x, 1),
    };

    private static String test = "";
    private static int answers = 0;
    private static int wrong = 0;

    private Edge() {
    }

    /** Runs each test of a class and ends the program. */
    static void run(Class<?> tests) {
        Method[] methods = tests.getDeclaredMethods();
        Arrays.sort(methods, Comparator.comparing(Method::getName));
        int made = 0;
        for (Method method : methods) {
            if (method.isAnnotationPresent(Says.class)) {
                made++;
                runOne(tests, method);
            }
        }
        System.out.println(tests.getName() + ": " + made + " sentences, " + answers + " answers, "
                + wrong + " of them wrong");
        System.exit(wrong == 0 && made > 0 ? 0 : 1);
    }

    private static void runOne(Class<?> tests, Method method) {
        test = tests.getName() + "." + method.getName();
        int before = answers;
        try {
            method.setAccessible(true);
            method.invoke(null);
            tell(answers > before, "it asked nothing");
        } catch (InvocationTargetException e) {
            tell(false, "it ended with " + e.getCause());
        } catch (IllegalAccessException e) {
            tell(false, "it may not be called");
        }
    }

    private static void tell(boolean right, String what) {
        if (!right) {
            wrong++;
            System.out.println(test + ": " + what);
        }
    }

    static void due(Object got, Object want) {
        answers++;
        tell(got.equals(want), "answered " + got + ", due is " + want);
    }

    /** The call answers this, or throws exactly this exception, and nothing changes. */
    static void still(Recipe recipe, Call call, Object want) {
        due(answerOf(recipe.make(), call), want);
        for (int i = 0; i < LOOKS.length; i++) {
            SpanLodge called = recipe.make();
            answerOf(called, call);
            Object now = LOOKS[i].on(called);
            Object before = LOOKS[i].on(recipe.make());
            answers++;
            tell(now.equals(before), "changed something (look " + i + "): " + before + " to " + now);
        }
    }

    /** The answer of a call, or the class of the exception that it threw. */
    static Object answerOf(SpanLodge x, Call call) {
        try {
            return call.on(x);
        } catch (RuntimeException e) {
            return e.getClass();
        }
    }

    // ---- looks: what an object shows, and what it hides

    static String numbersOf(SpanLodge x) {
        StringBuilder s = new StringBuilder();
        s.append(x.errorCode()).append(' ').append(x.errorPosition());
        for (int what = 0; what <= 13; what++) {
            s.append(' ').append(x.count(what));
        }
        for (int owner = 0; owner < x.count(5); owner++) {
            s.append(" / ").append(x.trust(owner));
            for (int what = 0; what <= 10; what++) {
                s.append(' ').append(x.owner(owner, what));
            }
        }
        s.append(" /");
        for (int index = 0; index == 0 || x.waiter(index - 1) != NONE; index++) {
            s.append(' ').append(x.waiter(index));
        }
        for (int what = 0; what <= 4; what++) {
            s.append(' ').append(x.best(what));
        }
        for (int what = 0; what <= 3; what++) {
            s.append(' ').append(x.ahead(200, what));
        }
        return s.toString();
    }

    static String rowsOf(SpanLodge x, int first, int behind) {
        StringBuilder s = new StringBuilder();
        int last = Math.min(behind, x.count(6));
        for (int booking = first; booking < last; booking++) {
            s.append(rowOf(x, booking)).append(" / ");
        }
        return s.toString();
    }

    /** All that booking() tells of one. */
    static String rowOf(SpanLodge x, int booking) {
        StringBuilder s = new StringBuilder();
        for (int what = 0; what <= 11; what++) {
            s.append(what == 0 ? "" : " ").append(x.booking(booking, what));
        }
        return s.toString();
    }

    static String lineOf(SpanLodge x) {
        StringBuilder s = new StringBuilder();
        for (int index = -1; index <= 64; index++) {
            s.append(x.shown(index)).append(' ');
        }
        return s.toString();
    }

    /** FROM, LENGTH and DURATION of the draft: only a booking tells them all. */
    static String draftOf(SpanLodge x) {
        int time = x.count(7);
        if (time > 10098) {
            return "next free: " + x.nextFree(Math.min(time, 20000));
        }
        x.set(2, 9);
        x.clean();
        for (int b = 0; b < x.count(6) && x.count(6) == 40; b++) {
            x.cancel(b);
            x.clean();
        }
        int owner = x.count(5) < 8 ? x.addOwner(0) : leastBusy(x);
        x.forgive(owner);
        int made = x.book(owner, Math.min(time, 9999), 99, 1);
        return x.booking(made, 1) + " " + x.booking(made, 2) + " " + x.booking(made, 3);
    }

    private static int leastBusy(SpanLodge x) {
        int least = 0;
        for (int owner = 1; owner < x.count(5); owner++) {
            if (x.owner(owner, 8) < x.owner(least, 8)) {
                least = owner;
            }
        }
        return least;
    }

    /** The length of the text, and what it says as a setup. */
    static String textOf(SpanLodge x) {
        int length = 0;
        for (int i = 0; i < 200; i++) {
            Object longer = answerOf(x, y -> y.appendText(0x20202020));
            if (!(longer instanceof Integer)) {
                break;
            }
            length = i == 0 ? (int) longer - 4 : length;
        }
        return length + ": " + x.load() + " " + x.errorCode() + " " + x.errorPosition() + " "
                + numbersOf(x);
    }

    private static Object savedIn(SpanLodge x, int slot) {
        Object got = answerOf(x, restore(slot));
        return got + " " + numbersOf(x) + rowsOf(x, 0, 20);
    }

    // ---- calls that answer nothing

    static Call draft(int from, int length, int duration) {
        return x -> {
            x.draft(from, length, duration);
            return "done";
        };
    }

    static Call save(int slot) {
        return x -> {
            x.save(slot);
            return "done";
        };
    }

    static Call restore(int slot) {
        return x -> {
            x.restore(slot);
            return "done";
        };
    }

    // ---- objects to begin with

    /** A file of 32 bytes and some owners with 100 as CREDIT; all settings as at first. */
    static SpanLodge owners(int owners) {
        SpanLodge x = new SpanLodge();
        for (int i = 0; i < owners; i++) {
            x.addOwner(100);
        }
        return x;
    }

    /** The same with the greatest LIMIT and STRIKES, where no cancellation ahead is late. */
    static SpanLodge free(int owners) {
        SpanLodge x = owners(owners);
        x.set(1, 0);
        x.set(2, 9);
        x.set(3, 9);
        return x;
    }

    /** 8 owners and 40 bookings of the byte 0, at the times 0 to 39. */
    static SpanLodge full() {
        SpanLodge x = free(8);
        for (int i = 0; i < 40; i++) {
            x.book(i / 5, i, 0, 1);
        }
        return x;
    }

    /** An object that has something of everything, at the time 3. */
    static SpanLodge busy() {
        SpanLodge x = owners(3);
        Checks.load(x, "size 9;?");
        x.set(2, 9);
        put(x, 0, 0, 4, 10, 0, 0, 1);
        put(x, 1, 2, 4, 5, 20, 3, 1);
        put(x, 2, 0, 9, 5, 4, 2, 3);
        put(x, 1, 0, 4, 9, 22, 2, 4);
        put(x, 0, 8, 1, 1, 0, 0, 1);
        x.arrive(0);
        x.cancel(4);
        x.bargain();
        x.save(1);
        x.pass(3);
        x.show(21);
        Checks.append(x, "size 7;owner 4;book 0 1 1 2 3;");
        x.draft(20, 5, 6);
        return x;
    }

    /** An object in which all that count() tells, and all records of the owner 0, are not as at first. */
    static SpanLodge rich() {
        SpanLodge x = free(8);
        x.set(0, 9);
        stand(x, 0, 0, 2, 5, 45, 3, 40);
        stand(x, 1, 2, 2, 5, 40, 3, 45);
        put(x, 0, 4, 2, 5, 50, 0, 1);
        put(x, 1, 4, 2, 5, 50, 0, 3);
        x.bargain();
        x.bargain();
        x.set(1, 50);
        put(x, 0, 6, 2, 5, 2, 0, 1);
        put(x, 0, 8, 2, 9, 0, 0, 1);
        put(x, 0, 8, 2, 9, 1, 0, 1);
        put(x, 0, 10, 2, 3, 7, 0, 1);
        put(x, 2, 12, 9, 9, 11, 0, 1);
        put(x, 3, 12, 9, 9, 12, 0, 1);
        put(x, 2, 21, 3, 20, 4, 0, 1);
        x.evict(4);
        x.cancel(7);
        x.pass(4);
        x.arrive(4);
        x.arrive(10);
        x.pass(6);
        x.draft(30, 2, 40);
        return x;
    }

    /** Bookings in the states 1, 0, 2, 3, 4, 5, 6 and, as 7, in the state 1 again; the time is 7. */
    static SpanLodge states() {
        SpanLodge x = free(2);
        put(x, 0, 0, 2, 30, 20, 0, 1);
        put(x, 0, 0, 2, 30, 20, 0, 1);
        put(x, 0, 2, 2, 30, 0, 0, 1);
        put(x, 0, 4, 2, 1, 0, 0, 1);
        put(x, 0, 6, 2, 30, 20, 0, 1);
        put(x, 1, 8, 2, 30, 0, 0, 1);
        put(x, 1, 8, 2, 30, 1, 0, 1);
        put(x, 1, 10, 2, 30, 20, 0, 1);
        x.arrive(2);
        x.arrive(3);
        x.cancel(4);
        x.pass(7);
        return x;
    }

    /** The first booking in a state. */
    static int in(SpanLodge x, int state) {
        for (int b = 0; b < x.count(6); b++) {
            if (x.booking(b, 7) == state) {
                return b;
            }
        }
        return NONE;
    }

    /** Makes a booking with a draft of its own; the draft stays. */
    static int put(SpanLodge x, int owner, int from, int length, int duration,
            int wish, int flex, int urgency) {
        x.draft(from, length, duration);
        return x.book(owner, wish, flex, urgency);
    }

    /**
     * Makes a booking that stands at another time than its WISH: all better times are taken by a
     * booking that is gone then. Answers its number, the last one.
     */
    static int stand(SpanLodge x, int owner, int from, int length, int duration,
            int wish, int urgency, int begin) {
        int flex = Math.abs(wish - begin);
        if (flex > 0) {
            int first = Math.max(0, Math.min(begin - 1, 2 * wish - begin + duration - 1));
            int last = Math.max(begin + duration + 1, 2 * wish - begin);
            int taken = begin < wish ? begin + duration : first;
            int until = begin < wish ? last : begin;
            put(x, owner, from, length, until - taken, taken, 0, 1);
        }
        int made = put(x, owner, from, length, duration, wish, flex, urgency);
        if (flex > 0) {
            x.cancel(made - 1);
            x.clean();
        }
        int last = x.count(6) - 1;
        due(place(x, last), "1 " + begin + " " + (begin + duration));
        return last;
    }

    /** Lets time pass up to a time. */
    static SpanLodge at(SpanLodge x, int time) {
        for (int now = x.count(7); now < time; now = x.count(7)) {
            x.pass(Math.min(200, time - now));
        }
        return x;
    }

    /** The state, BEGIN and END of a booking. */
    static String place(SpanLodge x, int booking) {
        return x.booking(booking, 7) + " " + x.booking(booking, 8) + " " + x.booking(booking, 9);
    }
}
