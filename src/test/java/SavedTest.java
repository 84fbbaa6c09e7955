/** Promises 37 and 38: saved states. */
public final class SavedTest {
    private static final Checks C = new Checks("SavedTest");

    public static void main(String[] args) {
        refusals();
        saves();
        savesBoth();
        replaces();
        whatIsNotSaved();
        C.end();
    }

    private static Object saved(SpanLodge x, int slot) {
        x.save(slot);
        return 0;
    }

    private static Object restored(SpanLodge x, int slot) {
        x.restore(slot);
        return 0;
    }

    private static void refusals() {
        SpanLodge x = Checks.withOwners(1);
        for (int slot : new int[] {-1, 2, Integer.MAX_VALUE, Integer.MIN_VALUE}) {
            C.noArgument("37: save(" + slot + ")", () -> saved(x, slot));
            C.noArgument("38: restore(" + slot + ")", () -> restored(x, slot));
        }
        C.noState("38: restore(0)", () -> restored(x, 0));
        x.draft(3, 4, 5);
        C.noState("38: restore(1)", () -> restored(x, 1));
        x.save(0);
        C.noState("38: restore(1)", () -> restored(x, 1));
        x.book(0, 0, 0, 1);
        C.due("38: the draft stays", x.booking(0, 2), 4);
    }

    private static SpanLodge busy() {
        SpanLodge x = Checks.withOwners(3);
        x.set(0, 7);
        x.set(2, 9);
        x.draft(0, 4, 10);
        x.book(0, 0, 0, 1);
        x.book(1, 5, 0, 1);
        x.book(1, 8, 9, 4);
        x.arrive(0);
        x.book(2, 10, 0, 5);
        x.bargain();
        x.pass(2);
        x.draft(0, 1, 1);
        return x;
    }

    private static void saves() {
        SpanLodge x = busy();
        String first = Checks.stateOf(x);
        x.save(0);
        C.due("37: nothing changes", Checks.stateOf(x), first);
        C.due("37: a buyout was made", x.count(12), 1);
        Checks.load(x, "size 1;");
        x.restore(0);
        C.due("38: everything comes back", Checks.stateOf(x), first);
        C.due("38: buyouts", x.count(12), 1);
        x.leave(0);
        x.restore(0);
        C.due("38: it stays saved", Checks.stateOf(x), first);
    }

    /** Another state than that of busy(). */
    private static void goOn(SpanLodge x) {
        x.pass(30);
        x.addOwner(5);
        x.set(3, 1);
        x.clean();
    }

    private static void savesBoth() {
        SpanLodge x = busy();
        String first = Checks.stateOf(x);
        x.save(0);
        goOn(x);
        String second = Checks.stateOf(x);
        x.save(1);
        x.restore(0);
        C.due("38: the first state", Checks.stateOf(x), first);
        x.leave(0);
        x.restore(1);
        C.due("38: the second state", Checks.stateOf(x), second);
        x.save(0);
        x.pass(1);
        x.restore(0);
        C.due("37: replaced", Checks.stateOf(x), second);
    }

    private static void replaces() {
        SpanLodge x = busy();
        goOn(x);
        String second = Checks.stateOf(x);
        x.save(0);
        Checks.load(x, "size 64;owner 1;set 0 1;book 0 60 4 4 4;");
        x.save(1);
        String loaded = Checks.stateOf(x);
        x.restore(0);
        C.due("38: SIZE too", x.count(4), 32);
        C.due("38: behind a load", Checks.stateOf(x), second);
        x.restore(1);
        C.due("38: what was loaded", Checks.stateOf(x), loaded);
    }

    private static void whatIsNotSaved() {
        SpanLodge x = Checks.withOwners(1);
        x.draft(30, 2, 9);
        x.save(0);
        Checks.load(x, "size 9;!");
        x.appendText('s' << 24 | 'i' << 16 | 'z' << 8 | 'e');
        x.appendText('7' << 24 | ';' << 16 | ' ' << 8 | ' ');
        x.restore(0);
        C.due("37: the latest error stays", x.errorPosition(), 7);
        C.due("37: the latest error stays", x.errorCode(), 1);
        x.book(0, 4, 0, 1);
        C.due("38: the draft is as at first", Checks.rowOf(x, 0), "0 0 1 1 4 0 1 1 4 5 20 -1");
        C.due("37: the text stays", x.load(), 0);
        C.due("37: the text stays", x.count(4), 7);
    }
}
