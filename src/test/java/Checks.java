/** Compares answers with those that are due and counts the wrong ones. */
final class Checks {
    /** A call that may throw. */
    interface Call {
        Object make();
    }

    private final String name;
    private int made = 0;
    private int wrong = 0;

    Checks(String name) {
        this.name = name;
    }

    void due(String call, Object got, Object want) {
        made++;
        if (!got.equals(want)) {
            wrong++;
            System.out.println(name + ": " + call + " answered " + got + ", due is " + want);
        }
    }

    /** The call has to throw exactly this exception; that nothing changes is looked at by Edge. */
    void refused(String call, Class<? extends Exception> want, Call refusedCall) {
        Object got;
        try {
            got = refusedCall.make();
        } catch (RuntimeException e) {
            got = e.getClass();
        }
        due(call, got, want);
    }

    void noIndex(String call, Call refusedCall) {
        refused(call, IndexOutOfBoundsException.class, refusedCall);
    }

    void noArgument(String call, Call refusedCall) {
        refused(call, IllegalArgumentException.class, refusedCall);
    }

    void noState(String call, Call refusedCall) {
        refused(call, IllegalStateException.class, refusedCall);
    }

    void end() {
        System.out.println(name + ": " + made + " answers, " + wrong + " of them wrong");
        System.exit(wrong == 0 ? 0 : 1);
    }

    /** What acts change most; Edge looks at the whole state, each time with a new object. */
    static String stateOf(SpanLodge x) {
        StringBuilder s = new StringBuilder();
        for (int what = 0; what <= 13; what++) {
            s.append(x.count(what)).append(' ');
        }
        for (int owner = 0; owner < x.count(5); owner++) {
            for (int what = 0; what <= 7; what++) {
                s.append(x.owner(owner, what)).append(' ');
            }
        }
        for (int booking = 0; booking < x.count(6); booking++) {
            s.append(placeOf(x, booking)).append(' ');
        }
        return s.toString();
    }

    static String rowOf(SpanLodge x, int booking) {
        StringBuilder s = new StringBuilder();
        for (int what = 0; what <= 11; what++) {
            s.append(what == 0 ? "" : " ").append(x.booking(booking, what));
        }
        return s.toString();
    }

    /** The state, BEGIN and END of a booking. */
    static String placeOf(SpanLodge x, int booking) {
        return x.booking(booking, 7) + " " + x.booking(booking, 8) + " " + x.booking(booking, 9);
    }

    static int load(SpanLodge x, String text) {
        append(x, text);
        return x.load();
    }

    /** Appends a text of any length: a last piece is filled up with points, which are cut off. */
    static int append(SpanLodge x, String text) {
        int length = x.truncateText(0);
        for (int i = 0; i < text.length(); i += 4) {
            int four = 0;
            for (int k = 0; k < 4; k++) {
                four = four << 8 | (i + k < text.length() ? text.charAt(i + k) & 255 : '.');
            }
            length = x.appendText(four);
        }
        return text.isEmpty() ? length : x.truncateText(text.length());
    }

    static String shownLine(SpanLodge x) {
        StringBuilder s = new StringBuilder();
        for (int index = 0; x.shown(index) != SpanLodge.NONE; index++) {
            s.append((char) x.shown(index));
        }
        return s.toString();
    }

    /** A file of 32 bytes with some owners that all have 100 as CREDIT. */
    static SpanLodge withOwners(int owners) {
        SpanLodge x = new SpanLodge();
        for (int i = 0; i < owners; i++) {
            x.addOwner(100);
        }
        return x;
    }
}
