public final class Example {
    public static void main(String[] args) {
        SpanLodge lodge = new SpanLodge();
        int ann = lodge.addOwner(20);                     // 20 as CREDIT
        int bob = lodge.addOwner(0);

        lodge.draft(0, 4, 10);                            // the bytes 0 to 3, for 10 ticks
        int first = lodge.book(ann, 5, 2, 1);             // WISH 5, FLEX 2, URGENCY 1
        int second = lodge.book(bob, 5, 0, 9);            // finds no time: it waits
        System.out.println("Ann's begins at " + lodge.booking(first, 8));
        System.out.println("Bob's is in the state " + lodge.booking(second, 7));

        System.out.println("to arrive now: reason " + lodge.arrive(first));
        lodge.pass(5);
        System.out.println("to arrive at 5: " + lodge.arrive(first));
        System.out.println("Ann may write: " + lodge.mayWrite(ann, 0, 4));
        lodge.leave(first);
        System.out.println("Bob's begins at " + lodge.booking(second, 8));

        try {
            lodge.draft(30, 4, 10);
        } catch (IndexOutOfBoundsException e) {
            System.out.println("30 to 33 are not all in the file: the draft stays");
        }
        read(lodge, "size 8; owner 5; book 0 0 8 3 7 flex 2;");
        System.out.println("bookings in the text: " + lodge.count(6));
    }

    /** Reads a setup text: four bytes a call, what was filled up is cut again. */
    private static int read(SpanLodge lodge, String setup) {
        for (int i = 0; i < setup.length(); i += 4) {
            int fourBytes = 0;
            for (int k = i; k < i + 4; k++) {
                fourBytes = fourBytes << 8 | (k < setup.length() ? setup.charAt(k) : ' ');
            }
            lodge.appendText(fourBytes);
        }
        lodge.truncateText(setup.length());
        return lodge.load();
    }
}
