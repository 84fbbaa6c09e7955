/** Setup texts: the terms and the promises 2 to 6. */
public final class SetupEdges {
    /** A setup with each part of the grammar; each number of it has one digit. */
    private static final String WHOLE = "size 8;owner 5;book 0 0 1 1 1 flex 2 urgency 3;set 0 7;";

    private SetupEdges() {
    }

    public static void main(String[] args) {
        Edge.run(SetupEdges.class);
    }

    private static void error(String text, int code, int position) {
        SpanLodge x = new SpanLodge();
        Edge.due(text + " -> " + Checks.load(x, text), text + " -> -1");
        Edge.due(text + " -> " + x.errorCode(), text + " -> " + code);
        Edge.due(text + " at " + x.errorPosition(), text + " at " + position);
    }

    private static SpanLodge good(String text, int bookings) {
        SpanLodge x = new SpanLodge();
        Edge.due(text + " -> " + Checks.load(x, text), text + " -> " + bookings);
        Edge.due(x.errorCode(), 0);
        Edge.due(x.errorPosition(), -1);
        return x;
    }

    /** A wrong text behind one that has an owner: its error is behind "size 8;owner 5;". */
    private static void behindOwner(String statement, int code, int position) {
        error("size 8;owner 5;" + statement, code, 15 + position);
    }

    private static int fourBytes(String text) {
        int four = 0;
        for (int i = 0; i < 4; i++) {
            four = four << 8 | text.charAt(i);
        }
        return four;
    }

    /** An object with a text of some spaces. */
    private static SpanLodge withSpaces(int length) {
        SpanLodge x = new SpanLodge();
        for (int i = 0; i < length; i += 4) {
            x.appendText(0x20202020);
        }
        x.truncateText(length);
        return x;
    }

    // ---- 2: appendText

    @Says(promise = 2, value = "Appends four bytes to the text buffer, the highest byte of the parameter first.")
    static void theHighestByteComesFirst() {
        SpanLodge x = new SpanLodge();
        x.appendText(fourBytes("size"));
        x.appendText(fourBytes("12; "));
        Edge.due(x.load(), 0);
        Edge.due(x.count(4), 12);
    }

    @Says(promise = 2, value = "Appends four bytes to the text buffer, the highest byte of the parameter first.")
    static void bytesAbove127AreBytesOfNoToken() {
        for (int place = 0; place < 4; place++) {
            SpanLodge x = new SpanLodge();
            x.appendText(fourBytes("size"));
            x.appendText(fourBytes("12; "));
            x.appendText(0x20202020 | 128 << (24 - 8 * place));
            Edge.due(x.load(), -1);
            Edge.due(x.errorPosition(), 8 + place);
        }
        SpanLodge all = new SpanLodge();
        Edge.due(all.appendText(-1), 4);
        Edge.due(all.appendText(Edge.MIN), 8);
        all.load();
        Edge.due(all.errorPosition(), 0);
    }

    @Says(promise = 2, value = "Returns the length of the text in bytes.")
    static void appendTellsTheLength() {
        SpanLodge x = new SpanLodge();
        for (int i = 1; i <= 200; i++) {
            Edge.due(x.appendText(0x20202020), 4 * i);
        }
        Edge.due(withSpaces(5).appendText(0), 9);
    }

    @Says(promise = 2, value = "if the text would be longer than 800 bytes")
    static void aTextOf796BytesTakesFourMore() {
        SpanLodge x = withSpaces(796);
        Edge.due(x.appendText(fourBytes("   ;")), 800);
        x.load();
        Edge.due(x.errorPosition(), 799);
    }

    @Says(promise = 2, value = "if the text would be longer than 800 bytes")
    static void aTextOfMoreThan796BytesTakesNoMore() {
        for (int length = 797; length <= 800; length++) {
            int full = length;
            Edge.still(() -> withSpaces(full), x -> x.appendText(fourBytes("size")), Edge.NO_STATE);
        }
    }

    // ---- 3: truncateText

    @Says(promise = 3, value = "Cuts the text to its first bytes.")
    static void theFirstBytesStay() {
        SpanLodge x = new SpanLodge();
        Checks.append(x, "size 8;owner 5;owner 6;");
        Edge.due(x.truncateText(15), 15);
        Edge.due(x.load(), 0);
        Edge.due(x.count(4), 8);
        Edge.due(x.count(5), 1);
    }

    @Says(promise = 3, value = "Cuts the text to its first bytes.")
    static void whatIsAppendedThenStandsBehindTheCut() {
        SpanLodge x = new SpanLodge();
        Checks.append(x, "size 64;");
        x.truncateText(6);
        Edge.due(x.appendText(fourBytes(";\n\n\n")), 10);
        Edge.due(x.load(), 0);
        Edge.due(x.count(4), 6);
    }

    @Says(promise = 3, value = "the new length, 0 to the present length")
    static void aTextIsCutToNothing() {
        Edge.due(withSpaces(8).truncateText(0), 0);
        Edge.due(new SpanLodge().truncateText(0), 0);
        Edge.still(() -> withSpaces(8), x -> x.truncateText(-1), Edge.NO_ARGUMENT);
        Edge.still(SpanLodge::new, x -> x.truncateText(-1), Edge.NO_ARGUMENT);
        Edge.still(() -> withSpaces(8), x -> x.truncateText(Edge.MIN), Edge.NO_ARGUMENT);
    }

    @Says(promise = 3, value = "the new length, 0 to the present length")
    static void aTextIsCutToItsPresentLength() {
        for (int length : new int[] {0, 1, 7, 8, 800}) {
            Edge.Recipe text = () -> withSpaces(length);
            Edge.still(text, x -> x.truncateText(length), length);
            Edge.still(text, x -> x.truncateText(length + 1), Edge.NO_ARGUMENT);
            Edge.still(text, x -> x.truncateText(Edge.MAX), Edge.NO_ARGUMENT);
        }
    }

    @Says(promise = 3, value = "Returns the new length.")
    static void truncateTellsTheNewLength() {
        SpanLodge x = withSpaces(12);
        for (int length = 11; length >= 0; length--) {
            Edge.due(x.truncateText(length), length);
        }
    }

    // ---- 4: load

    @Says(promise = 4, value = "Returns the number of bookings; NONE if the text has an error")
    static void loadTellsTheNumberOfBookings() {
        good("size 8;", 0);
        good(WHOLE, 1);
        good(fullText(), 40);
        Edge.due(new SpanLodge().load(), -1);
    }

    @Says(promise = 4, value = "Reads the text as a setup, which replaces everything except saved states")
    static void loadReplacesEverything() {
        for (String text : new String[] {"size 8;", WHOLE}) {
            for (Edge.Recipe recipe : new Edge.Recipe[] {Edge::busy, Edge::rich, Edge::full}) {
                SpanLodge x = recipe.make();
                SpanLodge y = new SpanLodge();
                Checks.load(x, text);
                Checks.load(y, text);
                Edge.due(Edge.numbersOf(x), Edge.numbersOf(y));
                Edge.due(Edge.rowsOf(x, 0, 40), Edge.rowsOf(y, 0, 40));
            }
        }
    }

    @Says(promise = 4, value = "Reads the text as a setup, which replaces everything except saved states")
    static void whatWasPredictedOrReadInVainIsForgotten() {
        SpanLodge x = Edge.rich();
        x.ahead(200, 0);
        Checks.load(x, "size 9;owner 9;owner 9;set 0 1;set 1 1;set 2 1;set 3 1;book 0 0 1 1 1;?");
        x.ahead(200, 0);
        Checks.load(x, WHOLE);
        SpanLodge y = new SpanLodge();
        Checks.load(y, WHOLE);
        Edge.due(Edge.numbersOf(x), Edge.numbersOf(y));
        Edge.due(Edge.rowsOf(x, 0, 40), Edge.rowsOf(y, 0, 40));
        SpanLodge z = Edge.rich();
        Checks.load(z, "size 9;owner 9;book 0 0 1 1 1;book 0 0 1 1 1;?");
        Checks.load(z, WHOLE);
        Edge.due(Edge.numbersOf(z), Edge.numbersOf(y));
    }

    @Says(promise = 4, value = "Reads the text as a setup, which replaces everything except saved states")
    static void anOwnerThatIsAddedBehindALoadIsNew() {
        SpanLodge x = Edge.rich();
        Checks.load(x, "size 8;");
        for (int owner = 0; owner < 8; owner++) {
            Edge.due(x.addOwner(owner), owner);
            Edge.due(x.owner(owner, 0), owner);
            for (int what = 1; what <= 10; what++) {
                Edge.due(x.owner(owner, what), 0);
            }
        }
    }

    @Says(promise = 4, value = "Reads the text as a setup, which replaces everything except saved states")
    static void savedStatesStayForALoad() {
        SpanLodge x = Edge.busy();
        Checks.load(x, WHOLE);
        x.restore(1);
        SpanLodge y = Edge.busy();
        Checks.load(y, "size 1;");
        y.restore(1);
        Edge.due(x.count(12), 1);
        Edge.due(x.count(7), 0);
        Edge.due(Edge.numbersOf(x), Edge.numbersOf(y));
        Edge.due(Edge.answerOf(x, Edge.restore(0)), Edge.NO_STATE);
    }

    @Says(promise = 4, value = "the draft is as at first then.")
    static void theDraftIsAsAtFirstBehindALoad() {
        SpanLodge x = Edge.busy();
        Checks.load(x, "size 8;owner 5;book 0 2 3 4 5;");
        Edge.due(Edge.draftOf(x), "0 1 1");
    }

    @Says(promise = 4, value = "The text buffer is empty afterwards, also if there is an error.")
    static void theTextIsEmptyBehindALoad() {
        SpanLodge x = new SpanLodge();
        Checks.load(x, WHOLE);
        Edge.due(Edge.answerOf(x, y -> y.truncateText(1)), Edge.NO_ARGUMENT);
        Edge.due(x.truncateText(0), 0);
        Edge.due(x.appendText(fourBytes("size")), 4);
    }

    @Says(promise = 4, value = "The text buffer is empty afterwards, also if there is an error.")
    static void theTextIsEmptyBehindAnError() {
        SpanLodge x = new SpanLodge();
        Checks.load(x, "size 8;owner");
        Edge.due(Edge.answerOf(x, y -> y.truncateText(1)), Edge.NO_ARGUMENT);
        Edge.due(x.load(), -1);
        Edge.due(x.errorPosition(), 0);
        Checks.append(x, "size 9;");
        Edge.due(x.load(), 0);
    }

    @Says(promise = 4, value = "NONE if the text has an error (then everything else stays).")
    static void everythingStaysForAnError() {
        String wrong = "size 9;owner 3;owner 4;set 0 1;set 2 1;book 1 0 1 1 1;";
        // The latest error is the same already, so that nothing at all is different afterwards.
        Edge.Recipe recipe = () -> {
            SpanLodge x = Edge.busy();
            Checks.load(x, " ".repeat(wrong.length()) + "!");
            x.draft(20, 5, 6);
            return x;
        };
        Edge.still(recipe, x -> Checks.load(x, wrong + "?"), -1);
        Edge.still(recipe, x -> Checks.load(x, wrong + "size 3;"), -1);
    }

    // ---- 5 and 6: errorCode and errorPosition

    @Says(promise = 5, value = "Returns the error code of the latest load(); 0 if its text had no error, or if "
            + "there was no such call.")
    static void thereIsNoErrorCodeWithoutALoad() {
        Edge.still(SpanLodge::new, SpanLodge::errorCode, 0);
    }

    @Says(promise = 5, value = "Returns the error code of the latest load();")
    static void theErrorCodeIsThatOfTheLatestLoad() {
        SpanLodge x = new SpanLodge();
        Checks.load(x, "size 65;");
        Edge.due(x.errorCode(), 2);
        Checks.load(x, "size;");
        Edge.due(x.errorCode(), 1);
        Checks.load(x, "size 8;");
        Edge.due(x.errorCode(), 0);
        Checks.append(x, "size 65;");
        Edge.due(x.errorCode(), 0);
        x.load();
        Edge.due(x.errorCode(), 2);
    }

    @Says(promise = 6, value = "Returns the error position of the latest load(); NONE if its text had no error, "
            + "or if there was no such call.")
    static void thereIsNoErrorPositionWithoutALoad() {
        Edge.still(SpanLodge::new, SpanLodge::errorPosition, -1);
    }

    @Says(promise = 6, value = "Returns the error position of the latest load();")
    static void theErrorPositionIsThatOfTheLatestLoad() {
        SpanLodge x = new SpanLodge();
        Checks.load(x, "size 65;");
        Edge.due(x.errorPosition(), 5);
        Checks.load(x, "");
        Edge.due(x.errorPosition(), 0);
        Checks.load(x, "size 8;");
        Edge.due(x.errorPosition(), -1);
        Checks.append(x, "size 65;");
        Edge.due(x.errorPosition(), -1);
        x.load();
        Edge.due(x.errorPosition(), 5);
    }

    // ---- tokens

    @Says(promise = 0, value = "words (maximal runs of the letters a to z)")
    static void wordsHaveTheLettersAToZ() {
        for (char letter : new char[] {'a', 'z', 'm'}) {
            error("size 8;owner" + letter + " 5;", 1, 7);
            error("size 8;" + letter + "owner 5;", 1, 7);
        }
    }

    @Says(promise = 0, value = "is 1 if the token is not allowed there")
    static void aWordWithAnotherLetterIsAnotherWord() {
        for (String word : new String[] {"size", "owner", "book", "flex", "urgency", "set"}) {
            int start = WHOLE.indexOf(word);
            for (int i = 0; i < word.length(); i++) {
                StringBuilder text = new StringBuilder(WHOLE);
                text.setCharAt(start + i, word.charAt(i) == 'z' ? 'y' : 'z');
                error(text.toString(), 1, start);
                text.setCharAt(start + i, Character.toUpperCase(word.charAt(i)));
                error(text.toString(), 1, start);
                error(WHOLE.substring(0, start + i) + WHOLE.substring(start + i + 1), 1, start);
            }
        }
    }

    @Says(promise = 0, value = "words (maximal runs of the letters a to z)")
    static void otherSignsEndAWord() {
        for (char sign : new char[] {'`', '{', 'A', 'Z', '@', '[', '_', (char) 225, (char) 250}) {
            error("size 8;owner" + sign + " 5;", 1, 12);
        }
        good("size 8;owner5;", 0);
    }

    @Says(promise = 0, value = "numbers (maximal runs of the digits 0 to 9)")
    static void numbersHaveTheDigits0To9() {
        Edge.due(good("size 10;", 0).count(4), 10);
        Edge.due(good("size 9;", 0).count(4), 9);
        Edge.due(good("size 8;owner 909;", 0).owner(0, 0), 909);
        error("size 8;owner 5 0;", 1, 15);
    }

    @Says(promise = 0, value = "numbers (maximal runs of the digits 0 to 9)")
    static void otherSignsEndANumber() {
        for (char sign : new char[] {'/', ':', '.', '-', 'a', (char) 176, (char) 185}) {
            error("size 8" + sign + ";", 1, 6);
        }
        error("size -8;", 1, 5);
        error("size +8;", 1, 5);
    }

    @Says(promise = 0, value = "and the symbol ;.")
    static void theSymbolIsTheSemicolonAlone() {
        for (char sign : new char[] {':', '<', ',', '.', (char) 187}) {
            error("size 8" + sign, 1, 6);
        }
    }

    @Says(promise = 0, value = "Spaces (byte 32) and line feeds (byte 10) may stand before, between and behind tokens.")
    static void spacesAndLineFeedsMayStandAnywhere() {
        for (String gap : new String[] {" ", "\n", "  ", " \n \n"}) {
            String spread = WHOLE.replace(";", " ; ").replace(" ", gap);
            Edge.due(good(gap + spread + gap, 1).booking(0, 6), 3);
        }
    }

    @Says(promise = 0, value = "Spaces (byte 32) and line feeds (byte 10) may stand before, between and behind tokens.")
    static void noSpaceIsNeededBetweenOtherTokens() {
        SpanLodge x = good("size8;owner5;owner6;set2 9;book1 2 3 4 5flex6urgency7;", 1);
        Edge.due(Edge.rowOf(x, 0), "1 2 3 4 5 6 7 1 5 9 140 -1");
        error("sizeowner8;", 1, 0);
    }

    @Says(promise = 0, value = "Spaces (byte 32) and line feeds (byte 10) may stand before, between and behind tokens.")
    static void noOtherByteIsASpace() {
        for (int sign : new int[] {0, 9, 11, 12, 13, 31, 33, 127, 128, 138, 160, 255}) {
            error((char) sign + "size 8;", 1, 0);
            error("size" + (char) sign + "8;", 1, 4);
            error("size 8;" + (char) sign, 1, 7);
        }
    }

    @Says(promise = 0, value = "Numbers may have any number of digits.")
    static void numbersMayBeginWithZeros() {
        String zeros = "0".repeat(792);
        Edge.due(good("size " + zeros + "64;", 0).count(4), 64);
        error("size " + zeros + "65;", 2, 5);
        error("size " + zeros + "00;", 2, 5);
        good("size 08;owner 00000000005;book 00 07 0000000000001 01 00000000000;", 1);
    }

    @Says(promise = 0, value = "Numbers may have any number of digits.")
    static void longNumbersAreNotCut() {
        String[] wrapped = {"256", "65544", "4294967297", "4294967304", "2147483647", "2147483648",
            "18446744073709551624", "8" + "0".repeat(700), "9".repeat(700)};
        for (String number : wrapped) {
            error("size " + number + ";", 2, 5);
            error("size 8;owner " + number + "000;", 2, 13);
            behindOwner("book 0 " + number + " 1 1 1;", 2, 7);
            behindOwner("book 0 0 " + number + " 1 1;", 4, 9);
            behindOwner("book 0 0 1 " + number + " 1;", 2, 11);
            behindOwner("book 0 0 1 1 " + number + "00;", 2, 13);
            behindOwner("book 0 0 1 1 1 flex " + number + ";", 2, 20);
            behindOwner("book 0 0 1 1 1 urgency " + number + ";", 2, 23);
            behindOwner("book " + number + " 0 1 1 1;", 2, 5);
            behindOwner("set " + number + " 1;", 2, 4);
            behindOwner("set 0 " + number + ";", 2, 6);
        }
    }

    @Says(promise = 0, value = "A setup is an ASCII text that is collected in a text buffer of at most 800 bytes.")
    static void aTextOf800BytesIsReadToItsEnd() {
        Edge.due(good("size 8;" + " ".repeat(784) + "owner 77;", 0).owner(0, 0), 77);
        error("size 8;" + " ".repeat(784) + "owner 777", 1, 800);
        error("size 8;" + " ".repeat(784) + "owner 7;x", 1, 799);
        error("size 8;" + " ".repeat(785) + "own 1000", 1, 792);
    }

    // ---- the grammar

    @Says(promise = 0, value = "setup     = \"size\" SIZE \";\" { statement \";\" }")
    static void aSetupMayHaveNoStatement() {
        SpanLodge x = good("size 8;", 0);
        Edge.due(x.count(4), 8);
        Edge.due(x.count(5), 0);
    }

    @Says(promise = 0, value = "setup     = \"size\" SIZE \";\" { statement \";\" }")
    static void theSizeComesFirstAndOnce() {
        error("owner 5;size 8;", 1, 0);
        error(";size 8;", 1, 0);
        error("8;", 1, 0);
        error("size 8;size 8;", 1, 7);
        error("size 8;;", 1, 7);
        error("size 8 8;", 1, 7);
        error("size 8 owner 5;", 1, 7);
        error("size 8;owner 5 set 0 1;", 1, 15);
    }

    @Says(promise = 0, value = "statement = \"owner\" CREDIT | \"book\" OWNER FROM LENGTH DURATION WISH [ \"flex\" FLEX ] "
            + "[ \"urgency\" URGENCY ] | \"set\" WHAT VALUE")
    static void flexAndUrgencyMayBeToldOrNot() {
        String book = "size 9;owner 5;book 0 1 2 3 4";
        Edge.due(Edge.rowOf(good(book + ";", 1), 0), "0 1 2 3 4 0 1 1 4 7 20 -1");
        Edge.due(Edge.rowOf(good(book + " flex 5;", 1), 0), "0 1 2 3 4 5 1 1 4 7 20 -1");
        Edge.due(Edge.rowOf(good(book + " urgency 6;", 1), 0), "0 1 2 3 4 0 6 1 4 7 120 -1");
        Edge.due(Edge.rowOf(good(book + " flex 5 urgency 6;", 1), 0), "0 1 2 3 4 5 6 1 4 7 120 -1");
    }

    @Says(promise = 0, value = "[ \"flex\" FLEX ] [ \"urgency\" URGENCY ]")
    static void flexComesAheadOfUrgencyAndEachOnce() {
        behindOwner("book 0 1 2 3 4 urgency 6 flex 5;", 1, 25);
        behindOwner("book 0 1 2 3 4 flex 5 flex 5;", 1, 22);
        behindOwner("book 0 1 2 3 4 urgency 6 urgency 6;", 1, 25);
        behindOwner("book 0 1 2 3 4 5;", 1, 15);
        behindOwner("book 0 1 2 3 4 flex;", 1, 19);
        behindOwner("book 0 1 2 3 4 urgency;", 1, 22);
        behindOwner("book 0 1 2 3 4 flex urgency 5;", 1, 20);
        behindOwner("book 0 1 2 3 flex 4;", 1, 13);
    }

    @Says(promise = 0, value = "\"set\" WHAT VALUE")
    static void aSettingHasTwoNumbers() {
        Edge.due(good("size 8;set 0 7;", 0).count(0), 7);
        error("size 8;set 0;", 1, 12);
        error("size 8;set;", 1, 10);
        error("size 8;set 0 7 7;", 1, 15);
    }

    @Says(promise = 0, value = "OWNER is the number of an owner that is there already")
    static void theOwnerHasToBeThereAlready() {
        error("size 8;book 0 0 1 1 1;owner 5;", 2, 12);
        behindOwner("book 1 0 1 1 1;owner 5;", 2, 5);
        good("size 8;owner 5;owner 5;book 1 0 1 1 1;", 1);
        good("size 8;owner 5;book 0 0 1 1 1;owner 5;book 1 0 1 1 1;", 2);
    }

    @Says(promise = 0, value = "FLEX is 0 and URGENCY is 1 if they are not told.")
    static void withoutFlexItWaitsAndWithoutUrgencyItGainsLittle() {
        SpanLodge x = good("size 8;owner 5;book 0 0 1 1 1 flex 9 urgency 9;book 0 0 1 1 1;", 2);
        Edge.due(Edge.rowOf(x, 1), "0 0 1 1 1 0 1 0 -1 -1 0 -1");
    }

    @Says(promise = 0, value = "Each \"book\" is done as by book() (waiting bookings are not placed behind it, "
            + "except for itself); the time is 0.")
    static void aBookingOfATextIsPlacedAtItsBestTime() {
        SpanLodge x = good("size 8;owner 5;book 0 0 4 5 10;book 0 2 4 5 12 flex 7;book 0 3 1 5 12 flex 2;"
                + "book 0 0 1 5 2 flex 99;", 4);
        Edge.due(Edge.place(x, 0), "1 10 15");
        Edge.due(Edge.place(x, 1), "1 15 20");
        Edge.due(Edge.place(x, 2), "0 -1 -1");
        Edge.due(Edge.place(x, 3), "1 2 7");
        Edge.due(x.count(7), 0);
    }

    // ---- errors

    @Says(promise = 0, value = "the parser reads the tokens from the first one on and stops at the first token "
            + "that is wrong.")
    static void theFirstWrongTokenTells() {
        error("size 0 owner ? book", 2, 5);
        error("size 8;owner 1000;owner;", 2, 13);
        error("size 8;owner ? 1000;", 1, 13);
        behindOwner("book 0 8 0 0 10000;", 2, 7);
        behindOwner("book 0 7 2 0 10000;", 4, 9);
        behindOwner("book 1 8 2 0 10000;", 2, 5);
    }

    @Says(promise = 0, value = "The error position is the index of its first byte, or the length of the text if the "
            + "text ends too early.")
    static void eachTextThatEndsTooEarlyIsWrongAtItsEnd() {
        for (int length = 0; length < WHOLE.length(); length++) {
            String text = WHOLE.substring(0, length);
            int wordStart = length;
            while (wordStart > 0 && Character.isLetter(text.charAt(wordStart - 1))) {
                wordStart--;
            }
            boolean isWordCut = wordStart < length && Character.isLetter(WHOLE.charAt(length));
            if (length > 0 && text.endsWith(";")) {
                good(text, length > 40 ? 1 : 0);
            } else {
                error(text, 1, isWordCut ? wordStart : length);
                // Spaces belong to the text, but not to a word that is cut.
                error(text + " \n ", 1, isWordCut ? wordStart : length + 3);
            }
        }
    }

    @Says(promise = 0, value = "is 1 if the token is not allowed there, if a byte belongs to no token, or if the text "
            + "ends too early")
    static void eachTokenThatIsNotAllowedIsError1() {
        int start = 0;
        for (String token : WHOLE.replace(";", " ; ").trim().split(" +")) {
            start = WHOLE.indexOf(token, start);
            String behind = WHOLE.substring(start + token.length());
            for (String other : new String[] {"x", "?", "sizes", "A"}) {
                error(WHOLE.substring(0, start) + " " + other + " " + behind, 1, start + 1);
            }
            start += token.length();
        }
    }

    @Says(promise = 0, value = "is 1 if the token is not allowed there, if a byte belongs to no token, or if the text "
            + "ends too early")
    static void anEmptyTextEndsTooEarly() {
        error("", 1, 0);
        error(" ", 1, 1);
        error(" ".repeat(800), 1, 800);
    }

    private static void range(String before, int least, int most, String behind) {
        int bookings = before.contains("book") ? 1 : 0;
        good(before + least + behind, bookings);
        good(before + most + behind, bookings);
        error(before + (most + 1) + behind, 2, before.length());
        if (least > 0) {
            error(before + (least - 1) + behind, 2, before.length());
        }
    }

    @Says(promise = 0, value = "2 if a number is out of its range")
    static void sizeAndCreditHaveRanges() {
        range("size ", 1, 64, ";");
        range("size 8;owner ", 0, 999, ";");
    }

    @Says(promise = 0, value = "2 if a number is out of its range")
    static void whatAndValuesHaveRanges() {
        int[] least = {0, 0, 1, 1};
        int[] most = {50, 99, 9, 9};
        for (int what = 0; what < 4; what++) {
            range("size 8;set " + what + " ", least[what], most[what], ";");
            SpanLodge x = good("size 8;set " + what + " " + most[what] + ";", 0);
            Edge.due(x.count(what), most[what]);
        }
        error("size 8;set 4 1;", 2, 11);
    }

    @Says(promise = 0, value = "2 if a number is out of its range")
    static void theNumbersOfABookingHaveRanges() {
        String book = "size 8;owner 5;owner 5;book ";
        range(book, 0, 1, " 0 1 1 1;");
        range(book + "0 ", 0, 7, " 1 1 1;");
        range(book + "0 0 1 ", 1, 99, " 1;");
        range(book + "0 0 1 1 ", 0, 9999, ";");
        range(book + "0 0 1 1 1 flex ", 0, 99, ";");
        range(book + "0 0 1 1 1 urgency ", 1, 9, ";");
        range(book + "0 0 1 1 1 flex 0 urgency ", 1, 9, ";");
    }

    @Says(promise = 0, value = "2 if a number is out of its range")
    static void aLengthOf0IsOutOfItsRange() {
        behindOwner("book 0 0 0 1 1;", 2, 9);
        behindOwner("book 0 7 0 1 1;", 2, 9);
        behindOwner("book 0 7 1 1 1", 1, 14);
    }

    private static String ownersText(int owners) {
        return "size 64;" + "owner 1;".repeat(owners);
    }

    private static String fullText() {
        StringBuilder s = new StringBuilder(ownersText(8)).append("set 2 5;");
        for (int i = 0; i < 40; i++) {
            s.append("book ").append(i / 5).append(" 0 1 1 ").append(i).append(';');
        }
        return s.toString();
    }

    @Says(promise = 0, value = "3 for the word \"owner\" of a 9th owner")
    static void a9thOwnerIsError3() {
        String eight = ownersText(8);
        Edge.due(good(eight, 0).count(5), 8);
        error(eight + "owner 1;", 3, eight.length());
        error(eight + "owner", 3, eight.length());
        error(eight + "\n owner x", 3, eight.length() + 2);
    }

    @Says(promise = 0, value = "The error code, of several at one token the least")
    static void a9thOwnerWhereNoneIsAllowedIsError1() {
        String eight = ownersText(8);
        error(eight + "set owner 1;", 1, eight.length() + 4);
        error(eight.substring(0, eight.length() - 1) + " owner 1;", 1, eight.length());
        error(eight + "owners 1;", 1, eight.length());
    }

    @Says(promise = 0, value = "the word \"book\" of a 41st booking")
    static void a41stBookingIsError3() {
        String full = fullText();
        Edge.due(good(full, 40).count(6), 40);
        error(full + "book 0 0 1 1 1;", 3, full.length());
        error(full + "book", 3, full.length());
        error(full + " book x", 3, full.length() + 1);
        good(full + "set 0 1;", 40);
    }

    @Says(promise = 0, value = "The error code, of several at one token the least")
    static void a41stBookingWhereNoneIsAllowedIsError1() {
        String full = fullText();
        error(full.substring(0, full.length() - 1) + " book 0;", 1, full.length());
        error(full + "books 0;", 1, full.length());
    }

    @Says(promise = 0, value = "or for OWNER if the owner has LIMIT bookings that wait or are live already")
    static void anOwnerWithLimitBookingsIsError3() {
        String three = "size 8;owner 1;owner 1;book 0 0 1 1 1;book 0 0 1 1 2;book 0 0 1 1 3;";
        good(three + "book 0 0 1 1 4;", 4);
        String four = three + "book 0 0 1 1 4;";
        error(four + "book 0 0 1 1 5;", 3, four.length() + 5);
        error(four + "book 00 9 0", 3, four.length() + 5);
        good(four + "book 1 0 1 1 5;", 5);
        good(four + "set 2 5;book 0 0 1 1 5;", 5);
    }

    @Says(promise = 0, value = "or for OWNER if the owner has LIMIT bookings that wait or are live already")
    static void bookingsThatWaitCountForTheLimitToo() {
        String one = "size 8;owner 1;set 2 1;book 0 0 1 1 1;";
        error(one + "book 0 0 1 1 5;", 3, one.length() + 5);
        String two = "size 8;owner 1;owner 1;set 2 1;book 0 0 8 9 1;book 1 0 1 1 1;";
        Edge.due(good(two, 2).booking(1, 7), 0);
        error(two + "book 1 0 1 1 5;", 3, two.length() + 5);
    }

    @Says(promise = 0, value = "4 for LENGTH if the span does not end within the file.")
    static void aSpanHasToEndWithinTheFile() {
        good("size 8;owner 1;book 0 0 8 1 1;", 1);
        good("size 8;owner 1;book 0 7 1 1 1;", 1);
        good("size 64;owner 1;book 0 63 1 1 1;", 1);
        good("size 1;owner 1;book 0 0 1 1 1;", 1);
        behindOwner("book 0 0 9 1 1;", 4, 9);
        behindOwner("book 0 7 2 1 1;", 4, 9);
        error("size 64;owner 1;book 0 63 2 1 1;", 4, 26);
        error("size 64;owner 1;book 0 0 65 1 1;", 4, 25);
        error("size 1;owner 1;book 0 0 2 1 1;", 4, 24);
    }

    @Says(promise = 0, value = "The error code, of several at one token the least")
    static void aLengthThatIsNoNumberIsError1() {
        behindOwner("book 0 7 x 1 1;", 1, 9);
        behindOwner("book 0 7;", 1, 8);
        behindOwner("book 0 7 ?9 1 1;", 1, 9);
    }
}
