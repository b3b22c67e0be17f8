/** The bounds of what is told: 'What it is', section 1 of the document, promises 1 to 7; a test for each sentence. */
final class TextBoundsTest {
    private static final Check CHECK = new Check("TextBoundsTest");
    private static final String NINE = "t1 0;t1 0;t1 0;t1 0;t1 0;t1 0;t1 0;t1 0;t1 0;";
    private static final String FOURTEEN = "w0 1;w0 2;w0 3;w0 4;w0 5;w0 6;w0 7;w0 8;w1 2;w1 3;w1 4;w1 5;w1 6;w1 7;";
    private static final int NONE = FreePlace.NONE;

    private TextBoundsTest() {
    }

    public static void main(String[] args) {
        lastCallAnswered();
        newObjectHasNoRealm();
        lettersFrom0To255();
        text240AtMost();
        text240Read();
        textIsEmptyThen();
        olderTextIsGone();
        fineFrom0To99();
        woodFrom0To99();
        rComesFirst();
        rComesOnce();
        nineTables();
        seatsFrom1To12();
        sitFrom0ToSeats();
        fourteenWays();
        unlikeTables();
        tablesToldAhead();
        noTwoBetweenTheSame();
        numbersOfOneToThreeFigures();
        figuresAre0To9();
        wordIsOneLetter();
        wordsAreNoOtherLetters();
        blanksAnywhere();
        blanksAre32();
        blanksNotWithinNumbers();
        numbersSideBySideNeedOne();
        faultAtTheFirstLetter();
        faultAtTheEnd();
        ofTheseTheLeast();
        numberOutOfBoundsAtItsFirst();
        oneTooManyAtIt();
        wayAtTheB();
        emptyTextHasNoFault();
        realmIsCountedAnew();
        booksImagesUndoneAreGone();
        theSeedStays();
        faultLeavesAllElse();
        faultOfTheLatest();
        toldFrom0To16();
        tableFrom0To3();
        wayFrom0To2();
        tablesOfTheLatestRealm();
        CHECK.close();
    }

    private static void reads(String text, int tables) {
        FreePlace x = Check.fed(text);
        CHECK.due("realm of '" + text + "'", x.realm(), tables);
        CHECK.due("fault of '" + text + "'", x.fault(), NONE);
    }

    private static void told(String text, int what, int due) {
        FreePlace x = Check.fed(text);
        x.realm();
        CHECK.due("told(" + what + ") of '" + text + "'", x.told(what), due);
    }

    private static void fault(String text, int number, int place) {
        FreePlace x = Check.fed(text);
        CHECK.due("realm of '" + text + "'", x.realm(), -10 - number);
        CHECK.due("fault of '" + text + "'", x.fault(), place);
    }

    private static String blanks(int n) {
        return " ".repeat(n);
    }

    /** "An object is used for at most 512 calls after it has been made." */
    private static void lastCallAnswered() {
        CHECK.due("come as the 512th", used511().come(0), -3);
        CHECK.due("told as the 512th", used511().told(10), 497);
        CHECK.due("told STANDING as the 512th", used511().told(6), 497);
        CHECK.due("undo as the 512th", used511().undo(), 19);
        CHECK.due("drift as the 512th", used511().drift(60) >= 0 ? 1 : 0, 1);
        CHECK.due("feed as the 512th", used511().feed('r'), 4);
        CHECK.due("realm as the 512th", used511().realm(), -11);
        CHECK.due("keep as the 512th", used511().keep(1), 1);
    }

    /** 10 letters, realm(), 3 letters, 497 guests: 511 calls. */
    private static FreePlace used511() {
        FreePlace x = Check.realmOf("r1 9;t1 1;");
        Check.feed(x, "r1;");
        for (int i = 0; i < 497; i++) {
            x.come(0);
        }
        return x;
    }

    /** Promise 1: "No REALM." */
    private static void newObjectHasNoRealm() {
        for (int what = 0; what <= 16; what++) {
            CHECK.due("new: told(" + what + ")", new FreePlace().told(what), 0);
        }
        CHECK.due("new: fault()", new FreePlace().fault(), NONE);
        CHECK.due("new: table(0, 0)", new FreePlace().table(0, 0), FreePlace.UNKNOWN);
        CHECK.due("new: way(0, 0)", new FreePlace().way(0, 0), FreePlace.UNKNOWN);
        CHECK.due("new: shut(0, true)", new FreePlace().shut(0, true), FreePlace.UNKNOWN);
        CHECK.due("new: drift(1)", new FreePlace().drift(1), FreePlace.NOT);
        CHECK.due("new: seed(1)", new FreePlace().seed(1), 0);
        CHECK.due("new: goBack(0)", new FreePlace().goBack(0), FreePlace.NOT);
        CHECK.due("new: goBack(1)", new FreePlace().goBack(1), FreePlace.NOT);
        CHECK.due("new: undo()", new FreePlace().undo(), FreePlace.NOT);
    }

    /** Promise 2: "a number 0 .. 255 ... OUTSIDE". */
    private static void lettersFrom0To255() {
        FreePlace x = new FreePlace();
        CHECK.due("feed(0)", x.feed(0), 1);
        CHECK.due("feed(255)", x.feed(255), 2);
        CHECK.due("feed(-1)", x.feed(-1), FreePlace.OUTSIDE);
        CHECK.due("feed(256)", x.feed(256), FreePlace.OUTSIDE);
        CHECK.due("letters", x.told(4), 2);
        CHECK.due("feed(254)", x.feed(254), 3);
    }

    /** "240 letters at most"; promise 2: "FULL (240)". */
    private static void text240AtMost() {
        FreePlace x = Check.fed(blanks(238));
        CHECK.due("the 239th", x.feed(' '), 239);
        CHECK.due("the 240th", x.feed(' '), 240);
        CHECK.due("the 241st", x.feed(' '), FreePlace.FULL);
        CHECK.due("letters", x.told(4), 240);
        CHECK.due("the 241st again", x.feed(0), FreePlace.FULL);
    }

    /** A text of 240 letters is read to its last; what was refused is not in it. */
    private static void text240Read() {
        reads("r1 2;" + blanks(230) + "t3 1;", 1);
        reads(blanks(235) + "r1 2;", 0);
        fault("r1 2;" + blanks(230) + "t3 1 ", 1, 240);
        fault("r1 2;" + blanks(230) + "t3 10", 2, 238);
        fault("r1 2;" + blanks(234) + "t", 1, 240);
        fault("r1 2;" + blanks(234) + "x", 1, 239);
        FreePlace x = Check.fed("r1 2;" + blanks(230) + "t3 1;");
        CHECK.due("the 241st", x.feed('x'), FreePlace.FULL);
        CHECK.due("it is not in the text", x.realm(), 1);
    }

    /** Promise 3: "THE TEXT (it is empty then, with a FAULT, too)". */
    private static void textIsEmptyThen() {
        FreePlace good = Check.fed("r1 2;");
        good.realm();
        CHECK.due("empty behind a realm", good.told(4), 0);
        CHECK.due("the first letter then", good.feed('x'), 1);
        CHECK.due("a fault", good.realm(), -11);
        CHECK.due("empty behind a fault", good.told(4), 0);
        CHECK.due("the first letter then", good.feed('r'), 1);
        FreePlace full = Check.fed(blanks(240));
        full.realm();
        for (int i = 1; i <= 240; i++) {
            CHECK.due("240 letters again", full.feed(' '), i);
        }
        CHECK.due("the 241st again", full.feed(' '), FreePlace.FULL);
    }

    /** No letter of an older, longer text is read behind the end of a shorter one. */
    private static void olderTextIsGone() {
        String[] shorter = {"r0 0", "r", "r0 0;t1", "r0 0;t1 0", "r0 0;t1 0;w0", "r0 0;t1 0;t1 0;w0 1"};
        for (String text : shorter) {
            FreePlace x = Check.realmOf("r0 0;t1 0;t1 0;w0 1;");
            Check.feed(x, text);
            CHECK.due("realm of '" + text + "'", x.realm(), -11);
            CHECK.due("fault of '" + text + "'", x.fault(), text.length());
        }
        FreePlace x = Check.fed("r0 0;t1 0;");
        x.realm();
        Check.feed(x, "r9 9;");
        CHECK.due("the first clause alone", x.realm(), 0);
        Check.feed(x, "r0 0;xxxxx");
        x.realm();
        Check.feed(x, "r0 0;");
        CHECK.due("a fault behind the end", x.realm(), 0);
    }

    /** "a fine is F, 0 .. 99". */
    private static void fineFrom0To99() {
        told("r0 5;", 0, 0);
        told("r1 5;", 0, 1);
        told("r98 5;", 0, 98);
        told("r99 5;", 0, 99);
        fault("r100 5;", 2, 1);
        fault("r999 5;", 2, 1);
    }

    /** "WOOD for W chairs, 0 .. 99". */
    private static void woodFrom0To99() {
        told("r5 0;", 1, 0);
        told("r5 1;", 1, 1);
        told("r5 98;", 1, 98);
        told("r5 99;", 1, 99);
        fault("r5 100;", 2, 3);
        fault("r5 999;", 2, 3);
    }

    /** "'r' ... first"; fault 1: "another word first than 'r'". */
    private static void rComesFirst() {
        fault("t1 0;r0 0;", 1, 0);
        fault("  w0 1;", 1, 2);
        fault("t", 1, 0);
        fault("w", 1, 0);
        reads("r0 0;t1 0;", 1);
    }

    /** "'r' ... once"; fault 3: "'r' again". */
    private static void rComesOnce() {
        reads("r0 0;", 0);
        fault("r0 0;r0 0;", 3, 5);
        fault("r0 0;r", 3, 5);
        fault("r0 0;t1 0; r1 1;", 3, 11);
    }

    /** "9 TABLES at most"; fault 3: "a tenth 't'". */
    private static void nineTables() {
        reads("r0 0;" + NINE, 9);
        reads("r0 0;" + NINE.substring(5), 8);
        fault("r0 0;" + NINE + "t1 0;", 3, 50);
        fault("r0 0;" + NINE + "w0 8;t1 0;", 3, 55);
        FreePlace x = Check.fed("r0 0;" + NINE + "w0 8;w8 1;");
        CHECK.due("nine", x.realm(), 9);
        CHECK.due("the ninth is number 8", x.table(8, 0), 1);
        CHECK.due("it is joined", x.table(8, 3), 3);
        CHECK.due("there is no number 9", x.table(9, 0), FreePlace.UNKNOWN);
    }

    /** "S SEATS, 1 .. 12". */
    private static void seatsFrom1To12() {
        fault("r0 0;t0 0;", 2, 6);
        reads("r0 0;t1 0;", 1);
        reads("r0 0;t12 0;", 1);
        fault("r0 0;t13 0;", 2, 6);
        FreePlace x = Check.realmOf("r0 0;t1 0;t12 0;t11 0;");
        CHECK.due("1 SEAT", x.table(0, 0), 1);
        CHECK.due("12 SEATS", x.table(1, 0), 12);
        CHECK.due("11 SEATS", x.table(2, 0), 11);
    }

    /** "N SIT there, 0 .. S". */
    private static void sitFrom0ToSeats() {
        reads("r0 0;t1 0;t1 1;t12 12;t12 0;t5 5;", 5);
        fault("r0 0;t1 2;", 2, 8);
        fault("r0 0;t5 6;", 2, 8);
        fault("r0 0;t12 13;", 2, 9);
        fault("r0 0;t12 12;t3 12;", 2, 15);
        FreePlace x = Check.realmOf("r0 0;t5 5;t5 4;t5 0;");
        CHECK.due("all SIT", x.table(0, 1), 5);
        CHECK.due("one less", x.table(1, 1), 4);
        CHECK.due("none", x.table(2, 1), 0);
        CHECK.due("all who SIT", x.told(5), 9);
    }

    /** "14 WAYS at most"; fault 3: "a fifteenth 'w'". */
    private static void fourteenWays() {
        FreePlace x = Check.fed("r0 0;" + NINE + FOURTEEN);
        CHECK.due("nine tables", x.realm(), 9);
        CHECK.due("fourteen ways", x.told(3), 14);
        CHECK.due("the last's A", x.way(13, 0), 1);
        CHECK.due("the last's B", x.way(13, 1), 7);
        CHECK.due("there is no number 14", x.way(14, 0), FreePlace.UNKNOWN);
        CHECK.due("joined to all others", x.table(0, 3), 510);
        fault("r0 0;" + NINE + FOURTEEN + "w1 8;", 3, 120);
        told("r0 0;" + NINE + FOURTEEN.substring(5), 3, 13);
        FreePlace late = Check.fed("r0 0;" + NINE + FOURTEEN.substring(5) + "w7 8;");
        CHECK.due("another fourteenth", late.realm(), 9);
        CHECK.due("it is there", late.way(13, 1), 8);
    }

    /** "between unlike TABLES"; fault 4: "B like A". */
    private static void unlikeTables() {
        fault("r0 0;t1 0;w0 0;", 4, 13);
        fault("r0 0;t1 0;t1 0;w1 1;", 4, 18);
        fault("r0 0;t1 0;t1 0;w1 01;", 4, 18);
        reads("r0 0;t1 0;t1 0;w1 0;", 2);
    }

    /** "told ahead"; fault 2: "a TABLE that was not told yet (at its first)". */
    private static void tablesToldAhead() {
        fault("r0 0;w0 1;", 2, 6);
        fault("r0 0;t1 0;w1 0;", 2, 11);
        fault("r0 0;t1 0;w0 1;", 2, 13);
        fault("r0 0;t1 0;w0 1;t1 0;", 2, 13);
        fault("r0 0;t1 0;w1 1;t1 0;", 2, 11);
        reads("r0 0;t1 0;t1 0;w0 1;", 2);
        fault("r0 0;t1 0;t1 0;w0 2;t1 0;", 2, 18);
        reads("r0 0;t1 0;t1 0;t1 0;w0 2;", 3);
        fault("r0 0;" + NINE + "w8 9;", 2, 53);
        fault("r0 0;" + NINE + "w9 8;", 2, 51);
        reads("r0 0;" + NINE + "w8 7;", 9);
    }

    /** "no two between the same"; fault 4: "both have a WAY". */
    private static void noTwoBetweenTheSame() {
        fault("r0 0;t1 0;t1 0;w0 1;w0 1;", 4, 23);
        fault("r0 0;t1 0;t1 0;w0 1;w1 0;", 4, 23);
        fault("r0 0;t1 0;t1 0;t1 0;w0 1;w1 2;w1 0;", 4, 33);
        fault("r0 0;t1 0;t1 0;t1 0;w0 1;w1 2;w2 1;", 4, 33);
        reads("r0 0;t1 0;t1 0;t1 0;w0 1;w1 2;w2 0;", 3);
        fault("r0 0;" + NINE + FOURTEEN.substring(0, 65) + "w6 1;", 4, 118);
    }

    /** "NUMBERS have one to three figures"; fault 2: "a NUMBER of four figures or more". */
    private static void numbersOfOneToThreeFigures() {
        told("r7 0;", 0, 7);
        told("r07 0;", 0, 7);
        told("r007 0;", 0, 7);
        fault("r0007 0;", 2, 1);
        fault("r00007 0;", 2, 1);
        fault("r0 0000;", 2, 3);
        reads("r000 000;t012 012;t001 000;w000 001;", 2);
        fault("r0 0;t0012 0;", 2, 6);
        fault("r0 0;t12 0000;", 2, 9);
        fault("r0 0;t1 0;t1 0;w0000 1;", 2, 16);
        fault("r0 0;t1 0;t1 0;w0 0001;", 2, 18);
        fault("r0 0;t4294967297 0;", 2, 6);
        fault("r18446744073709551616 0;", 2, 1);
        fault("r" + "0".repeat(239), 2, 1);
    }

    /** The letters beside the figures are none. */
    private static void figuresAre0To9() {
        told("r09 90;", 1, 90);
        fault("r/ 0;", 1, 1);
        fault("r: 0;", 1, 1);
        fault("r1/ 0;", 1, 2);
        fault("r1: 0;", 1, 2);
        fault("r1 2/;", 1, 4);
        fault("r1 2:;", 1, 4);
        fault("r+1 0;", 1, 1);
        fault("r-1 0;", 1, 1);
        fault("r1.0;", 1, 2);
        fault("r" + (char) 0xb2 + " 0;", 1, 1);
    }

    /** "a word is one letter". */
    private static void wordIsOneLetter() {
        fault("rr0 0;", 1, 1);
        fault("r0 0;tt1 0;", 1, 6);
        fault("r0 0;t1 0;t1 0;ww0 1;", 1, 16);
        fault("r0 0;ta1 0;", 1, 6);
    }

    /** Fault 1: "a letter that is no word". */
    private static void wordsAreNoOtherLetters() {
        for (char letter : "qsRTW;0~".toCharArray()) {
            fault(letter + "0 0;", 1, 0);
        }
        for (char letter : "qsuvxRTW;0~".toCharArray()) {
            fault("r0 0;" + letter + "1 0;", 1, 5);
        }
        fault("r0 0;" + (char) 0, 1, 5);
        fault("r0 0;" + (char) 255, 1, 5);
        fault("r0 0,", 1, 4);
        fault("r0 0:", 1, 4);
        fault("r0 0<", 1, 4);
    }

    /** "blanks (32) may stand anywhere". */
    private static void blanksAnywhere() {
        reads(" r0 0;", 0);
        reads("r 0 0;", 0);
        reads("r0  0;", 0);
        reads("r0 0 ;", 0);
        reads("r0 0; ", 0);
        reads("r0 0; t1 0;", 1);
        reads("r0 0;t 1 0;", 1);
        reads("r0 0;t1 0 ;", 1);
        reads("r0 0;t1 0;t1 0; w 0  1  ;  ", 2);
    }

    /** "blanks (32)": no other letter is one. */
    private static void blanksAre32() {
        for (int letter : new int[] {0, 9, 10, 13, 31, 33, 95, 160}) {
            fault((char) letter + "r0 0;", 1, 0);
            fault("r" + (char) letter + "0 0;", 1, 1);
            fault("r0" + (char) letter + "0;", 1, 2);
            fault("r0 0" + (char) letter + ";", 1, 4);
            fault("r0 0;" + (char) letter, 1, 5);
        }
    }

    /** "but within NUMBERS": a blank parts them. */
    private static void blanksNotWithinNumbers() {
        fault("r1 2 3;", 1, 5);
        fault("r0 0;t1 2 12;", 2, 8);
        fault("r0 0;t1 0 0;", 1, 10);
        told("r1 2;", 0, 1);
        fault("r0 0;t1 0;t1 0;w0 0 1;", 4, 18);
    }

    /** "two NUMBERS side by side need one". */
    private static void numbersSideBySideNeedOne() {
        fault("r12;", 1, 3);
        fault("r0 0;t10;", 1, 8);
        fault("r0 0;t1 0;t1 0;w01;", 1, 18);
        fault("r5599;", 2, 1);
        reads("r12 0;t12 0;t1 0;w0 1;", 2);
    }

    /** "FAULTS, at the first letter that has one": an earlier letter's greater fault is told. */
    private static void faultAtTheFirstLetter() {
        fault("r0 0;t1 0;w0 0x", 4, 13);
        fault("r0 0;r0 x", 3, 5);
        fault("r100 x", 2, 1);
        fault("r100x", 2, 1);
        fault("x100", 1, 0);
        fault("r0 0;t13 x", 2, 6);
        fault("r0 0;t1 2 x", 2, 8);
        fault("r0 0;t0 9;t0 0;", 2, 6);
        fault("r0 0;w5 5;", 2, 6);
    }

    /** "the end at the text's length". */
    private static void faultAtTheEnd() {
        fault("r", 1, 1);
        fault("r0", 1, 2);
        fault("r0 ", 1, 3);
        fault("r0 0", 1, 4);
        fault("r0 0   ", 1, 7);
        fault("r0 0;t", 1, 6);
        fault("r0 0;t1 0;w0", 1, 12);
        fault("r0 0;t1 0;t1 0;w0 1", 1, 19);
        fault("r0 0;t1 0;t1 0;w0 1 ", 1, 20);
    }

    /** "of these the least": at one letter. */
    private static void ofTheseTheLeast() {
        fault("r0 0r", 1, 4);
        fault("r0 0;t1 r", 1, 8);
        fault("r0 0 1000;", 1, 5);
        fault("r0 0;100", 1, 5);
        fault("r0 0;" + NINE.substring(0, 44) + "t", 1, 49);
        fault("r0 0;" + NINE + FOURTEEN.substring(0, 69) + "w", 1, 119);
        fault("r0 0;t1 0;w0 0000;", 2, 13);
        fault("r0 0;t1 0;t1 0;w0 1;w0 0001;", 2, 23);
    }

    /** Fault 2: "(at its first)". */
    private static void numberOutOfBoundsAtItsFirst() {
        fault("r  100 0;", 2, 3);
        fault("r0   0000;", 2, 5);
        fault("r0 0;t  13 0;", 2, 8);
        fault("r0 0;t12  13;", 2, 10);
        fault("r0 0;t1 0;t1 0;w  002 0;", 2, 18);
        fault("r0 0;t1 0;t1 0;w0  012;", 2, 19);
    }

    /** Fault 3: "(at it)". */
    private static void oneTooManyAtIt() {
        fault("r0 0;  r", 3, 7);
        fault("r0 0;" + NINE + "  t", 3, 52);
        fault("r0 0;" + NINE + FOURTEEN + "  w", 3, 122);
        fault("r0 0;" + NINE + FOURTEEN + "t", 3, 120);
    }

    /** Fault 4: "(at the B)". */
    private static void wayAtTheB() {
        fault("r0 0;t1 0;w0   000;", 4, 15);
        fault("r0 0;t1 0;t1 0;w0 1;w 1  0 ;", 4, 25);
    }

    /** "An empty text (or one of blanks alone) has no FAULT: no REALM." */
    private static void emptyTextHasNoFault() {
        for (int n : new int[] {0, 1, 2, 239, 240}) {
            FreePlace x = Check.fed(blanks(n));
            CHECK.due(n + " blanks", x.realm(), 0);
            CHECK.due(n + " blanks: fault", x.fault(), NONE);
            CHECK.due(n + " blanks: no REALM", x.drift(1), FreePlace.NOT);
            CHECK.due(n + " blanks: the text is empty", x.told(4), 0);
        }
        FreePlace bare = Check.fed("r0 0;");
        CHECK.due("a REALM without TABLES", bare.realm(), 0);
        CHECK.due("it is a REALM", bare.drift(1), 0);
        FreePlace gone = Check.realmOf("r3 4;t2 1;t2 2;w0 1;");
        gone.shut(0, true);
        gone.come(1);
        CHECK.due("an empty text behind a REALM", gone.realm(), 0);
        for (int what = 0; what <= 16; what++) {
            CHECK.due("no REALM: told(" + what + ")", gone.told(what), 0);
        }
        CHECK.due("no REALM: drift", gone.drift(1), FreePlace.NOT);
        CHECK.due("no REALM: table", gone.table(0, 0), FreePlace.UNKNOWN);
        CHECK.due("no REALM: way", gone.way(0, 0), FreePlace.UNKNOWN);
    }

    /** Promise 3: "(no MOVES, CRIMES, FINES, GUESTS ...)". */
    private static void realmIsCountedAnew() {
        FreePlace x = Check.realmOf("r3 4;t2 1;t3 1;w0 1;");
        x.come(0);
        x.come(0);
        x.come(0);
        x.come(1);
        x.build(0);
        x.shut(0, true);
        int[] before = {3, 3, 2, 1, 0, 5, 1, 1, 2, 6, 4, 2, 3, 1, 0, 0, 6};
        for (int what = 0; what <= 16; what++) {
            CHECK.due("ahead of it: told(" + what + ")", x.told(what), before[what]);
        }
        Check.feed(x, "r5 6;t2 1;t3 1;w0 1;");
        CHECK.due("as many TABLES", x.realm(), 2);
        int[] due = {5, 6, 2, 1, 0, 2, 0, 0, 0, 0, 0, 0, 0, 0, 0, 0, 0};
        for (int what = 0; what <= 16; what++) {
            CHECK.due("anew: told(" + what + ")", x.told(what), due[what]);
        }
        CHECK.due("anew: the WAY is open", x.way(0, 2), 0);
        CHECK.due("anew: SEATS", x.table(0, 0), 2);
    }

    /** Promise 3: "(... nothing SEEN, no BOOK; IMAGES, what could be undone are gone ...)". */
    private static void booksImagesUndoneAreGone() {
        for (String text : new String[] {"r1 1;t9 0;t2 2;", "r1 1;", " "}) {
            FreePlace x = Check.realmOf("r3 4;t2 1;t3 1;w0 1;");
            x.keep(0);
            x.keep(1);
            x.see(0, true);
            x.write(0, 2);
            x.come(0);
            Check.feed(x, text);
            x.realm();
            CHECK.due("nothing SEEN", x.told(14), 0);
            CHECK.due("no BOOK", x.told(15), 0);
            CHECK.due("nothing wrong", x.judge(), NONE);
            CHECK.due("image 0 is gone", x.goBack(0), FreePlace.NOT);
            CHECK.due("image 1 is gone", x.goBack(1), FreePlace.NOT);
            CHECK.due("what could be undone is gone", x.undo(), FreePlace.NOT);
            CHECK.due("nothing to tear", x.tear(), 0);
        }
    }

    /** Promise 3: "THE SEED stays". */
    private static void theSeedStays() {
        for (String text : new String[] {"r1 1;t9 0;", "r1 1;", " ", "x"}) {
            FreePlace x = new FreePlace();
            x.seed(2147483647);
            Check.feed(x, text);
            x.realm();
            CHECK.due("the seed behind '" + text + "'", x.seed(1), 2147483647);
        }
    }

    /** Promise 3: "-10 less the number of its FAULT (all else is as it was)". */
    private static void faultLeavesAllElse() {
        String[] texts = {"x", "r100 1;", "r1 1;t1 1;r", "r1 1;t1 1;t2 2;w0 1;w1 1;", "r9 9;t9 9;t8 8;t7 7;t6 6;t5 5;w0 4;w1 3"};
        int[] due = {-11, -12, -13, -14, -11};
        for (int i = 0; i < texts.length; i++) {
            FreePlace x = Check.realmOf("r3 4;t2 1;t3 1;w0 1;");
            x.seed(42);
            x.keep(0);
            x.see(0, true);
            x.write(0, 2);
            x.come(0);
            x.shut(0, true);
            x.come(0);
            String before = Check.state(x);
            Check.feed(x, texts[i]);
            CHECK.due("realm of '" + texts[i] + "'", x.realm(), due[i]);
            CHECK.due("F", x.told(0), 3);
            CHECK.due("TABLES", x.told(2), 2);
            CHECK.due("WAYS", x.told(3), 1);
            CHECK.due("all else", before.equals(Check.state(x)) ? 1 : 0, 1);
            CHECK.due("what is SEEN", x.told(14), 1);
            CHECK.due("the BOOK", x.told(15), 1);
            CHECK.due("a WAY's B", x.way(0, 1), 1);
            CHECK.due("to be undone", x.undo(), 2);
            CHECK.due("the image", x.goBack(0), 1);
            CHECK.due("the seed", x.seed(0), 42);
        }
    }

    /** Promise 4: "of the latest realm(); NONE". */
    private static void faultOfTheLatest() {
        FreePlace x = Check.fed("r0");
        CHECK.due("not yet read", x.fault(), NONE);
        x.realm();
        CHECK.due("at the end", x.fault(), 2);
        Check.feed(x, "xx");
        CHECK.due("still the latest realm()'s", x.fault(), 2);
        x.realm();
        CHECK.due("at the first", x.fault(), 0);
        Check.feed(x, "r0 0;");
        x.realm();
        CHECK.due("none", x.fault(), NONE);
        Check.feed(x, "r0 0;x");
        x.realm();
        CHECK.due("a place again", x.fault(), 5);
        x.realm();
        CHECK.due("none of an empty text", x.fault(), NONE);
    }

    /** Promise 5: 0 to 16, each another; OUTSIDE. */
    private static void toldFrom0To16() {
        FreePlace x = Check.realmOf("r3 5;t2 2;t2 1;t4 1;w0 1;w1 2;w0 2;");
        x.feed('r');
        x.come(0);
        x.come(0);
        x.come(1);
        x.come(1);
        x.build(0);
        x.shut(0, true);
        x.shut(2, true);
        x.see(1, false);
        x.write(2, 3);
        x.write(2, 3);
        int[] due = {3, 4, 3, 3, 1, 7, 1, 2, 1, 3, 4, 2, 7, 5, 1, 2, 7};
        for (int what = 0; what <= 16; what++) {
            CHECK.due("told(" + what + ")", x.told(what), due[what]);
        }
        CHECK.due("told(-1)", x.told(-1), FreePlace.OUTSIDE);
        CHECK.due("told(17)", x.told(17), FreePlace.OUTSIDE);
        CHECK.due("told(17) of no realm", new FreePlace().told(17), FreePlace.OUTSIDE);
        FreePlace wide = Check.fed("r0 0;" + NINE + FOURTEEN);
        wide.realm();
        for (int w = 0; w < 14; w++) {
            wide.shut(w, true);
        }
        CHECK.due("all nine without a CHAIN", wide.told(12), 511);
        CHECK.due("all fourteen SHUT", wide.told(13), 16383);
        for (int t = 0; t < 9; t++) {
            wide.come(t);
        }
        CHECK.due("all nine break the RULE", wide.told(11), 511);
    }

    /** Promise 6: 0 to 3; UNKNOWN, OUTSIDE. */
    private static void tableFrom0To3() {
        FreePlace x = Check.realmOf("r0 0;t5 2;t2 2;t4 1;w0 1;w0 2;");
        CHECK.due("SEATS", x.table(0, 0), 5);
        CHECK.due("SIT", x.table(0, 1), 2);
        CHECK.due("FREE", x.table(0, 2), 3);
        CHECK.due("joined", x.table(0, 3), 6);
        CHECK.due("joined, the last", x.table(2, 3), 1);
        CHECK.due("FREE, the last", x.table(2, 2), 3);
        CHECK.due("table(0, 4)", x.table(0, 4), FreePlace.OUTSIDE);
        CHECK.due("table(0, -1)", x.table(0, -1), FreePlace.OUTSIDE);
        CHECK.due("table(3, 0)", x.table(3, 0), FreePlace.UNKNOWN);
        CHECK.due("table(-1, 0)", x.table(-1, 0), FreePlace.UNKNOWN);
        x.shut(1, true);
        CHECK.due("joined by what is not SHUT", x.table(0, 3), 2);
        CHECK.due("joined to none", x.table(2, 3), 0);
    }

    /** Promise 7: 0 to 2; UNKNOWN, OUTSIDE. */
    private static void wayFrom0To2() {
        FreePlace x = Check.realmOf("r0 0;t5 2;t2 2;t4 1;w2 1;w0 2;");
        CHECK.due("A as told", x.way(0, 0), 2);
        CHECK.due("B as told", x.way(0, 1), 1);
        CHECK.due("open", x.way(1, 2), 0);
        x.shut(1, true);
        CHECK.due("SHUT", x.way(1, 2), 1);
        CHECK.due("the other is open", x.way(0, 2), 0);
        CHECK.due("way(1, 3)", x.way(1, 3), FreePlace.OUTSIDE);
        CHECK.due("way(1, -1)", x.way(1, -1), FreePlace.OUTSIDE);
        CHECK.due("way(2, 0)", x.way(2, 0), FreePlace.UNKNOWN);
        CHECK.due("way(-1, 0)", x.way(-1, 0), FreePlace.UNKNOWN);
    }

    /** "UNKNOWN (a TABLE, WAY ... that there is not)": there are those of the latest realm. */
    private static void tablesOfTheLatestRealm() {
        FreePlace x = Check.realmOf("r0 0;t5 2;t2 2;t4 1;w2 1;w0 2;");
        Check.feed(x, "r0 0;t5 1;t6 1;w0 1;");
        x.realm();
        CHECK.due("two TABLES", x.table(2, 0), FreePlace.UNKNOWN);
        CHECK.due("one WAY", x.way(1, 0), FreePlace.UNKNOWN);
        CHECK.due("come to a third", x.come(2), FreePlace.UNKNOWN);
        CHECK.due("the second WAY can't be SHUT", x.shut(1, true), FreePlace.UNKNOWN);
        CHECK.due("a SET of a third", x.chairs(4, 0, NONE), FreePlace.UNKNOWN);
        CHECK.due("all who SIT", x.told(5), 2);
    }
}
