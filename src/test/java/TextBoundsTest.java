/** Promises 1 to 4 at their bounds: a new object, the text, its faults, reading anew. */
public final class TextBoundsTest {
    private static final String NINE_STREETS = "s0 1 0;".repeat(9), SIX_CITIZENS = "c0 1;".repeat(6);

    public static void main(String[] args) {
        newObject();
        bytes();
        fullText();
        clearing();
        nothingTold();
        yards();
        yardsOfStreets();
        manyStreets();
        old();
        homes();
        wants();
        manyCitizens();
        blanks();
        letters();
        numbers();
        otherBytes();
        orderOfItems();
        endsTooEarly();
        firstFault();
        longestTexts();
        readAnew();
        Check.end();
    }

    private static void newObject() {
        Case.holds("promise 1: 4 yards at first", "count(0) 4", "widest(0, 3) NONE",
            "widest(3, 0) NONE", "widest(0, 4) BAD", "widest(4, 0) BAD");
        Case.holds("promise 1: no streets", "count(1) 0", "street(0, 0) BAD", "wills(0) BAD",
            "mark(0, 0) NO", "now(1) 0", "now(2) 0");
        Case.holds("promise 1: nobody", "count(2) 0", "citizen(0, 0) BAD", "does(0, 1, 0) BAD",
            "moves(0, 0) BAD", "carriage(-1) 0", "carriage(0) BAD");
        Case.holds("promise 1: it is day", "now(0) 0", "night(0) STATE", "night(1) 0");
        Case.holds("promise 1: nothing to be undone", "count(4) 0", "undo() STATE");
        Case.holds("promise 1: nothing measured", "count(3) 0", "forget() 0", "deeds(0) 100",
            "deeds(1) 0", "when() 1");
        Case.holds("promise 1: no images", "back(0) STATE", "back(1) STATE");
        Case.holds("promise 1: an empty text", "count(5) 0", "clear() 0");
        Case.holds("promise 1: nothing in the trace", "trace() 0");
        Case.holds("promise 1: no ways", "way(0, 3, 1) NONE", "flow(0, 3, 0) 0", "flow(0, 3, 1) 0",
            "need(0, 3, 1) NONE", "odds(0, 3, 0, 0) 0", "odds(0, 3, 0, 1) 1");
    }

    private static void bytes() {
        Case.holds("promise 2: the least byte", "type(0) 1", "count(5) 1");
        Case.holds("promise 2: below the least byte", "type(-1) BAD", "count(5) 0");
        Case.holds("promise 2: the greatest byte", "type(255) 1", "count(5) 1");
        Case.holds("promise 2: above the greatest byte", "type(256) BAD", "count(5) 0");
        Case.holds("promise 2: no byte is cut down to one", "type(-2147483648) BAD",
            "type(2147483647) BAD", "type(" + (256 + 's') + ") BAD", "count(5) 0");
        Case.holds("promise 2: how many it has", "type(32) 1", "type(32) 2", "type(32) 3");
    }

    private static void fullText() {
        String most = " ".repeat(119);
        Case.holds("promise 2: the 120th byte", "types(" + most + ") 119", "type(32) 120");
        Case.holds("promise 2: the 121st byte", "types(" + most + " ) 120", "2 * type(32) FULL",
            "count(5) 120");
        Case.holds("promise 2: BAD ahead of FULL", "types(" + most + " ) 120", "type(-1) BAD",
            "type(256) BAD", "count(5) 120");
        Case.holds("promise 2: what is refused comes to no place", "types(" + " ".repeat(113) + ") 113",
            "types(s0 1 9;) 120", "types(xx) FULL", "town() 1", "street(0, 2) 9");
        Case.holds("promise 2: full no more when cleared", "types(" + most + " ) 120", "clear() 120",
            "type(32) 1");
        Case.holds("promise 2: full no more when read", "types(" + most + " ) 120", "town() 0",
            "type(32) 1");
        Case.holds("promise 2: full still when faulty", "types(" + most + "x) 120", "town() -129",
            "type(32) FULL");
    }

    private static void clearing() {
        Case.holds("promise 3: nothing", "clear() 0", "count(5) 0");
        Case.holds("promise 3: one byte", "type(0) 1", "clear() 1", "clear() 0");
        Case.holds("promise 3: as many as may be", "types(" + "y".repeat(120) + ") 120", "clear() 120",
            "clear() 0");
        Case.holds("promise 3: refused bytes are none", "type(256) BAD", "clear() 0");
        Case.holds("promise 3: what was typed ahead of it is gone", "types(y8;s) 4", "clear() 4",
            "tell(s0 1 1;) 1", "count(0) 4", "count(1) 1");
        Case.holds("promise 3: a fault is counted from there on", "types(y8;) 3", "clear() 3",
            "tell( x) -11");
        Case.holds("promise 3: the town stays", "tell(y5;s0 1 3;c0 2;) 3", "night(1) 4", "keep(1) 1",
            "measures(2, 0) 1", "types(y8;) 3", "clear() 3", "count(0) 5", "count(1) 1", "count(2) 1",
            "count(3) 1", "count(4) 1", "now(0) 1", "back(1) 1");
    }

    private static void nothingTold() {
        read("promise 4: an empty text", "", 0);
        read("promise 4: a blank alone", " ", 0);
        read("promise 4: blanks alone, as many as may be", " ".repeat(120), 0);
        Case.holds("promise 4: then 4 yards, no streets, nobody", "tell(y8;s0 1 2;c0 1;) 3", "town() 0",
            "count(0) 4", "count(1) 0", "count(2) 0");
    }

    private static void yards() {
        fault("promise 4: no yards", "y0;", 1);
        fault("promise 4: fewer yards than may be", "y1;", 1);
        read("promise 4: the fewest yards", "y2;", 1);
        read("promise 4: the most yards", "y8;", 1);
        fault("promise 4: more yards than may be", "y9;", 1);
        fault("promise 4: more yards by two digits", "y10;", 1);
        Case.holds("promise 4: the fewest yards are so many", "tell(y2;) 1", "count(0) 2",
            "widest(0, 1) NONE", "widest(0, 2) BAD");
        Case.holds("promise 4: the most yards are so many", "tell(y8;) 1", "count(0) 8",
            "widest(0, 7) NONE", "widest(0, 8) BAD");
        Case.holds("promise 4: 4 yards if none are told", "tell(s3 0 1;) 1", "count(0) 4");
        Case.holds("promise 4: 4 yards, whatever was told ahead", "tell(y8;) 1", "tell(s3 0 1;) 1",
            "count(0) 4");
        fault("promise 4: yards are told once", "y4;y4;", 3);
        fault("promise 4: no number", "y;", 1);
        fault("promise 4: two numbers", "y4 4;", 3);
    }

    private static void yardsOfStreets() {
        read("promise 4: the first and the last of 4 yards", "s0 3 0;s3 0 0;", 2);
        fault("promise 4: behind the last of 4 yards", "s4 0 0;", 1);
        fault("promise 4: behind the last of 4 yards, B", "s0 4 0;", 3);
        read("promise 4: both of 2 yards", "y2;s0 1 0;s1 0 0;", 3);
        fault("promise 4: behind the last of 2 yards", "y2;s2 0 0;", 4);
        fault("promise 4: behind the last of 2 yards, B", "y2;s0 2 0;", 6);
        read("promise 4: the first and the last of 8 yards", "y8;s0 7 0;s7 0 0;", 3);
        fault("promise 4: behind the last of 8 yards", "y8;s8 0 0;", 4);
        fault("promise 4: behind the last of 8 yards, B", "y8;s0 8 0;", 6);
        fault("promise 4: the yards of a town told ahead are gone", "y8;", "s7 0 0;", 1);
        fault("promise 4: B that is A, the first", "s0 0 0;", 3);
        fault("promise 4: B that is A, the last", "s3 3 0;", 3);
        read("promise 4: more than one street may join two", "y2;" + NINE_STREETS, 10);
        Case.holds("promise 4: yards stay in the order in which they are told", "tell(s3 0 0;s0 3 0;) 2",
            "street(0, 0) 3", "street(0, 1) 0", "street(1, 0) 0", "street(1, 1) 3");
        fault("promise 4: one yard", "s0;", 2);
        fault("promise 4: no yard", "s;", 1);
    }

    private static void manyStreets() {
        read("promise 4: one street", "s0 1 0;", 1);
        read("promise 4: as many streets as may be", NINE_STREETS, 9);
        fault("promise 4: a tenth street", NINE_STREETS + "s0 1 0;", 63);
        fault("promise 4: a tenth street, at its letter", NINE_STREETS + "  s;", 65);
        fault("promise 4: a tenth street behind a citizen", NINE_STREETS + "c0 1;s0 1 0;", 68);
        Case.holds("promise 4: the ninth street is there", "tell(y8;" + NINE_STREETS.substring(7)
            + "s7 6 9;) 10", "count(1) 9", "street(8, 0) 7", "street(8, 1) 6", "street(8, 2) 9");
        Case.holds("promise 4: streets are counted anew for each text", "tell(" + NINE_STREETS + ") 9",
            "tell(" + NINE_STREETS + ") 9", "count(1) 9");
        Case.holds("promise 4: streets of a faulty text are not counted", "tell(" + NINE_STREETS + "x) -73",
            "clear() 64", "tell(s0 1 0;) 1", "count(1) 1");
    }

    private static void old() {
        Case.holds("promise 4: the least that is old", "tell(s0 1 0;) 1", "street(0, 2) 0",
            "street(0, 5) 1");
        Case.holds("promise 4: the most that is old", "tell(s0 1 9;) 1", "street(0, 2) 9",
            "street(0, 5) 10");
        fault("promise 4: more than may be old", "s0 1 10;", 5);
        fault("promise 4: less than may be old", "s0 1 -1;", 5);
        fault("promise 4: nothing that is old", "s0 1;", 4);
        fault("promise 4: two that are old", "s0 1 9 9;", 7);
    }

    private static void homes() {
        read("promise 4: the first street of one", "s0 1 0;c0 1;", 2);
        fault("promise 4: a street that is not told", "s0 1 0;c1 1;", 8);
        fault("promise 4: no street is told", "c0 1;", 1);
        fault("promise 4: no street is told but yards", "y4;c0 1;", 4);
        fault("promise 4: a street that is told behind", "s0 1 0;c1 1;s1 2 0;", 8);
        read("promise 4: the last street of nine", NINE_STREETS + "c8 1;", 10);
        fault("promise 4: behind the last street of nine", NINE_STREETS + "c9 1;", 64);
        fault("promise 4: the streets of a town told ahead are gone", "s0 1 0;s0 1 0;", "s0 1 0;c1 1;", 8);
        fault("promise 4: no street", "s0 1 0;c;", 8);
    }

    private static void wants() {
        fault("promise 4: he wants less than may be", "s0 1 0;c0 0;", 10);
        Case.holds("promise 4: he wants the least", "tell(s0 1 0;c0 1;) 2", "citizen(0, 1) 1");
        Case.holds("promise 4: he wants the most", "tell(s0 1 0;c0 10;) 2", "citizen(0, 1) 10");
        fault("promise 4: he wants more than may be", "s0 1 0;c0 11;", 10);
        fault("promise 4: he wants nothing", "s0 1 0;c0;", 9);
        fault("promise 4: he wants two", "s0 1 0;c0 1 1;", 12);
    }

    private static void manyCitizens() {
        read("promise 4: one citizen", "s0 1 0;c0 1;", 2);
        read("promise 4: as many citizens as may be", "s0 1 0;" + SIX_CITIZENS, 7);
        fault("promise 4: a seventh citizen", "s0 1 0;" + SIX_CITIZENS + "c0 1;", 37);
        fault("promise 4: a seventh citizen, at his letter", "s0 1 0;" + SIX_CITIZENS + " c;", 38);
        fault("promise 4: a seventh citizen behind a street",
            "s0 1 0;" + SIX_CITIZENS + "s0 1 0;c1 1;", 44);
        Case.holds("promise 4: the sixth citizen is there", "tell(s0 1 0;s1 2 0;"
            + SIX_CITIZENS.substring(5) + "c1 9;) 8", "count(2) 6", "citizen(5, 0) 1", "citizen(5, 1) 9");
        Case.holds("promise 4: citizens are counted anew for each text", "tell(s0 1 0;" + SIX_CITIZENS
            + ") 7", "tell(s0 1 0;" + SIX_CITIZENS + ") 7", "count(2) 6");
    }

    private static void blanks() {
        read("promise 4: no blanks but between numbers", "y5;s0 4 9;c0 10;", 3);
        read("promise 4: blanks between all tokens", "  y  5  ;  s  0  4  9  ;  c  0  10  ;  ", 3);
        fault("promise 4: a blank ends a number", "s0 1 0;c0 1 0;", 12);
        fault("promise 4: a blank ends letters", "s s", 2);
        fault("promise 4: the byte below a blank is none", "s0" + (char) 31 + "1 1;", 2);
        fault("promise 4: the byte above a blank is none", "s0" + (char) 33 + "1 1;", 2);
        for (int c : new int[] {0, 9, 10, 13, 160}) {
            fault("promise 4: byte " + c + " is no blank, ahead", (char) c + "y5;", 0);
            fault("promise 4: byte " + c + " is no blank, between", "y" + (char) c + "5;", 1);
            fault("promise 4: byte " + c + " is no blank, behind", "y5;" + (char) c, 3);
        }
    }

    private static void letters() {
        fault("promise 4: letters that begin no item", "x5;", 0);
        fault("promise 4: the first letter begins none", "a5;", 0);
        fault("promise 4: the last letter begins none", "z5;", 0);
        fault("promise 4: letters side by side are one token", "ys", 0);
        fault("promise 4: a is a letter at its side", "sa", 0);
        fault("promise 4: z is a letter at its side", "sz0 1 0;", 0);
        fault("promise 4: the byte below a is none", "s" + (char) 96, 1);
        fault("promise 4: the byte above z is none", "s" + (char) 123, 1);
        fault("promise 4: great letters are none", "S0 1 0;", 0);
        fault("promise 4: great letters are none at its side", "sS", 1);
        fault("promise 4: bytes above 127 are none at its side", "s" + (char) 233, 1);
        fault("promise 4: letters where a number is due", "s x", 2);
        fault("promise 4: letters where ; is due", "y5s0 1 0;", 2);
        fault("promise 4: letters where ; is due, behind a blank", "y5 s0 1 0;", 3);
        fault("promise 4: as many letters as may be", "s".repeat(120), 0);
        fault("promise 4: letters behind a blank", "y5;  ss", 5);
    }

    private static void numbers() {
        fault("promise 4: a 0 ahead of another", "s00 1 0;", 1);
        fault("promise 4: a 0 ahead of a number that may be", "s0 01 0;", 3);
        fault("promise 4: a 0 ahead of two digits", "s0 1 0;c0 010;", 10);
        fault("promise 4: a 0 ahead of nothing more than 0", "s0 1 00;", 5);
        fault("promise 4: the greatest number", "y99;", 1);
        fault("promise 4: above the greatest number", "y100;", 1);
        fault("promise 4: above the greatest number, old", "s0 1 100;", 5);
        fault("promise 4: above the greatest number, wants", "s0 1 0;c0 100;", 10);
        fault("promise 4: 2 to the 32, and 5", "y4294967301;", 1);
        fault("promise 4: 2 to the 64, and 5", "y18446744073709551621;", 1);
        fault("promise 4: 2 to the 8, and 5", "y261;", 1);
        fault("promise 4: as many digits as may be", "y" + "9".repeat(119), 1);
        fault("promise 4: as many noughts as may be", "y" + "0".repeat(119), 1);
        fault("promise 4: a number where letters are due", "5", 0);
        fault("promise 4: a number where letters are due, behind ;", "y5;5;", 3);
        fault("promise 4: a number above 99 where letters are due", "y5; 100;", 4);
        fault("promise 4: a number above 99 where ; is due", "y5 100;", 3);
        fault("promise 4: a number with a 0 ahead where ; is due", "y5 01;", 3);
        fault("promise 4: ; where a number is due", "s0 ; 1;", 3);
        Case.holds("promise 4: 9 is a digit, 0 too", "tell(s0 1 9;s0 1 0;c0 10;) 3", "street(0, 2) 9",
            "street(1, 2) 0", "citizen(0, 1) 10");
    }

    private static void otherBytes() {
        fault("promise 4: the byte below 0 begins none", "s0 1 /;", 5);
        fault("promise 4: the byte above 9 begins none", "s0 1 :;", 5);
        fault("promise 4: the byte below 0 is no number that he wants", "s0 1 0;c0 /;", 10);
        fault("promise 4: the byte above 9 is no number that he wants", "s0 1 0;c0 :;", 10);
        fault("promise 4: the byte below 0 ends a number", "y5/;", 2);
        fault("promise 4: the byte above 9 ends a number", "y5:;", 2);
        fault("promise 4: the byte below ; begins none", "y5:", 2);
        fault("promise 4: the byte above ; begins none", "y5<", 2);
        fault("promise 4: the least byte", "" + (char) 0, 0);
        fault("promise 4: the greatest byte", "" + (char) 255, 0);
        fault("promise 4: ; alone", ";", 0);
        fault("promise 4: ; twice", "y5;;", 3);
        fault("promise 4: a byte above 127 is not cut down", "y5" + (char) (128 + ';'), 2);
    }

    private static void orderOfItems() {
        fault("promise 4: y behind a street", "s0 1 0;y5;", 7);
        fault("promise 4: y behind a citizen", "s0 1 0;c0 1;y5;", 12);
        read("promise 4: y behind blanks", "   y5;", 1);
        read("promise 4: citizens ahead of streets that come later", "s0 1 0;c0 1;s0 1 0;c1 1;", 4);
        Case.holds("promise 4: streets and citizens are numbered in their order",
            "tell(s0 1 3;c0 2;s1 2 4;c1 5;c0 6;) 5", "street(0, 2) 3", "street(1, 2) 4", "citizen(0, 1) 2",
            "citizen(1, 1) 5", "citizen(2, 1) 6", "street(0, 6) 5", "street(1, 6) 2");
    }

    private static void endsTooEarly() {
        for (String text : new String[] {"y", "y ", "y5", "y5 ", "s", "s0", "s0 ", "s0 1", "s0 1 ",
            "s0 1 9", "s0 1 9  ", "s0 1 0;c", "s0 1 0;c0", "s0 1 0;c0 ", "s0 1 0;c0 1", "s0 1 0;c0 10",
            " ".repeat(119) + "y", "y5" + " ".repeat(118)}) {
            fault("promise 4: it ends too early", text, text.length());
        }
        fault("promise 4: what can't stand there goes ahead of the end", "y9", 1);
    }

    private static void firstFault() {
        fault("promise 4: the first of two faults", "y9;s0 0 0;", 1);
        fault("promise 4: a byte that begins no token behind another fault", "y5;s0 0 #", 6);
        fault("promise 4: a number above 99 behind another fault", "y5;x100;", 3);
        fault("promise 4: another fault behind a number above 99", "y5;s100 0 x", 4);
        fault("promise 4: an end that is too early behind another fault", "s0 1 10", 5);
    }

    private static void longestTexts() {
        read("promise 4: the most items", "y8;" + NINE_STREETS + SIX_CITIZENS, 16);
        read("promise 4: the most items in the longest text",
            "y8;" + NINE_STREETS + SIX_CITIZENS + " ".repeat(24), 16);
        read("promise 4: an item that ends with the longest text", " ".repeat(117) + "y8;", 1);
        fault("promise 4: a fault in the first place", "#" + " ".repeat(119), 0);
        fault("promise 4: a fault in the last place", " ".repeat(119) + ";", 119);
        fault("promise 4: a fault behind the last place", " ".repeat(118) + "y8", 120);
    }

    private static void readAnew() {
        String[] made = {"tell(y5;s0 1 2;s1 2 0;c0 3;c0 4;c1 2;) 6", "does(0, 5, 0) 6", "does(0, 7, 1) 8",
            "moves(2, 0) 1", "moves(1, 1) 0", "moves(2, 1) 0", "keep(0) 0", "keep(1) 0", "night(1) 7",
            "measures(3, 0) 1", "mark(5, 0) 8"};
        anew("promise 4: as told", made, "tell(s0 1 0;c0 1;) 2", "street(0, 2) 0", "street(0, 3) 0",
            "street(0, 4) 0", "street(0, 6) 1", "citizen(0, 0) 0");
        anew("promise 4: as told, hidden ones are gone", new String[] {"tell(s0 1 0;c0 1;) 2",
            "does(0, 4, 0) 1"}, "tell(s0 1 3;c0 1;) 2", "street(0, 3) 0", "street(0, 2) 3", "now(2) 0");
        anew("promise 4: it is day", made, "tell(s0 1 0;) 1", "now(0) 0", "night(0) STATE");
        anew("promise 4: nothing measured", made, "town() 0", "count(3) 0", "deeds(0) 100", "forget() 0");
        anew("promise 4: nothing to be undone", made, "town() 0", "count(4) 0", "undo() STATE");
        anew("promise 4: images are gone", made, "town() 0", "back(0) STATE", "back(1) STATE");
        anew("promise 4: the text is empty", made, "tell(y2;) 1", "count(5) 0", "clear() 0");
        anew("promise 4: the trace stays", made, "tell(y2;) 1", "trace() 100001");
        anew("promise 4: an image may be kept anew", made, "tell(y2;) 1", "keep(0) 0", "back(0) 0",
            "back(1) STATE");
    }

    private static void anew(String name, String[] made, String... steps) {
        Case both = new Case();
        both.go(name, made);
        both.go(name, steps);
    }

    private static void read(String name, String text, int items) {
        Case.holds(name, "tell(" + text + ") " + items, "count(5) 0", "town() 0");
    }

    private static void fault(String name, String text, int place) {
        Case.holds(name, "tell(" + text + ") " + (-10 - place), "count(5) " + text.length(), "count(0) 4",
            "count(1) 0", "count(2) 0", "town() " + (-10 - place));
    }

    private static void fault(String name, String ahead, String text, int place) {
        Case told = new Case();
        told.go(name, "types(" + ahead + ") " + ahead.length());
        told.ask("town()");
        told.go(name, "tell(" + text + ") " + (-10 - place), "count(5) " + text.length());
    }
}
