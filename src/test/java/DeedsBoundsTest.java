/** Promises 5 to 12 at their bounds: streets, citizens, deeds, wills, moves, nights, undoing. */
public final class DeedsBoundsTest {
    private static final String NINE = "tell(y8;s0 1 0;s1 2 1;s2 3 2;s3 4 3;s4 5 4;s5 6 5;s6 7 6;s7 0 7;"
        + "s0 4 9;c8 1;c8 2;c8 3;c8 4;c8 5;c8 10;) 16";
    // One lives alone, two are together, three are together: so many witnesses, and one more.
    private static final String ALONE = "tell(s0 1 3;c0 1;) 2", TWO = "tell(s0 1 3;c0 1;c0 1;) 3",
        THREE = "tell(s0 1 3;c0 1;c0 1;c0 1;) 4";

    public static void main(String[] args) {
        streets();
        whoLives();
        widths();
        citizens();
        witnesses();
        whoDoes();
        howMuch();
        howManySee();
        seen();
        pretended();
        hidden();
        wills();
        moves();
        nights();
        undoing();
        tenAreKnown();
        whatIsKnown();
        nowOfAll();
        Check.end();
    }

    private static void streets() {
        Case.holds("promise 5: the first street", NINE, "street(0, 0) 0", "street(0, 1) 1", "street(0, 2) 0");
        Case.holds("promise 5: the last street", NINE, "street(8, 0) 0", "street(8, 1) 4", "street(8, 2) 9");
        Case.holds("promise 5: ahead of the first", NINE, "street(-1, 0) BAD");
        Case.holds("promise 5: behind the last", NINE, "street(9, 0) BAD");
        Case.holds("promise 5: behind the last of one", ALONE, "street(0, 0) 0", "street(1, 0) BAD");
        Case.holds("promise 5: no streets", "tell(y2;) 1", "street(0, 0) BAD");
        Case.holds("promise 5: the first that may be asked", ALONE, "street(0, 0) 0", "street(0, -1) BAD");
        Case.holds("promise 5: the last that may be asked", ALONE, "street(0, 6) 1", "street(0, 7) BAD");
        Case.holds("promise 5: at first", ALONE, "street(0, 2) 3", "street(0, 3) 0", "street(0, 4) 0",
            "street(0, 5) 4");
        Case.holds("promise 5: no street has what another has", NINE, "does(0, 8, 1) 10", "street(7, 4) 0",
            "street(8, 4) 8");
    }

    private static void whoLives() {
        Case.holds("promise 5: nobody lives in it", NINE, "street(0, 6) 0", "street(7, 6) 0");
        Case.holds("promise 5: all live in it", NINE, "street(8, 6) 63");
        Case.holds("promise 5: the last citizen alone", NINE, "moves(5, 0) 8", "street(0, 6) 32",
            "street(8, 6) 31");
        Case.holds("promise 5: the first citizen alone", NINE, "moves(0, 7) 8", "street(7, 6) 1",
            "street(8, 6) 62");
    }

    private static void widths() {
        Case.holds("promise 5: the narrowest", "tell(s0 1 0;) 1", "street(0, 5) 1");
        Case.holds("promise 5: the widest", "tell(s0 1 9;) 1", "street(0, 5) 10");
        Case.holds("promise 5: by day a false one that is more", THREE, "does(0, 4, 1) 5", "street(0, 5) 5");
        Case.holds("promise 5: by day a false one that is as much", THREE, "does(0, 3, 1) 4",
            "street(0, 5) 4");
        Case.holds("promise 5: by day a false one that is less", THREE, "does(0, 2, 1) 4", "street(0, 5) 4");
        Case.holds("promise 5: by night no false one", THREE, "does(0, 9, 1) 10", "night(1) 4",
            "street(0, 5) 4", "street(0, 4) 9");
        Case.holds("promise 5: a hidden one is not wide", ALONE, "does(0, 9, 0) 4", "street(0, 5) 4");
    }

    private static void citizens() {
        Case.holds("promise 6: the first citizen", NINE, "citizen(0, 0) 8", "citizen(0, 1) 1");
        Case.holds("promise 6: the last citizen", NINE, "citizen(5, 0) 8", "citizen(5, 1) 10");
        Case.holds("promise 6: ahead of the first", NINE, "citizen(-1, 0) BAD");
        Case.holds("promise 6: behind the last", NINE, "citizen(6, 0) BAD");
        Case.holds("promise 6: behind the last of one", ALONE, "citizen(0, 0) 0", "citizen(1, 0) BAD");
        Case.holds("promise 6: nobody", "tell(s0 1 0;) 1", "citizen(0, 0) BAD");
        Case.holds("promise 6: the first that may be asked", ALONE, "citizen(0, 0) 0", "citizen(0, -1) BAD");
        Case.holds("promise 6: the last that may be asked", ALONE, "citizen(0, 2) 0", "citizen(0, 3) BAD");
    }

    private static void witnesses() {
        Case.holds("promise 6: no witnesses", ALONE, "citizen(0, 2) 0");
        Case.holds("promise 6: all others are witnesses", NINE, "citizen(0, 2) 62", "citizen(5, 2) 31",
            "citizen(2, 2) 59");
        Case.holds("promise 6: he himself is none", TWO, "citizen(0, 2) 2", "citizen(1, 2) 1");
        Case.holds("promise 6: in a street with its first yard", "tell(s0 1 0;s0 2 0;c0 1;c1 1;) 4",
            "citizen(0, 2) 2", "citizen(1, 2) 1");
        Case.holds("promise 6: in a street with its second yard", "tell(s0 1 0;s1 2 0;c0 1;c1 1;) 4",
            "citizen(0, 2) 2", "citizen(1, 2) 1");
        Case.holds("promise 6: in a street whose second yard is its first", "tell(s1 2 0;s0 1 0;c0 1;c1 1;) 4",
            "citizen(0, 2) 2", "citizen(1, 2) 1");
        Case.holds("promise 6: in a street whose second yard is its second",
            "tell(s0 2 0;s1 2 0;c0 1;c1 1;) 4", "citizen(0, 2) 2", "citizen(1, 2) 1");
        Case.holds("promise 6: in a street with both yards", "tell(y2;s0 1 0;s1 0 0;c0 1;c1 1;) 5",
            "citizen(0, 2) 2", "citizen(1, 2) 1");
        Case.holds("promise 6: in a street with no yard of it", "tell(s0 1 0;s2 3 0;c0 1;c1 1;c1 1;) 5",
            "citizen(0, 2) 0", "citizen(1, 2) 4");
        Case.holds("promise 6: two streets away", "tell(s0 1 0;s1 2 0;s2 3 0;c0 1;c2 1;) 5",
            "citizen(0, 2) 0", "citizen(1, 2) 0");
        Case.holds("promise 6: by the first yard and by the last", "tell(y8;s0 7 0;s7 3 0;s4 0 0;c0 1;c1 1;c2 1;) 7",
            "citizen(0, 2) 6", "citizen(1, 2) 1", "citizen(2, 2) 1");
        Case.holds("promise 6: where they live now", "tell(s0 1 0;s2 3 0;c0 1;c1 1;) 4", "citizen(0, 2) 0",
            "moves(1, 0) 1", "citizen(0, 2) 2", "undo() 0", "citizen(0, 2) 0");
    }

    private static void whoDoes() {
        Case.holds("promise 7: the first citizen", NINE, "does(0, 9, 0) 10");
        Case.holds("promise 7: the last citizen", NINE, "does(5, 9, 0) 10");
        Case.holds("promise 7: ahead of the first", NINE, "does(-1, 9, 0) BAD", "count(4) 0");
        Case.holds("promise 7: behind the last", NINE, "does(6, 9, 0) BAD", "count(4) 0");
        Case.holds("promise 7: behind the last of one", ALONE, "does(1, 9, 0) BAD", "count(4) 0");
        Case.holds("promise 7: nobody", "tell(s0 1 0;) 1", "does(0, 9, 0) BAD", "count(4) 0");
        Case.holds("promise 7: in the last street", "tell(y8;" + "s0 1 0;".repeat(8) + "s6 7 0;c8 1;c8 1;c8 1;) 13",
            "does(1, 6, 0) 7", "street(8, 2) 6", "street(7, 2) 0", "now(1) 15");
        Case.holds("promise 7: where he lives now", "tell(s0 1 0;s0 1 0;c0 1;c0 1;c0 1;) 5", "moves(0, 1) 0",
            "does(0, 5, 0) 6", "street(0, 2) 0", "street(1, 2) 5");
    }

    private static void howMuch() {
        Case.holds("promise 7: nothing", THREE, "does(0, 0, 0) BAD", "does(0, 0, 1) BAD", "count(4) 0");
        Case.holds("promise 7: the least", "tell(s0 1 0;c0 1;c0 1;c0 1;) 4", "does(0, 1, 0) 2",
            "street(0, 2) 1");
        Case.holds("promise 7: the most", THREE, "does(0, 9, 0) 10", "street(0, 2) 9");
        Case.holds("promise 7: more than may be", THREE, "does(0, 10, 0) BAD", "does(0, 10, 1) BAD",
            "count(4) 0", "street(0, 5) 4");
        Case.holds("promise 7: the least and the most that are false", THREE, "does(0, 1, 1) 4",
            "street(0, 4) 1", "does(0, 9, 1) 10", "street(0, 4) 9");
        Case.holds("promise 7: the least and the most that are hidden", ALONE, "does(0, 1, 0) 4",
            "street(0, 3) 1", "does(0, 9, 0) 4", "street(0, 3) 9");
        Case.holds("promise 7: true or false", THREE, "does(0, 5, -1) BAD", "does(0, 5, 2) BAD", "count(4) 0",
            "does(0, 5, 0) 6", "does(0, 6, 1) 7", "street(0, 2) 5", "street(0, 4) 6");
    }

    private static void howManySee() {
        Case.holds("promise 7: no witness", ALONE, "does(0, 8, 0) 4", "street(0, 2) 3", "street(0, 3) 8");
        Case.holds("promise 7: one witness", TWO, "does(0, 8, 0) 4", "street(0, 2) 3", "street(0, 3) 8");
        Case.holds("promise 7: two witnesses", THREE, "does(0, 8, 0) 9", "street(0, 2) 8", "street(0, 3) 0");
        Case.holds("promise 7: five witnesses", NINE, "moves(0, 0) 8", "citizen(0, 2) 62", "does(0, 8, 0) 9",
            "street(0, 2) 8", "street(0, 3) 0");
        Case.holds("promise 7: a false one, no witness", ALONE, "does(0, 8, 1) 4", "street(0, 4) 0",
            "street(0, 3) 0", "street(0, 2) 3");
        Case.holds("promise 7: a false one, one witness", TWO, "does(0, 8, 1) 4", "street(0, 4) 0",
            "street(0, 3) 0", "street(0, 2) 3");
        Case.holds("promise 7: a false one, two witnesses", THREE, "does(0, 8, 1) 9", "street(0, 4) 8",
            "street(0, 3) 0", "street(0, 2) 3");
        Case.holds("promise 7: two witnesses, one at each yard",
            "tell(s1 2 0;s0 1 0;s2 3 0;c0 1;c1 1;c2 1;) 6", "does(0, 4, 0) 5", "does(1, 4, 0) 1",
            "street(1, 3) 4");
        Case.holds("promise 7: one witness, and others farther off",
            "tell(s0 1 0;s1 2 0;s2 3 0;c0 1;c1 1;c2 1;c2 1;) 7", "does(0, 4, 0) 1", "street(0, 3) 4");
        Case.holds("promise 7: two no more, as one moves", "tell(s0 1 0;s2 3 0;c0 1;c0 1;c0 1;) 5",
            "does(0, 4, 0) 5", "moves(2, 1) 0", "does(0, 7, 0) 5", "street(0, 3) 7");
    }

    private static void seen() {
        Case.holds("promise 7: less than is seen", THREE, "does(0, 2, 0) 4", "street(0, 2) 3");
        Case.holds("promise 7: as much as is seen", THREE, "does(0, 3, 0) 4", "street(0, 2) 3");
        Case.holds("promise 7: more than is seen", THREE, "does(0, 4, 0) 5", "street(0, 2) 4");
        Case.holds("promise 7: a seen one leaves what is false", THREE, "does(0, 6, 1) 7", "does(0, 4, 0) 7",
            "street(0, 2) 4", "street(0, 4) 6");
        Case.holds("promise 7: a seen one leaves what is hidden", "tell(s0 1 0;s2 3 0;c0 1;c1 1;c1 1;) 5",
            "does(0, 4, 0) 1", "moves(1, 0) 1", "moves(2, 0) 1", "does(0, 7, 0) 8", "street(0, 3) 4");
        Case.holds("promise 7: by night a seen one is as wide", THREE, "night(1) 4", "does(0, 7, 0) 8");
    }

    private static void pretended() {
        Case.holds("promise 7: less than is false", THREE, "does(0, 6, 1) 7", "does(0, 5, 1) 7",
            "street(0, 4) 6");
        Case.holds("promise 7: as much as is false", THREE, "does(0, 6, 1) 7", "does(0, 6, 1) 7",
            "street(0, 4) 6");
        Case.holds("promise 7: more than is false", THREE, "does(0, 6, 1) 7", "does(0, 7, 1) 8",
            "street(0, 4) 7");
        Case.holds("promise 7: false, less than is seen", THREE, "does(0, 1, 1) 4", "street(0, 4) 1",
            "street(0, 2) 3");
        Case.holds("promise 7: false by night: width of what is seen", THREE, "night(1) 4", "does(0, 9, 1) 4",
            "street(0, 4) 9", "night(0) 10");
    }

    private static void hidden() {
        Case.holds("promise 7: less than is hidden", ALONE, "does(0, 6, 0) 4", "does(0, 5, 0) 4",
            "street(0, 3) 6");
        Case.holds("promise 7: as much as is hidden", ALONE, "does(0, 6, 0) 4", "does(0, 6, 0) 4",
            "street(0, 3) 6");
        Case.holds("promise 7: more than is hidden", ALONE, "does(0, 6, 0) 4", "does(0, 7, 0) 4",
            "street(0, 3) 7");
        Case.holds("promise 7: hidden, though less than is seen", ALONE, "does(0, 1, 0) 4", "street(0, 3) 1");
        Case.holds("promise 7: a false one hides nothing", ALONE, "does(0, 6, 0) 4", "does(0, 9, 1) 4",
            "street(0, 3) 6");
    }

    private static void wills() {
        Case.holds("promise 8: ahead of the first street", NINE, "wills(-1) BAD");
        Case.holds("promise 8: behind the last street", NINE, "wills(9) BAD");
        Case.holds("promise 8: behind the last street of one", ALONE, "does(0, 5, 0) 4", "wills(1) BAD",
            "wills(0) 5");
        Case.holds("promise 8: no streets", "wills(0) BAD");
        Case.holds("promise 8: in the first street", "tell(s0 1 0;s2 3 0;c0 1;c1 1;) 4", "does(0, 5, 0) 1",
            "does(1, 6, 0) 1", "wills(0) 5", "street(0, 2) 5", "street(1, 2) 0", "street(1, 3) 6");
        Case.holds("promise 8: in the last street", "tell(y8;" + "s0 1 0;".repeat(8) + "s6 7 0;c8 1;) 11",
            "does(0, 5, 0) 1", "wills(8) 5", "street(8, 2) 5", "street(7, 2) 0");
        Case.holds("promise 8: nothing is hidden", ALONE, "wills(0) STATE", "count(4) 0");
        Case.holds("promise 8: nothing is hidden, as it was seen", THREE, "does(0, 9, 0) 10", "wills(0) STATE",
            "count(4) 1");
        Case.holds("promise 8: nothing is hidden, as it was false", ALONE, "does(0, 9, 1) 4", "wills(0) STATE",
            "count(4) 1");
        Case.holds("promise 8: the least that is hidden", ALONE, "does(0, 1, 0) 4", "wills(0) 1",
            "street(0, 2) 3", "street(0, 3) 0");
        Case.holds("promise 8: the most that is hidden", ALONE, "does(0, 9, 0) 4", "wills(0) 9",
            "street(0, 2) 9", "street(0, 5) 10");
        Case.holds("promise 8: less than is seen", ALONE, "does(0, 2, 0) 4", "wills(0) 2", "street(0, 2) 3",
            "street(0, 3) 0", "count(4) 2");
        Case.holds("promise 8: as much as is seen", ALONE, "does(0, 3, 0) 4", "wills(0) 3", "street(0, 2) 3",
            "street(0, 3) 0", "count(4) 2");
        Case.holds("promise 8: more than is seen", ALONE, "does(0, 4, 0) 4", "wills(0) 4", "street(0, 2) 4",
            "street(0, 3) 0", "count(4) 2");
        Case.holds("promise 8: it is found once", ALONE, "does(0, 4, 0) 4", "wills(0) 4", "wills(0) STATE",
            "count(4) 2");
        Case.holds("promise 8: what is hidden behind it is found anew", ALONE, "does(0, 6, 0) 4", "wills(0) 6",
            "does(0, 2, 0) 7", "wills(0) 2", "street(0, 2) 6");
        Case.holds("promise 8: by night, too", ALONE, "does(0, 6, 0) 4", "night(1) 4", "wills(0) 6",
            "street(0, 5) 7");
    }

    private static void moves() {
        Case.holds("promise 9: the first and the last citizen", NINE, "moves(0, 0) 8", "moves(5, 0) 8",
            "street(0, 6) 33");
        Case.holds("promise 9: ahead of the first citizen", NINE, "moves(-1, 0) BAD", "count(4) 0");
        Case.holds("promise 9: behind the last citizen", NINE, "moves(6, 0) BAD", "count(4) 0");
        Case.holds("promise 9: behind the last citizen of one", ALONE, "moves(1, 0) BAD", "count(4) 0");
        Case.holds("promise 9: nobody", "tell(s0 1 0;) 1", "moves(0, 0) BAD");
        Case.holds("promise 9: to the first street and the last", NINE, "moves(2, 0) 8", "citizen(2, 0) 0",
            "moves(2, 8) 0", "citizen(2, 0) 8");
        Case.holds("promise 9: ahead of the first street", NINE, "moves(0, -1) BAD", "count(4) 0");
        Case.holds("promise 9: behind the last street", NINE, "moves(0, 9) BAD", "count(4) 0");
        Case.holds("promise 9: behind the last street of one", ALONE, "moves(0, 1) BAD", "count(4) 0");
        Case.holds("promise 9: he lives there", NINE, "moves(0, 8) STATE", "count(4) 0", "citizen(0, 0) 8");
        Case.holds("promise 9: he lives there since he moved", NINE, "moves(0, 3) 8", "moves(0, 3) STATE",
            "count(4) 1", "citizen(0, 0) 3");
        Case.holds("promise 9: he lives there in the only street", ALONE, "moves(0, 0) STATE", "count(4) 0");
        Case.holds("promise 9: another one stays", NINE, "moves(0, 3) 8", "citizen(1, 0) 8", "citizen(5, 0) 8");
        Case.holds("promise 9: all move to one", NINE, "moves(0, 3) 8", "moves(1, 3) 8", "moves(2, 3) 8",
            "moves(3, 3) 8", "moves(4, 3) 8", "moves(5, 3) 8", "street(3, 6) 63", "street(8, 6) 0");
    }

    private static void nights() {
        Case.holds("promise 10: what is no time of day", ALONE, "night(-1) BAD", "night(2) BAD", "count(4) 0",
            "now(0) 0");
        Case.holds("promise 10: what is no time of day, by night", ALONE, "night(1) 4", "night(-1) BAD",
            "night(2) BAD", "count(4) 1", "now(0) 1");
        Case.holds("promise 10: it is day", ALONE, "night(0) STATE", "count(4) 0", "now(0) 0");
        Case.holds("promise 10: it is night", ALONE, "night(1) 4", "night(1) STATE", "count(4) 1", "now(0) 1");
        Case.holds("promise 10: it is day again", ALONE, "night(1) 4", "night(0) 4", "night(0) STATE",
            "count(4) 2", "now(0) 0");
        Case.holds("promise 10: it is day since it was undone", ALONE, "night(1) 4", "undo() 0",
            "night(0) STATE", "night(1) 4");
        Case.holds("promise 10: no widths", "night(1) 0", "night(0) 0");
        Case.holds("promise 10: all widths of nine streets", NINE, "night(1) 46", "night(0) 46");
        Case.holds("promise 10: the widths of the time that begins", THREE, "does(0, 9, 1) 10", "night(1) 4",
            "night(0) 10");
    }

    private static void undoing() {
        Case.holds("promise 11: none", ALONE, "undo() STATE", "count(4) 0");
        Case.holds("promise 11: none more", ALONE, "night(1) 4", "undo() 0", "undo() STATE", "now(0) 0");
        Case.holds("promise 11: a true deed", THREE, "does(0, 9, 0) 10", "undo() 0", "street(0, 2) 3");
        Case.holds("promise 11: a false deed", THREE, "does(0, 9, 1) 10", "undo() 0", "street(0, 4) 0");
        Case.holds("promise 11: a hidden deed", ALONE, "does(0, 9, 0) 4", "undo() 0", "street(0, 3) 0",
            "wills(0) STATE");
        Case.holds("promise 11: a will", ALONE, "does(0, 9, 0) 4", "wills(0) 9", "undo() 1", "street(0, 2) 3",
            "street(0, 3) 9", "wills(0) 9");
        Case.holds("promise 11: a move", NINE, "moves(3, 1) 8", "undo() 0", "citizen(3, 0) 8", "street(8, 6) 63");
        Case.holds("promise 11: a night", ALONE, "night(1) 4", "undo() 0", "now(0) 0");
        Case.holds("promise 11: a day", ALONE, "night(1) 4", "night(0) 4", "undo() 1", "now(0) 1");
        Case.holds("promise 11: the latest alone", ALONE, "does(0, 2, 0) 4", "does(0, 5, 0) 4",
            "does(0, 7, 0) 4", "undo() 2", "street(0, 3) 5", "undo() 1", "street(0, 3) 2");
        Case.holds("promise 11: refused ones are none", ALONE, "night(0) STATE", "night(2) BAD",
            "moves(0, 0) STATE", "moves(0, 1) BAD", "wills(0) STATE", "wills(1) BAD", "does(0, 0, 0) BAD",
            "count(4) 0", "undo() STATE");
        Case.holds("promise 11: a deed by which nothing changes is one", THREE, "night(1) 4", "does(0, 3, 0) 4",
            "count(4) 2", "undo() 1", "now(0) 1");
        Case.holds("promise 11: a false deed that is nothing is one", ALONE, "night(1) 4", "does(0, 3, 1) 4",
            "count(4) 2", "undo() 1", "now(0) 1");
        Case.holds("promise 11: undoing is none", ALONE, "does(0, 2, 0) 4", "does(0, 5, 0) 4", "undo() 1",
            "undo() 0", "undo() STATE", "street(0, 3) 0");
        Case.holds("promise 11: what is measured, marked, typed stays", ALONE, "night(1) 4", "measures(3, 0) 1",
            "mark(0, 0) 4", "type(32) 1", "keep(0) 1", "undo() 0", "count(3) 1", "trace() 1", "count(5) 1",
            "back(0) 1");
    }

    private static void tenAreKnown() {
        Case.holds("promise 11: the tenth", ALONE, "night(1) 4", "9 * does(0, 5, 0) 4", "count(4) 10",
            "undo() 9", "undo() 8", "undo() 7", "undo() 6", "undo() 5", "undo() 4", "undo() 3", "undo() 2",
            "undo() 1", "now(0) 1", "undo() 0", "now(0) 0", "undo() STATE");
        Case.holds("promise 11: the eleventh is lost", ALONE, "night(1) 4", "10 * does(0, 5, 0) 4",
            "count(4) 10", "undo() 9", "undo() 8", "undo() 7", "undo() 6", "undo() 5", "undo() 4", "undo() 3",
            "undo() 2", "undo() 1", "street(0, 3) 5", "undo() 0", "street(0, 3) 0", "undo() STATE", "now(0) 1");
        Case.holds("promise 11: older ones are lost for good", ALONE, "night(1) 4", "10 * does(0, 5, 0) 4",
            "undo() 9", "undo() 8", "night(0) 4", "night(1) 4", "count(4) 10", "undo() 9", "now(0) 0",
            "undo() 8", "now(0) 1", "undo() 7", "undo() 6", "undo() 5", "undo() 4", "undo() 3", "undo() 2",
            "undo() 1", "undo() 0", "undo() STATE", "now(0) 1");
        Case.holds("promise 11: refused when ten are known", ALONE, "10 * does(0, 5, 0) 4", "moves(0, 0) STATE",
            "night(0) STATE", "does(0, 10, 0) BAD", "count(4) 10", "undo() 9", "undo() 8", "undo() 7",
            "undo() 6", "undo() 5", "undo() 4", "undo() 3", "undo() 2", "undo() 1", "street(0, 3) 5",
            "undo() 0", "street(0, 3) 0");
    }

    /** 25 moves go round the row of ten more than once. */
    private static void whatIsKnown() {
        String name = "promise 11: the last ten of 25";
        Case moved = new Case();
        moved.go(name, NINE);
        for (int i = 1; i <= 25; i++) {
            moved.go(name, "moves(4, " + (8 + i) % 9 + ") " + (7 + i) % 9, "count(4) " + Math.min(i, 10));
        }
        for (int i = 24; i >= 15; i--) {
            moved.go(name, "undo() " + (i - 15), "citizen(4, 0) " + (8 + i) % 9);
        }
        moved.go(name, "undo() STATE", "citizen(4, 0) 5");
    }

    private static void nowOfAll() {
        Case.holds("promise 12: the first that may be asked", ALONE, "now(0) 0", "now(-1) BAD");
        Case.holds("promise 12: the last that may be asked", ALONE, "now(2) 0", "now(3) BAD");
        Case.holds("promise 12: no streets", "now(1) 0", "now(2) 0");
        Case.holds("promise 12: one street", "tell(s0 1 0;) 1", "now(1) 1");
        Case.holds("promise 12: the narrowest nine", "tell(" + "s0 1 0;".repeat(9) + ") 9", "now(1) 9");
        Case.holds("promise 12: the widest nine", "tell(" + "s0 1 9;".repeat(9) + ") 9", "now(1) 90");
        Case.holds("promise 12: widths by night", THREE, "does(0, 9, 1) 10", "now(1) 10", "night(1) 4", "now(1) 4");
        Case.holds("promise 12: something hidden in the first and in the last",
            "tell(y8;s2 3 0;" + "s0 1 0;".repeat(7) + "s6 7 0;c0 1;c8 1;) 12", "now(2) 0", "does(0, 1, 0) 1",
            "now(2) 1", "does(1, 9, 0) 1", "now(2) 2", "does(1, 8, 0) 1", "now(2) 2", "wills(0) 1", "now(2) 1",
            "wills(8) 9", "now(2) 0");
        Case.holds("promise 12: something hidden in all nine", "tell(" + "s0 1 0;".repeat(9) + "c0 1;) 10",
            "does(0, 1, 0) 1", "moves(0, 1) 0", "does(0, 1, 0) 1", "moves(0, 2) 1", "does(0, 1, 0) 1",
            "moves(0, 3) 2", "does(0, 1, 0) 1", "moves(0, 4) 3", "does(0, 1, 0) 1", "moves(0, 5) 4",
            "does(0, 1, 0) 1", "moves(0, 6) 5", "does(0, 1, 0) 1", "moves(0, 7) 6", "does(0, 1, 0) 1",
            "moves(0, 8) 7", "now(2) 8", "does(0, 1, 0) 1", "now(2) 9", "undo() 9", "now(2) 8");
    }
}
