/** Promises 13 to 18 at their bounds: ways, flows, needs, odds, carriages. */
public final class WaysBoundsTest {
    private static final String NINE_NARROW = "tell(y2;" + "s0 1 0;".repeat(9) + ") 10",
        NINE_WIDE = "tell(y2;" + "s1 0 9;".repeat(9) + ") 10";
    // All yards in a row, and in a ring, which two narrow streets close.
    private static final String ROW = "tell(y8;s0 1 4;s1 2 4;s2 3 4;s3 4 4;s4 5 4;s5 6 4;s6 7 4;) 8";
    private static final String RING = "tell(y8;s0 1 4;s1 2 4;s2 3 4;s3 4 4;s4 5 4;s5 6 4;s6 7 4;s7 0 3;s7 0 2;) 10";
    private static final String APART = "tell(y5;s0 1 2;s2 3 4;) 3";
    private static final String FAKED = "tell(s0 1 3;c0 5;c0 5;c0 5;) 4";

    public static void main(String[] args) {
        yards();
        widest();
        way();
        flow();
        narrows();
        need();
        needOfSeveral();
        oddsAtTheEnds();
        oddsInLeastTerms();
        whoAsks();
        carriagesByWidth();
        carriagesOfAll();
        carriagesOfSeveral();
        Check.end();
    }

    private static void yards() {
        for (String row : new String[] {"13 widest(%s)", "14 way(%s, 1)", "15 flow(%s, 0)", "15 flow(%s, 1)",
            "16 need(%s, 1)", "17 odds(%s, 5, 0)", "17 odds(%s, 5, 1)"}) {
            String name = "promise " + row.substring(0, 2) + ": ";
            String call = row.substring(3);
            for (int told : new int[] {2, 5, 8}) {
                String town = "tell(y" + told + ";) 1";
                for (String bad : new String[] {"-1, 0", "0, -1", told + ", 0", "0, " + told, "0, 0",
                    told - 1 + ", " + (told - 1), told + ", " + told}) {
                    Case.holds(name + "no two yards of " + told, town, String.format(call, bad) + " BAD");
                }
                for (String good : new String[] {"0, " + (told - 1), told - 1 + ", 0"}) {
                    Case asked = new Case();
                    asked.go(name + "the first and the last yard of " + told, town);
                    Check.due(name + String.format(call, good) + " is not refused",
                        asked.ask(String.format(call, good)) == KindStreets.BAD ? 1 : 0, 0);
                }
            }
        }
    }

    private static void widest() {
        Case.holds("promise 13: the narrowest that is widest", NINE_NARROW, "widest(0, 1) 1", "widest(1, 0) 1");
        Case.holds("promise 13: the widest that is widest", NINE_WIDE, "widest(0, 1) 10", "widest(1, 0) 10");
        Case.holds("promise 13: the longest way", ROW, "widest(0, 7) 5", "widest(7, 0) 5");
        Case.holds("promise 13: the longest way is wider", RING, "widest(0, 7) 5", "widest(7, 0) 5");
        Case.holds("promise 13: no way", APART, "widest(0, 2) NONE", "widest(3, 1) NONE");
        Case.holds("promise 13: a yard without streets", APART, "widest(0, 4) NONE", "widest(4, 0) NONE");
        Case.holds("promise 13: no streets", "widest(0, 1) NONE");
        Case.holds("promise 13: the last street of nine", "tell(" + "s0 1 9;".repeat(8) + "s1 2 0;) 9",
            "widest(0, 2) 1", "widest(2, 0) 1", "widest(0, 1) 10");
        Case.holds("promise 13: of ways that are alike in their widest", "tell(s0 1 9;s1 2 1;s0 2 1;) 3",
            "widest(0, 2) 2");
        Case.holds("promise 13: false by day, not by night", FAKED, "does(0, 9, 1) 10", "widest(0, 1) 10",
            "night(1) 4", "widest(0, 1) 4");
    }

    private static void way() {
        Case.holds("promise 14: less than a width", NINE_WIDE, "way(0, 1, 0) BAD");
        Case.holds("promise 14: the least width", NINE_NARROW, "way(0, 1, 1) 1", "way(0, 1, 2) NONE");
        Case.holds("promise 14: the greatest width", NINE_WIDE, "way(0, 1, 10) 1");
        Case.holds("promise 14: more than a width", NINE_WIDE, "way(0, 1, 11) BAD");
        Case.holds("promise 14: that width and no more", ROW, "way(0, 1, 5) 1", "way(0, 1, 6) NONE");
        Case.holds("promise 14: the longest way", ROW, "way(0, 7, 5) 7", "way(7, 0, 5) 7", "way(0, 7, 6) NONE");
        Case.holds("promise 14: the fewest streets, as wide as that", RING, "way(0, 7, 4) 1", "way(0, 7, 5) 7",
            "way(7, 0, 4) 1", "way(7, 0, 5) 7");
        Case.holds("promise 14: as far on either side", RING, "way(0, 4, 4) 4", "way(4, 0, 4) 4",
            "way(0, 5, 4) 3", "way(0, 5, 5) 5");
        Case.holds("promise 14: no way", APART, "way(0, 2, 1) NONE", "way(0, 4, 1) NONE", "way(4, 0, 1) NONE");
        Case.holds("promise 14: no streets", "way(0, 1, 1) NONE");
        Case.holds("promise 14: false by day, not by night", FAKED, "does(0, 9, 1) 10", "way(0, 1, 10) 1",
            "night(1) 4", "way(0, 1, 10) NONE", "way(0, 1, 4) 1");
    }

    private static void flow() {
        Case.holds("promise 15: the first and the last that may be asked", NINE_WIDE, "flow(0, 1, -1) BAD",
            "flow(0, 1, 0) 90", "flow(0, 1, 1) 511", "flow(0, 1, 2) BAD");
        Case.holds("promise 15: no way", APART, "flow(0, 2, 0) 0", "flow(0, 2, 1) 0", "flow(4, 0, 0) 0",
            "flow(4, 0, 1) 0");
        Case.holds("promise 15: no streets", "flow(0, 1, 0) 0", "flow(0, 1, 1) 0");
        Case.holds("promise 15: the least", "tell(s0 1 0;) 1", "flow(0, 1, 0) 1", "flow(0, 1, 1) 1");
        Case.holds("promise 15: the most", NINE_WIDE, "flow(0, 1, 0) 90", "flow(1, 0, 0) 90");
        Case.holds("promise 15: nine narrow ones", NINE_NARROW, "flow(0, 1, 0) 9", "flow(0, 1, 1) 511");
        Case.holds("promise 15: the last street of nine", "tell(" + "s0 1 9;".repeat(8) + "s1 2 0;) 9",
            "flow(0, 2, 0) 1", "flow(0, 2, 1) 256", "flow(2, 0, 1) 256", "flow(0, 1, 0) 80", "flow(0, 1, 1) 255");
        Case.holds("promise 15: eight yards, on either side", RING, "flow(0, 7, 0) 12", "flow(0, 7, 1) 385",
            "flow(7, 0, 0) 12", "flow(3, 4, 0) 10", "flow(3, 4, 1) 9");
        Case.holds("promise 15: in the midst", "tell(y6;s0 1 9;s0 2 9;s1 3 0;s2 3 0;s3 4 9;s3 5 9;s4 5 9;) 8",
            "flow(0, 5, 0) 2", "flow(0, 5, 1) 12", "flow(5, 0, 1) 12");
        Case.holds("promise 15: false by day, not by night", FAKED, "does(0, 9, 1) 10", "flow(0, 1, 0) 10",
            "night(1) 4", "flow(0, 1, 0) 4");
    }

    private static void narrows() {
        Case.holds("promise 15: less together, though more streets", "tell(s0 1 0;s0 1 0;s1 2 2;) 3",
            "flow(0, 2, 0) 2", "flow(0, 2, 1) 3");
        Case.holds("promise 15: as much together: fewer streets", "tell(s0 1 0;s0 1 0;s1 2 1;) 3",
            "flow(0, 2, 0) 2", "flow(0, 2, 1) 4", "flow(2, 0, 1) 4");
        Case.holds("promise 15: more together, though fewer streets", "tell(s0 1 1;s1 2 0;s1 2 1;) 3",
            "flow(0, 2, 0) 2", "flow(0, 2, 1) 1");
        Case.holds("promise 15: as many: the least bits", ROW, "flow(0, 7, 1) 1", "flow(7, 0, 1) 1",
            "flow(1, 7, 1) 2", "flow(7, 6, 1) 64");
        Case.holds("promise 15: as many: the least bits, not the lowest street",
            "tell(y3;s0 1 0;s1 2 0;s1 2 0;s0 1 0;) 5", "flow(0, 2, 0) 2", "flow(0, 2, 1) 6");
        Case.holds("promise 15: the last as good as the first but one", "tell(s1 2 3;s0 1 3;) 2",
            "flow(0, 2, 1) 1", "flow(2, 0, 1) 1");
        Case.holds("promise 15: eight streets as much as one", "tell(" + "s0 1 0;".repeat(8) + "s1 2 7;) 9",
            "flow(0, 2, 0) 8", "flow(0, 2, 1) 256");
        Case.holds("promise 15: eight streets less than one", "tell(" + "s0 1 0;".repeat(8) + "s1 2 8;) 9",
            "flow(0, 2, 0) 8", "flow(0, 2, 1) 255");
    }

    private static void need() {
        Case.holds("promise 16: less than a width", NINE_WIDE, "need(0, 1, 0) BAD");
        Case.holds("promise 16: the least width: none must", NINE_NARROW, "need(0, 1, 1) 0");
        Case.holds("promise 16: the greatest width: one must", NINE_NARROW, "need(0, 1, 10) 1");
        Case.holds("promise 16: the greatest width: none must", NINE_WIDE, "need(0, 1, 10) 0");
        Case.holds("promise 16: more than a width", NINE_WIDE, "need(0, 1, 11) BAD");
        Case.holds("promise 16: wide enough and no more", ROW, "need(0, 1, 5) 0", "need(0, 1, 6) 1");
        Case.holds("promise 16: the longest way", ROW, "need(0, 7, 6) 127", "need(7, 0, 6) 127", "need(0, 7, 5) 0");
        Case.holds("promise 16: no way at all", APART, "need(0, 2, 1) NONE", "need(0, 2, 10) NONE",
            "need(0, 4, 1) NONE", "need(4, 0, 10) NONE");
        Case.holds("promise 16: no streets", "need(0, 1, 1) NONE");
        Case.holds("promise 16: the last street of nine", "tell(" + "s0 1 9;".repeat(8) + "s1 2 0;) 9",
            "need(0, 2, 2) 256", "need(2, 0, 10) 256", "need(0, 2, 1) 0");
        Case.holds("promise 16: false by day, not by night", FAKED, "does(0, 9, 1) 10", "need(0, 1, 10) 0",
            "night(1) 4", "need(0, 1, 10) 1");
    }

    private static void needOfSeveral() {
        Case.holds("promise 16: the fewest, though not the least bits", "tell(s0 1 0;s1 2 0;s0 2 0;) 3",
            "need(0, 2, 2) 4", "need(2, 0, 2) 4");
        Case.holds("promise 16: the fewest, though by more streets", RING, "need(0, 7, 5) 0", "need(0, 7, 6) 128");
        Case.holds("promise 16: as many: the least bits", "tell(s0 2 0;s0 2 0;) 2", "need(0, 2, 2) 1");
        Case.holds("promise 16: as many: the least bits, not the lowest street",
            "tell(s1 2 0;s0 3 0;s3 2 0;s0 1 0;) 4", "need(0, 2, 2) 6", "need(2, 0, 2) 6");
        Case.holds("promise 16: round by wide ones", "tell(y5;s0 1 9;s1 2 9;s2 3 9;s3 4 0;s0 4 0;) 6",
            "need(0, 4, 5) 8", "need(4, 0, 5) 8");
    }

    private static void oddsAtTheEnds() {
        fraction("promise 17: none falls shut", ROW, "0, 7, 0", 1, 1);
        fraction("promise 17: all fall shut", ROW, "0, 7, 10", 0, 1);
        fraction("promise 17: none falls shut, no way", APART, "0, 2, 0", 0, 1);
        fraction("promise 17: no way", APART, "0, 2, 1", 0, 1);
        fraction("promise 17: no way, all fall shut", APART, "4, 0, 10", 0, 1);
        fraction("promise 17: nine that never fall shut", NINE_NARROW, "0, 1, 0", 1, 1);
        fraction("promise 17: nine that always fall shut", NINE_NARROW, "0, 1, 10", 0, 1);
        Case.holds("promise 17: no streets", "odds(0, 1, 0, 0) 0", "odds(0, 1, 0, 1) 1", "odds(0, 1, 10, 0) 0",
            "odds(0, 1, 10, 1) 1");
        Case.holds("promise 17: less than 0 of 10", ROW, "odds(0, 7, -1, 0) BAD", "odds(0, 7, -1, 1) BAD");
        Case.holds("promise 17: more than 10 of 10", ROW, "odds(0, 7, 11, 0) BAD", "odds(0, 7, 11, 1) BAD");
        Case.holds("promise 17: the first and the last that may be asked", ROW, "odds(0, 7, 5, -1) BAD",
            "odds(0, 7, 5, 0) 1", "odds(0, 7, 5, 1) 128", "odds(0, 7, 5, 2) BAD");
    }

    private static void oddsInLeastTerms() {
        fraction("promise 17: 9 of 10", "tell(s0 1 0;) 1", "0, 1, 1", 9, 10);
        fraction("promise 17: 8 of 10", "tell(s0 1 0;) 1", "0, 1, 2", 4, 5);
        fraction("promise 17: 5 of 10", "tell(s0 1 0;) 1", "0, 1, 5", 1, 2);
        fraction("promise 17: 1 of 10", "tell(s0 1 0;) 1", "1, 0, 9", 1, 10);
        fraction("promise 17: streets that lead elsewhere change nothing", "tell(s0 1 0;s1 2 0;s2 3 0;) 3",
            "0, 1, 1", 9, 10);
        fraction("promise 17: the greatest lower number", NINE_NARROW, "0, 1, 1", 999999999, 1000000000);
        fraction("promise 17: the greatest lower number, 9 of 10", NINE_NARROW, "1, 0, 9", 612579511, 1000000000);
        fraction("promise 17: 2 to the 9", NINE_NARROW, "0, 1, 5", 511, 512);
        fraction("promise 17: 5 to the 9", NINE_NARROW, "0, 1, 2", 1953124, 1953125);
        fraction("promise 17: seven in a row, 9 of 10", ROW, "7, 0, 9", 1, 10000000);
        fraction("promise 17: seven in a row, 1 of 10", ROW, "7, 0, 1", 4782969, 10000000);
        fraction("promise 17: by a bridge", "tell(s0 1 0;s0 2 0;s1 2 0;s1 3 0;s2 3 0;) 5", "0, 3, 5", 1, 2);
        fraction("promise 17: as wide as they are is nothing to it", "tell(s0 1 9;s0 1 0;) 2", "0, 1, 1", 99, 100);
    }

    private static void fraction(String name, String town, String numbers, int upper, int lower) {
        Case.holds(name, town, "odds(" + numbers + ", 0) " + upper, "odds(" + numbers + ", 1) " + lower);
    }

    private static void whoAsks() {
        String six = "tell(s0 1 0;c0 1;c0 1;c0 1;c0 1;c0 1;c0 1;) 7";
        Case.holds("promise 18: how many", six, "carriage(-1) 1");
        Case.holds("promise 18: below that", six, "carriage(-2) BAD");
        Case.holds("promise 18: the first citizen", six, "carriage(0) 0");
        Case.holds("promise 18: the last citizen", six, "carriage(5) NONE");
        Case.holds("promise 18: behind the last citizen", six, "carriage(6) BAD");
        Case.holds("promise 18: behind the last citizen of one", "tell(s0 1 0;c0 1;) 2", "carriage(0) 0",
            "carriage(1) BAD");
        Case.holds("promise 18: nobody", "tell(s0 1 0;) 1", "carriage(-1) 0", "carriage(0) BAD");
        Case.holds("promise 18: no streets", "carriage(-1) 0", "carriage(0) BAD", "carriage(-2) BAD");
    }

    private static void carriagesByWidth() {
        Case.holds("promise 18: as wide as he wants", "tell(s0 1 4;c0 5;) 2", "carriage(-1) 1", "carriage(0) 0");
        Case.holds("promise 18: less wide than he wants", "tell(s0 1 4;c0 6;) 2", "carriage(-1) 0",
            "carriage(0) NONE");
        Case.holds("promise 18: wider than he wants", "tell(s0 1 4;c0 4;) 2", "carriage(-1) 1", "carriage(0) 0");
        Case.holds("promise 18: the least he may want, the narrowest", "tell(s0 1 0;c0 1;) 2", "carriage(0) 0");
        Case.holds("promise 18: the most he may want, the widest", "tell(s0 1 9;c0 10;) 2", "carriage(0) 0");
        Case.holds("promise 18: the most he may want, one less", "tell(s0 1 8;c0 10;) 2", "carriage(0) NONE");
        Case.holds("promise 18: false by day, not by night", FAKED, "carriage(-1) 0", "does(0, 4, 1) 5",
            "carriage(-1) 1", "carriage(0) 0", "night(1) 4", "carriage(-1) 0", "carriage(0) NONE");
    }

    private static void carriagesOfAll() {
        Case.holds("promise 18: no two have one", "tell(s0 1 9;c0 1;c0 1;) 3", "carriage(-1) 1", "carriage(0) 0",
            "carriage(1) NONE");
        Case.holds("promise 18: all six", "tell(" + "s0 1 0;".repeat(9) + "c8 1;".repeat(6) + ") 15",
            "carriage(-1) 6", "carriage(0) 0", "carriage(1) 1", "carriage(2) 2", "carriage(3) 3", "carriage(4) 4",
            "carriage(5) 5");
        Case.holds("promise 18: none of six", "tell(" + "s0 1 0;".repeat(9) + "c0 2;".repeat(6) + ") 15",
            "carriage(-1) 0", "carriage(0) NONE", "carriage(5) NONE");
        Case.holds("promise 18: the last street of nine",
            "tell(" + "s0 1 0;".repeat(8) + "s0 1 9;" + "c0 10;".repeat(6) + ") 15", "carriage(-1) 1",
            "carriage(0) 8", "carriage(1) NONE", "carriage(5) NONE");
        Case.holds("promise 18: the last citizen alone", "tell(s0 1 0;" + "c0 2;".repeat(5) + "c0 1;) 7",
            "carriage(-1) 1", "carriage(0) NONE", "carriage(4) NONE", "carriage(5) 0");
    }

    private static void carriagesOfSeveral() {
        Case.holds("promise 18: most go ahead of the first", "tell(s0 1 9;s0 1 0;c0 1;c0 10;) 4", "carriage(-1) 2",
            "carriage(0) 1", "carriage(1) 0");
        Case.holds("promise 18: the lowest street, though another needs no other",
            "tell(s0 1 5;s0 1 5;c1 6;c0 6;) 4", "carriage(0) 0", "carriage(1) 1");
        Case.holds("promise 18: the lowest street, as the widest is for another", "tell(s0 1 9;s0 1 5;s0 1 4;c0 1;c0 10;) 5",
            "carriage(0) 1", "carriage(1) 0");
        Case.holds("promise 18: none is last: the first has one", "tell(s0 1 5;c0 1;c0 6;) 3", "carriage(-1) 1",
            "carriage(0) 0", "carriage(1) NONE");
        Case.holds("promise 18: the lowest for the first, though his gift costs another his",
            "tell(s0 1 9;s0 1 1;s0 1 5;c0 1;c0 6;c0 10;c0 2;) 7", "carriage(-1) 3", "carriage(0) 0",
            "carriage(1) 2", "carriage(2) NONE", "carriage(3) 1");
        Case.holds("promise 18: a chain of three", "tell(s0 1 9;s0 1 5;s0 1 1;c0 2;c0 6;c0 10;) 6", "carriage(-1) 3",
            "carriage(0) 2", "carriage(1) 1", "carriage(2) 0");
    }
}
