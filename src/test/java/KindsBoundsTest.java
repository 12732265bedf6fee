/** Promises 23 to 27 at their bounds: marks, images, counts, the trace. */
public final class KindsBoundsTest {
    private static final String ONE = "tell(s0 1 3;c0 1;) 2";
    // Nine streets between two yards: each has a yard of all; six citizens in the last.
    private static final String NINE = "tell(" + "s0 1 9;".repeat(9) + "c8 1;".repeat(6) + ") 15";
    private static final String[] TEN = {"night(1) 4", "9 * does(0, 5, 0) 4"};

    public static void main(String[] args) {
        whatIsMarked();
        leastMarks();
        greatestMarks();
        marksOfNow();
        whichImages();
        images();
        imagesOfWhatMayBeUndone();
        imagesOfTen();
        nothingElseIsKept();
        counts();
        traceOfKinds();
        traceStays();
        lastCall();
        Check.end();
    }

    private static void whatIsMarked() {
        Case.holds("promise 23: the first kind", ONE, "mark(-1, 0) NO", "mark(0, 0) 4");
        Case.holds("promise 23: the last kind", ONE, "mark(5, 0) 5", "mark(6, 0) NO");
        Case.holds("promise 23: the first street", NINE, "mark(0, -1) NO", "mark(0, 0) 10");
        Case.holds("promise 23: the last street", NINE, "mark(0, 8) 10", "mark(0, 9) NO");
        Case.holds("promise 23: the last street of one", ONE, "mark(0, 1) NO", "mark(5, 1) NO");
        Case.holds("promise 23: no streets", "mark(0, 0) NO", "mark(5, 0) NO");
        Case.holds("promise 23: of each kind", "tell(s0 1 2;s1 2 4;c1 1;c1 1;) 4", "mark(0, 1) 5", "mark(1, 1) 7",
            "mark(2, 1) 5", "mark(3, 1) 14", "mark(4, 1) 6", "mark(5, 1) 7");
        Case.holds("promise 23: what is refused comes to no trace", ONE, "mark(-1, 0) NO", "mark(6, 0) NO",
            "mark(0, -1) NO", "mark(5, 1) NO", "trace() 0");
    }

    private static void leastMarks() {
        String[] least = {"tell(s0 1 0;c0 1;) 2", "does(0, 9, 0) 1"};
        holds("promise 23: a LANE below 0", least, "mark(2, 0) -8");
        holds("promise 23: a COURT below 0", least, "mark(4, 0) -8");
        holds("promise 23: a LANE that is as BAD is", new String[] {"tell(s0 1 0;c0 1;) 2", "does(0, 2, 0) 1"},
            "mark(2, 0) -1", "mark(4, 0) -1");
        holds("promise 23: a LANE of 0", new String[] {"tell(s0 1 0;c0 1;) 2", "does(0, 1, 0) 1"}, "mark(2, 0) 0");
        Case.holds("promise 23: a CROSS in which nobody lives", "tell(s0 1 0;) 1", "mark(1, 0) 1", "mark(3, 0) 2");
        Case.holds("promise 23: a LANE in which nothing is hidden", "tell(s0 1 0;) 1", "mark(2, 0) 1");
        Case.holds("promise 23: a COURT whose number is 0", "tell(s0 1 0;) 1", "mark(4, 0) 1");
        Case.holds("promise 23: an ALLEY with no yard of another", "tell(s0 1 0;s2 3 0;) 2", "mark(5, 0) 2",
            "mark(5, 1) 2");
    }

    private static void greatestMarks() {
        Case.holds("promise 23: a STREET as wide as may be", NINE, "mark(0, 8) 10");
        Case.holds("promise 23: a CROSS in which all live", NINE, "mark(1, 8) 16", "mark(1, 7) 10");
        Case.holds("promise 23: a BOULEVARD in which all live", NINE, "mark(3, 8) 32", "mark(3, 7) 20");
        Case.holds("promise 23: a COURT with the last number", NINE, "mark(4, 8) 18");
        Case.holds("promise 23: an ALLEY with a yard of all, itself too", NINE, "mark(5, 8) 19", "mark(5, 0) 19");
        Case.holds("promise 23: an ALLEY with either of its yards",
            "tell(y6;s1 2 0;s0 1 0;s1 0 0;s2 3 0;s3 2 0;s4 5 0;) 7", "mark(5, 0) 6", "mark(5, 1) 4", "mark(5, 5) 2");
    }

    private static void marksOfNow() {
        String[] faked = {"tell(s0 1 3;c0 1;c0 1;c0 1;) 4", "does(0, 9, 1) 10"};
        holds("promise 23: a false one by day", faked, "mark(0, 0) 10", "mark(3, 0) 26");
        holds("promise 23: a false one by night", faked, "night(1) 4", "mark(0, 0) 4", "mark(3, 0) 14");
        Case.holds("promise 23: who lives in it now", "tell(s0 1 3;s1 2 0;c0 1;) 3", "moves(0, 1) 0", "mark(1, 0) 4",
            "mark(1, 1) 2");
        Case.holds("promise 23: what is hidden now", ONE, "does(0, 5, 0) 4", "mark(2, 0) -1", "wills(0) 5",
            "mark(2, 0) 6");
    }

    private static void whichImages() {
        Case.holds("promise 24: the first and the last image", ONE, "keep(-1) BAD", "keep(0) 0", "keep(1) 0",
            "keep(2) BAD");
        Case.holds("promise 24: what is refused keeps nothing", ONE, "keep(-1) BAD", "keep(2) BAD", "back(0) STATE",
            "back(1) STATE");
        Case.holds("promise 24: by day and by night", ONE, "keep(0) 0", "night(1) 4", "keep(1) 1", "keep(0) 1");
        Case.holds("promise 25: the first and the last image", ONE, "keep(0) 0", "keep(1) 0", "back(-1) BAD",
            "back(0) 0", "back(1) 0", "back(2) BAD");
        Case.holds("promise 25: none was kept", ONE, "back(0) STATE", "back(1) STATE");
        Case.holds("promise 25: the other one was kept", ONE, "keep(0) 0", "back(1) STATE", "back(0) 0");
        Case.holds("promise 25: the other one was kept, the last", ONE, "keep(1) 0", "back(0) STATE", "back(1) 0");
        Case.holds("promise 25: BAD ahead of STATE", "back(-1) BAD", "back(2) BAD");
        Case.holds("promise 25: by day and by night", ONE, "keep(0) 0", "night(1) 4", "keep(1) 1", "back(0) 0",
            "now(0) 0", "back(1) 1", "now(0) 1");
        Case.holds("promise 25: gone when read anew", ONE, "keep(0) 0", "keep(1) 0", "tell(s0 1 3;c0 1;) 2",
            "back(0) STATE", "back(1) STATE");
        Case.holds("promise 25: not gone by a faulty text", ONE, "keep(0) 0", "keep(1) 0", "tell(x) -10", "back(0) 0",
            "back(1) 0");
        Case.holds("promise 25: of a new object", "keep(0) 0", "night(1) 0", "back(0) 0", "count(4) 0");
    }

    private static void images() {
        Case.holds("promise 25: what is seen", "tell(s0 1 3;c0 1;c0 1;c0 1;) 4", "keep(0) 0", "does(0, 9, 0) 10",
            "back(0) 0", "street(0, 2) 3");
        Case.holds("promise 25: what is false", "tell(s0 1 3;c0 1;c0 1;c0 1;) 4", "keep(0) 0", "does(0, 9, 1) 10",
            "back(0) 0", "street(0, 4) 0");
        Case.holds("promise 25: what is hidden", ONE, "keep(0) 0", "does(0, 9, 0) 4", "back(0) 0", "street(0, 3) 0");
        Case.holds("promise 25: where citizens live", NINE, "keep(0) 0", "moves(0, 0) 8", "moves(5, 3) 8", "back(0) 0",
            "citizen(0, 0) 8", "citizen(5, 0) 8", "street(8, 6) 63");
        Case.holds("promise 25: in the last street", "tell(" + "s0 1 3;".repeat(9) + "c8 1;c8 1;c8 1;) 12",
            "does(0, 5, 0) 6", "does(0, 6, 1) 7", "keep(1) 0", "does(0, 8, 0) 9", "does(0, 9, 1) 10", "back(1) 0",
            "street(8, 2) 5", "street(8, 4) 6");
        Case.holds("promise 25: as often as one likes", ONE, "keep(0) 0", "night(1) 4", "back(0) 0", "night(1) 4",
            "back(0) 0", "now(0) 0", "count(4) 0");
        Case.holds("promise 25: an image is not changed by what is done later", ONE, "does(0, 2, 0) 4", "keep(0) 0",
            "back(0) 0", "does(0, 9, 0) 4", "back(0) 0", "street(0, 3) 2");
        Case.holds("promise 25: images are two", ONE, "does(0, 2, 0) 4", "keep(0) 0", "does(0, 5, 0) 4", "keep(1) 0",
            "back(0) 0", "street(0, 3) 2", "back(1) 0", "street(0, 3) 5");
        Case.holds("promise 24: kept anew, the older one is gone", ONE, "keep(0) 0", "does(0, 5, 0) 4", "keep(0) 0",
            "does(0, 7, 0) 4", "back(0) 0", "street(0, 3) 5");
        Case.holds("promise 24: what is kept is not changed", ONE, "does(0, 5, 0) 4", "night(1) 4", "keep(0) 1",
            "street(0, 3) 5", "now(0) 1", "count(4) 2");
    }

    private static void imagesOfWhatMayBeUndone() {
        Case.holds("promise 25: nothing may be undone", ONE, "keep(0) 0", "night(1) 4", "back(0) 0", "count(4) 0",
            "undo() STATE");
        Case.holds("promise 25: what may be undone", ONE, "does(0, 2, 0) 4", "does(0, 5, 0) 4", "keep(0) 0", "undo() 1",
            "undo() 0", "back(0) 0", "count(4) 2", "undo() 1", "street(0, 3) 2", "undo() 0", "street(0, 3) 0",
            "undo() STATE");
        Case.holds("promise 25: going back can't be undone", ONE, "keep(0) 0", "back(0) 0", "count(4) 0",
            "undo() STATE");
        Case.holds("promise 24: keeping can't be undone", ONE, "keep(0) 0", "count(4) 0", "undo() STATE", "back(0) 0");
        Case.holds("promise 25: what is undone in an image stays in it", ONE, "does(0, 2, 0) 4", "keep(0) 0",
            "back(0) 0", "undo() 0", "night(1) 4", "back(0) 0", "count(4) 1", "undo() 0", "street(0, 3) 0", "now(0) 0");
    }

    private static void imagesOfTen() {
        String[] undone = {"undo() 9", "undo() 8", "undo() 7", "undo() 6", "undo() 5", "undo() 4", "undo() 3",
            "undo() 2", "undo() 1"};
        Case ten = new Case();
        String name = "promise 25: ten may be undone";
        ten.go(name, ONE);
        ten.go(name, TEN);
        ten.go(name, "keep(1) 1", "10 * does(0, 7, 0) 4", "back(1) 1", "count(4) 10", "street(0, 3) 5");
        ten.go(name, undone);
        ten.go(name, "street(0, 3) 0", "now(0) 1", "undo() 0", "now(0) 0", "undo() STATE");
        Case more = new Case();
        name = "promise 25: an eleventh behind an image of ten";
        more.go(name, ONE);
        more.go(name, TEN);
        more.go(name, "keep(0) 1", "back(0) 1", "does(0, 8, 0) 4", "count(4) 10");
        more.go(name, undone);
        more.go(name, "street(0, 3) 5", "undo() 0", "street(0, 3) 0", "now(0) 1", "undo() STATE", "back(0) 1",
            "count(4) 10", "street(0, 3) 5");
    }

    private static void nothingElseIsKept() {
        Case.holds("promise 25: not the text", ONE, "type(121) 1", "keep(0) 0", "type(50) 2", "back(0) 0", "count(5) 2");
        Case.holds("promise 25: not what is measured", ONE, "measures(4, 0) 1", "keep(0) 0", "measures(5, 0) 2",
            "back(0) 0", "count(3) 2", "forget() 2", "back(0) 0", "count(3) 0");
        Case.holds("promise 25: not the trace", ONE, "mark(0, 0) 4", "keep(0) 0", "mark(1, 0) 5", "back(0) 0",
            "trace() 12");
        Case.holds("promise 25: not the other image", ONE, "keep(0) 0", "night(1) 4", "keep(1) 1", "back(0) 0",
            "back(1) 1");
    }

    private static void counts() {
        Case.holds("promise 26: the first that may be asked", "count(-1) BAD", "count(0) 4");
        Case.holds("promise 26: the last that may be asked", "count(5) 0", "count(6) BAD");
        Case.holds("promise 26: the fewest yards", "tell(y2;) 1", "count(0) 2");
        Case.holds("promise 26: the most yards", "tell(y8;) 1", "count(0) 8");
        Case.holds("promise 26: no streets, no citizens", "tell(y2;) 1", "count(1) 0", "count(2) 0");
        Case.holds("promise 26: the most streets, the most citizens", NINE, "count(1) 9", "count(2) 6");
        Case.holds("promise 26: nothing measured", "count(3) 0");
        Case.holds("promise 26: the most measured", "measures(1, 0) 1", "measures(1, 1) 2", "measures(1, 0) 3",
            "measures(1, 1) 4", "measures(1, 0) FULL", "count(3) 4");
        Case.holds("promise 26: nothing may be undone", ONE, "count(4) 0");
        holds("promise 26: the most that may be undone", new String[] {ONE}, "night(1) 4", "8 * does(0, 5, 0) 4",
            "count(4) 9", "does(0, 5, 0) 4", "count(4) 10", "does(0, 5, 0) 4", "count(4) 10", "undo() 9", "count(4) 9");
        Case.holds("promise 26: no bytes", "count(5) 0");
        Case.holds("promise 26: the most bytes", "types(" + "x".repeat(120) + ") 120", "count(5) 120",
            "type(32) FULL", "count(5) 120");
        Case.holds("promise 26: a faulty text stays", "tell(x) -10", "count(5) 1");
    }

    private static void traceOfKinds() {
        Case.holds("promise 27: nothing was asked", ONE, "trace() 0");
        Case.holds("promise 27: STREET", ONE, "mark(0, 0) 4", "trace() 1", "trace() 1");
        Case.holds("promise 27: CROSS, and up", ONE, "mark(1, 0) 5", "trace() 11");
        Case.holds("promise 27: LANE, and up", ONE, "mark(2, 0) 4", "trace() 101");
        Case.holds("promise 27: BOULEVARD, and up, and up", ONE, "mark(3, 0) 10", "trace() 1011");
        Case.holds("promise 27: COURT, and up, and up", ONE, "mark(4, 0) 4", "trace() 10101");
        Case.holds("promise 27: ALLEY, and up", ONE, "mark(5, 0) 5", "trace() 100001");
        Case.holds("promise 27: as often as it is asked", ONE, "12 * mark(0, 0) 4", "trace() 12", "10 * mark(1, 0) 5",
            "trace() 122");
    }

    private static void traceStays() {
        Case.holds("promise 27: when refused", ONE, "mark(0, 0) 4", "mark(6, 0) NO", "mark(0, 1) NO", "trace() 1");
        Case.holds("promise 27: when undone", ONE, "night(1) 4", "mark(0, 0) 4", "undo() 0", "trace() 1");
        Case.holds("promise 27: when an image comes back", ONE, "keep(0) 0", "mark(0, 0) 4", "back(0) 0", "trace() 1");
        Case.holds("promise 27: when read anew", ONE, "mark(0, 0) 4", "tell(y2;) 1", "trace() 1", "clear() 0",
            "trace() 1");
        Case.holds("promise 27: no other question comes to it", ONE, "street(0, 5) 4", "now(1) 4", "widest(0, 1) 4",
            "way(0, 1, 1) 1", "flow(0, 1, 0) 4", "need(0, 1, 1) 0", "odds(0, 1, 1, 0) 9", "carriage(0) 0", "trace() 0");
    }

    /** Each of these makes 512 calls, as many as an object is used for. */
    private static void lastCall() {
        Case.holds("promise 27: the 512th call", "tell(s0 1 3;s0 1 0;) 2", "495 * mark(5, 1) 3", "trace() 49500495",
            "trace() 49500495");
        Case.holds("promise 2: the 512th call", "256 * clear() 0", "types(" + "x".repeat(120) + ") 120",
            "135 * type(32) FULL", "type(256) BAD");
        Case.holds("promise 11: the 512th call", ONE, "498 * does(0, 5, 0) 4", "count(4) 10");
    }

    private static void holds(String name, String[] made, String... steps) {
        Case both = new Case();
        both.go(name, made);
        both.go(name, steps);
    }
}
