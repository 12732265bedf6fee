/** Promises 19 to 22 at their bounds: what was measured, and the deeds by which it is so. */
public final class MeasuresBoundsTest {
    public static void main(String[] args) {
        widths();
        fourAtMost();
        forgetting();
        deedsThatMayBeAsked();
        deedsByDay();
        deedsByNight();
        deedsByBoth();
        when();
        Check.end();
    }

    private static void widths() {
        Case.holds("promise 19: less than a width", "measures(0, 0) BAD", "measures(0, 1) BAD", "count(3) 0");
        Case.holds("promise 19: the least width", "measures(1, 0) 1", "deeds(0) 1");
        Case.holds("promise 19: the greatest width", "measures(10, 0) 1", "deeds(0) 19");
        Case.holds("promise 19: more than a width", "measures(11, 0) BAD", "measures(11, 1) BAD", "count(3) 0");
        Case.holds("promise 19: below day", "measures(1, -1) BAD", "count(3) 0", "deeds(0) 100");
        Case.holds("promise 19: above night", "measures(1, 2) BAD", "count(3) 0", "deeds(0) 100");
        Case.holds("promise 19: by day", "measures(4, 0) 1", "deeds(0) 7");
        Case.holds("promise 19: by night", "measures(4, 1) 1", "deeds(0) 10");
        Case.holds("promise 19: by night, whatever time it is", "night(1) 0", "measures(4, 0) 1", "deeds(0) 7");
    }

    private static void fourAtMost() {
        Case.holds("promise 19: the fourth", "measures(5, 0) 1", "measures(5, 0) 2", "measures(5, 0) 3",
            "measures(5, 0) 4", "count(3) 4");
        Case.holds("promise 19: the fifth", "measures(5, 0) 1", "measures(5, 0) 2", "measures(5, 0) 3",
            "measures(5, 0) 4", "measures(5, 1) FULL", "measures(6, 0) FULL", "count(3) 4", "deeds(0) 9");
        Case.holds("promise 19: BAD ahead of FULL", "measures(5, 0) 1", "measures(5, 0) 2", "measures(5, 0) 3",
            "measures(5, 0) 4", "measures(0, 0) BAD", "measures(11, 0) BAD", "measures(1, -1) BAD",
            "measures(1, 2) BAD", "count(3) 4");
        Case.holds("promise 19: the fourth is as good as the first", "measures(5, 0) 1", "measures(5, 0) 2",
            "measures(5, 0) 3", "measures(4, 1) 4", "deeds(0) 1", "deeds(1) 34");
        Case.holds("promise 19: full no more when forgotten", "measures(5, 0) 1", "measures(5, 0) 2",
            "measures(5, 0) 3", "measures(5, 0) 4", "forget() 4", "measures(2, 1) 1", "deeds(0) 10",
            "deeds(1) 10");
        Case.holds("promise 19: full no more when read anew", "measures(5, 0) 1", "measures(5, 0) 2",
            "measures(5, 0) 3", "measures(5, 0) 4", "town() 0", "measures(2, 1) 1", "deeds(1) 10");
        Case.holds("promise 19: what can't be is measured, too", "measures(5, 0) 1", "measures(6, 0) 2",
            "deeds(0) 0", "count(3) 2");
    }

    private static void forgetting() {
        Case.holds("promise 20: nothing", "forget() 0", "count(3) 0");
        Case.holds("promise 20: one", "measures(5, 0) 1", "forget() 1", "forget() 0", "count(3) 0", "deeds(0) 100");
        Case.holds("promise 20: as many as may be", "measures(5, 0) 1", "measures(5, 0) 2", "measures(5, 0) 3",
            "measures(5, 0) 4", "forget() 4", "forget() 0", "count(3) 0", "deeds(0) 100", "deeds(1) 0", "when() 1");
        Case.holds("promise 20: refused ones are none", "measures(11, 0) BAD", "forget() 0");
        Case.holds("promise 20: it can't be undone", "measures(5, 0) 1", "forget() 1", "count(4) 0", "undo() STATE");
    }

    private static void deedsThatMayBeAsked() {
        Case.holds("promise 21: the first that may be asked", "deeds(-1) BAD", "deeds(0) 100");
        Case.holds("promise 21: the last that may be asked", "deeds(1) 0", "deeds(2) BAD");
        Case.holds("promise 21: nothing measured", "deeds(0) 100", "deeds(1) 0");
        Case.holds("promise 21: none", "measures(5, 0) 1", "measures(6, 0) 2", "deeds(0) 0", "deeds(1) NONE");
    }

    private static void deedsByDay() {
        int[] many = {1, 3, 5, 7, 9, 11, 13, 15, 17, 19};
        for (int width = 1; width <= 10; width++) {
            Case.holds("promise 21: so wide by day", "measures(" + width + ", 0) 1",
                "deeds(0) " + many[width - 1], "deeds(1) " + (width - 1));
        }
    }

    private static void deedsByNight() {
        for (int width = 1; width <= 10; width++) {
            Case.holds("promise 21: so wide by night", "measures(" + width + ", 1) 1", "deeds(0) 10",
                "deeds(1) " + 10 * (width - 1));
        }
    }

    private static void deedsByBoth() {
        Case.holds("promise 21: wider by day", "measures(4, 1) 1", "measures(5, 0) 2", "deeds(0) 1", "deeds(1) 34");
        Case.holds("promise 21: as wide by day", "measures(4, 1) 1", "measures(4, 0) 2", "deeds(0) 4",
            "deeds(1) 30");
        Case.holds("promise 21: less wide by day", "measures(4, 1) 1", "measures(3, 0) 2", "deeds(0) 0",
            "deeds(1) NONE");
        Case.holds("promise 21: the narrowest by both", "measures(1, 1) 1", "measures(1, 0) 2", "deeds(0) 1",
            "deeds(1) 0");
        Case.holds("promise 21: the widest by both", "measures(10, 1) 1", "measures(10, 0) 2", "deeds(0) 10",
            "deeds(1) 90");
        Case.holds("promise 21: the narrowest by night, the widest by day", "measures(1, 1) 1", "measures(10, 0) 2",
            "deeds(0) 1", "deeds(1) 9");
        Case.holds("promise 21: two widths by night", "measures(4, 1) 1", "measures(5, 1) 2", "deeds(0) 0",
            "deeds(1) NONE");
        Case.holds("promise 21: an unknown street, not one of the town", "tell(s0 1 3;) 1", "deeds(0) 100",
            "deeds(1) 0");
    }

    private static void when() {
        Case.holds("promise 22: nothing measured: 19 by day, 10 by night", "when() 1");
        Case.holds("promise 22: like ones: by day", "measures(1, 0) 1", "when() 0");
        Case.holds("promise 22: 3 by day, 2 by night", "measures(2, 0) 1", "when() 1");
        Case.holds("promise 22: 19 by day, 10 by night, the widest", "measures(10, 0) 1", "when() 1");
        Case.holds("promise 22: 10 by night, 1 by day", "measures(1, 1) 1", "when() 0");
        Case.holds("promise 22: 10 by night, 9 by day", "measures(9, 1) 1", "when() 0");
        Case.holds("promise 22: 10 by night, 10 by day", "measures(10, 1) 1", "when() 0");
        Case.holds("promise 22: one is left", "measures(4, 1) 1", "measures(5, 0) 2", "when() 0");
        Case.holds("promise 22: none of them", "measures(5, 0) 1", "measures(6, 0) 2", "when() NONE");
        Case.holds("promise 22: none of them by night", "measures(5, 1) 1", "measures(4, 0) 2", "when() NONE");
        Case.holds("promise 22: whatever time it is", "night(1) 0", "when() 1", "measures(1, 1) 1", "when() 0");
    }
}
