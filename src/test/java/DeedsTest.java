/** Promises 5 to 12: street, citizen, does, wills, moves, night, undo, now. */
public final class DeedsTest {
    // Streets 0 and 1 meet in yard 1, streets 1 and 2 in yard 2; street 3 is apart.
    private static final String ROW = "y6;s0 1 3;s1 2 0;s2 3 5;s4 5 1;c0 1;c0 2;c1 3;c2 4;c3 5;c3 6;";

    public static void main(String[] args) {
        streets();
        citizens();
        seenDeeds();
        hiddenDeeds();
        badDeeds();
        wills();
        moves();
        nights();
        undoing();
        undoesAll();
        Check.end();
    }

    private static void streets() {
        KindStreets x = Check.told(ROW);
        int[][] due = {{0, 1, 3, 0, 0, 4, 3}, {1, 2, 0, 0, 0, 1, 4}, {2, 3, 5, 0, 0, 6, 8},
            {4, 5, 1, 0, 0, 2, 48}};
        for (int s = 0; s < due.length; s++) {
            for (int what = 0; what < due[s].length; what++) {
                Check.due("street(" + s + ", " + what + ")", x.street(s, what), due[s][what]);
            }
        }
        int[][] bad = {{-1, 0}, {4, 0}, {0, -1}, {0, 7}, {Integer.MAX_VALUE, 0},
            {Integer.MIN_VALUE, 0}, {0, Integer.MAX_VALUE}, {0, Integer.MIN_VALUE}};
        for (int[] b : bad) {
            Check.due("street(" + b[0] + ", " + b[1] + ")", x.street(b[0], b[1]), KindStreets.BAD);
        }
    }

    private static void citizens() {
        KindStreets x = Check.told(ROW);
        int[][] due = {{0, 1, 6}, {0, 2, 5}, {1, 3, 11}, {2, 4, 4}, {3, 5, 32}, {3, 6, 16}};
        for (int p = 0; p < due.length; p++) {
            for (int what = 0; what < due[p].length; what++) {
                Check.due("citizen(" + p + ", " + what + ")", x.citizen(p, what), due[p][what]);
            }
        }
        int[][] bad = {{-1, 0}, {6, 0}, {0, -1}, {0, 3}, {Integer.MAX_VALUE, 0},
            {Integer.MIN_VALUE, 2}, {0, Integer.MIN_VALUE}};
        for (int[] b : bad) {
            Check.due("citizen(" + b[0] + ", " + b[1] + ")", x.citizen(b[0], b[1]), KindStreets.BAD);
        }
    }

    private static void seenDeeds() {
        KindStreets x = Check.told(ROW);
        Check.due("less than is seen", x.does(0, 2, 0), 4);
        Check.due("street(0, 2)", x.street(0, 2), 3);
        Check.due("more than is seen", x.does(1, 7, 0), 8);
        Check.due("street(0, 2)", x.street(0, 2), 7);
        Check.due("a false one that is more", x.does(0, 9, 1), 10);
        Check.due("street(0, 4)", x.street(0, 4), 9);
        Check.due("street(0, 2)", x.street(0, 2), 7);
        Check.due("a false one that is less", x.does(0, 8, 1), 10);
        Check.due("street(0, 4)", x.street(0, 4), 9);
        Check.due("street(0, 3)", x.street(0, 3), 0);
        Check.due("three witnesses", x.does(2, 1, 0), 2);
        Check.due("a false one below what is seen", x.does(2, 1, 1), 2);
        Check.due("street(1, 4)", x.street(1, 4), 1);
        Check.due("all widths", x.now(1), 10 + 2 + 6 + 2);
        Check.due("at night", x.night(1), 8 + 2 + 6 + 2);
        Check.due("a false one at night", x.does(0, 9, 1), 8);
        Check.due("by day again", x.night(0), 10 + 2 + 6 + 2);
    }

    private static void hiddenDeeds() {
        KindStreets x = Check.told(ROW);
        Check.due("one witness", x.does(3, 9, 0), 6);
        Check.due("street(2, 2)", x.street(2, 2), 5);
        Check.due("street(2, 3)", x.street(2, 3), 9);
        Check.due("less than is hidden", x.does(3, 8, 0), 6);
        Check.due("street(2, 3)", x.street(2, 3), 9);
        Check.due("below what is seen", x.does(4, 1, 0), 2);
        Check.due("street(3, 3)", x.street(3, 3), 1);
        Check.due("a false one is nothing", x.does(3, 9, 1), 6);
        Check.due("street(2, 4)", x.street(2, 4), 0);
        Check.due("now(2)", x.now(2), 2);
        Check.due("now(1)", x.now(1), 4 + 1 + 6 + 2);
    }

    private static void badDeeds() {
        KindStreets x = Check.told(ROW);
        int[][] bad = {{-1, 1, 0}, {6, 1, 0}, {0, 0, 0}, {0, 10, 0}, {0, 1, -1}, {0, 1, 2},
            {Integer.MAX_VALUE, 1, 0}, {0, Integer.MIN_VALUE, 0}, {0, 1, Integer.MAX_VALUE}};
        String before = Check.all(x);
        for (int[] b : bad) {
            Check.due("does(" + b[0] + ", " + b[1] + ", " + b[2] + ")", x.does(b[0], b[1], b[2]),
                KindStreets.BAD);
        }
        Check.same("nothing changes", Check.all(x), before);
        Check.due("the least", x.does(2, 1, 0), 2);
        Check.due("the most", x.does(2, 9, 0), 10);
    }

    private static void wills() {
        KindStreets x = Check.told(ROW);
        Check.due("wills(-1)", x.wills(-1), KindStreets.BAD);
        Check.due("wills(4)", x.wills(4), KindStreets.BAD);
        Check.due("nothing is hidden", x.wills(2), KindStreets.STATE);
        Check.due("count(4)", x.count(4), 0);
        x.does(3, 4, 0);
        Check.due("wills(2)", x.wills(2), 4);
        Check.due("seen stays what is more", x.street(2, 2), 5);
        Check.due("street(2, 3)", x.street(2, 3), 0);
        x.does(3, 7, 0);
        Check.due("wills(2)", x.wills(2), 7);
        Check.due("street(2, 2)", x.street(2, 2), 7);
        Check.due("street(2, 5)", x.street(2, 5), 8);
        Check.due("wills(2)", x.wills(2), KindStreets.STATE);
        Check.due("count(4)", x.count(4), 4);
    }

    private static void moves() {
        KindStreets x = Check.told(ROW);
        int[][] bad = {{-1, 0}, {6, 0}, {0, -1}, {0, 4}};
        for (int[] b : bad) {
            Check.due("moves(" + b[0] + ", " + b[1] + ")", x.moves(b[0], b[1]), KindStreets.BAD);
        }
        Check.due("moves(0, 0)", x.moves(0, 0), KindStreets.STATE);
        Check.due("count(4)", x.count(4), 0);
        Check.due("moves(0, 3)", x.moves(0, 3), 0);
        Check.due("moves(0, 3)", x.moves(0, 3), KindStreets.STATE);
        Check.due("citizen(0, 0)", x.citizen(0, 0), 3);
        Check.due("street(0, 6)", x.street(0, 6), 2);
        Check.due("street(3, 6)", x.street(3, 6), 49);
        Check.due("citizen(4, 2)", x.citizen(4, 2), 33);
        Check.due("it is seen now", x.does(4, 6, 0), 7);
        Check.due("moves(0, 1)", x.moves(0, 1), 3);
        Check.due("count(4)", x.count(4), 3);
    }

    private static void nights() {
        KindStreets x = Check.told(ROW);
        Check.due("night(-1)", x.night(-1), KindStreets.BAD);
        Check.due("night(2)", x.night(2), KindStreets.BAD);
        Check.due("it is day", x.night(0), KindStreets.STATE);
        Check.due("count(4)", x.count(4), 0);
        Check.due("now(0)", x.now(0), 0);
        Check.due("night(1)", x.night(1), 13);
        Check.due("now(0)", x.now(0), 1);
        Check.due("it is night", x.night(1), KindStreets.STATE);
        Check.due("night(0)", x.night(0), 13);
        Check.due("count(4)", x.count(4), 2);
        for (int what : new int[] {-1, 3, Integer.MAX_VALUE, Integer.MIN_VALUE}) {
            Check.due("now(" + what + ")", x.now(what), KindStreets.BAD);
        }
    }

    private static void undoing() {
        KindStreets x = Check.told(ROW);
        Check.due("undo()", x.undo(), KindStreets.STATE);
        for (int i = 1; i <= 12; i++) {
            x.moves(0, i % 4);
            Check.due("count(4)", x.count(4), Math.min(i, 10));
        }
        for (int i = 11; i >= 2; i--) {
            Check.due("undo()", x.undo(), i - 2);
            Check.due("citizen(0, 0)", x.citizen(0, 0), i % 4);
        }
        Check.due("older ones are lost", x.undo(), KindStreets.STATE);
        Check.due("citizen(0, 0)", x.citizen(0, 0), 2);
    }

    private static void undoesAll() {
        KindStreets x = Check.told(ROW);
        x.does(3, 4, 0);
        x.does(0, 8, 0);
        x.does(0, 9, 1);
        String[] before = new String[6];
        before[0] = Check.all(x);
        x.does(0, 9, 0);
        before[1] = Check.all(x);
        x.does(4, 9, 1);
        before[2] = Check.all(x);
        x.wills(2);
        before[3] = Check.all(x);
        x.moves(5, 0);
        before[4] = Check.all(x);
        x.night(1);
        for (int i = 4; i >= 0; i--) {
            Check.due("undo()", x.undo(), 3 + i);
            Check.same("all is as ahead of it", Check.all(x), before[i]);
        }
        x.does(3, 9, 0);
        x.wills(2);
        Check.due("a new one behind an undone one", x.undo(), 4);
        Check.due("street(2, 3)", x.street(2, 3), 9);
        Check.due("street(2, 2)", x.street(2, 2), 5);
    }
}
