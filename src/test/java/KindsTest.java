/** Promises 23 to 27: mark, keep, back, count, trace. */
public final class KindsTest {
    private static final String TOLD = "y6;s0 1 3;s1 2 0;s2 3 5;s4 5 1;c0 1;c0 2;c1 3;c2 4;c3 5;c3 6;";

    public static void main(String[] args) {
        marks();
        badMarks();
        traces();
        images();
        imagesKeepWhatMayBeUndone();
        imagesKeepNothingElse();
        counts();
        Check.end();
    }

    private static void marks() {
        KindStreets x = Check.told(TOLD);
        x.does(3, 9, 0);
        int[][] due = {{4, 6, 4, 12, 4, 6}, {1, 2, 1, 4, 2, 4}, {6, 7, -3, 14, -1, 8},
            {2, 4, 2, 8, 5, 3}};
        for (int s = 0; s < due.length; s++) {
            for (int kind = 0; kind < due[s].length; kind++) {
                Check.due("mark(" + kind + ", " + s + ")", x.mark(kind, s), due[s][kind]);
            }
        }
        x.does(0, 9, 1);
        Check.due("by a false deed", x.mark(3, 0), 24);
        x.night(1);
        Check.due("at night", x.mark(3, 0), 12);
    }

    private static void badMarks() {
        KindStreets x = Check.told(TOLD);
        int[][] bad = {{-1, 0}, {6, 0}, {0, -1}, {0, 4}, {Integer.MAX_VALUE, 0},
            {Integer.MIN_VALUE, 0}, {5, Integer.MAX_VALUE}, {5, Integer.MIN_VALUE}};
        for (int[] b : bad) {
            Check.due("mark(" + b[0] + ", " + b[1] + ")", x.mark(b[0], b[1]), KindStreets.NO);
        }
        Check.due("no street", new KindStreets().mark(0, 0), KindStreets.NO);
        Check.due("nothing is asked", x.trace(), 0);
    }

    private static void traces() {
        int[] due = {1, 11, 101, 1011, 10101, 100001};
        long all = 0;
        KindStreets x = Check.told(TOLD);
        for (int kind = 0; kind < due.length; kind++) {
            KindStreets one = Check.told(TOLD);
            one.mark(kind, 3);
            Check.due("trace() of kind " + kind, one.trace(), due[kind]);
            Check.due("trace() again", one.trace(), due[kind]);
            x.mark(kind, 0);
            x.mark(kind, 1);
            all += 2 * due[kind];
            Check.due("trace() of all", x.trace(), all);
        }
        x.night(1);
        x.undo();
        x.street(0, 5);
        x.widest(0, 1);
        Check.due("nothing else comes to it", x.trace(), all);
    }

    private static void images() {
        KindStreets x = Check.told(TOLD);
        for (int image : new int[] {-1, 2, Integer.MAX_VALUE, Integer.MIN_VALUE}) {
            Check.due("keep(" + image + ")", x.keep(image), KindStreets.BAD);
            Check.due("back(" + image + ")", x.back(image), KindStreets.BAD);
        }
        String first = Check.all(x);
        Check.due("keep(0) by day", x.keep(0), 0);
        Check.due("back(1)", x.back(1), KindStreets.STATE);
        x.does(0, 9, 0);
        x.does(0, 8, 1);
        x.does(3, 7, 0);
        x.moves(3, 0);
        x.night(1);
        String second = Check.all(x);
        Check.due("keep(1) at night", x.keep(1), 1);
        Check.same("keeping changes nothing", Check.all(x), second);
        Check.due("back(0)", x.back(0), 0);
        Check.same("as it was", Check.all(x), first);
        x.does(0, 9, 0);
        Check.due("back(1)", x.back(1), 1);
        Check.same("as it was", Check.all(x), second);
        Check.due("back(0) again", x.back(0), 0);
        Check.same("an image stays", Check.all(x), first);
        x.moves(0, 3);
        Check.due("kept anew", x.keep(0), 0);
        x.moves(0, 2);
        x.back(0);
        Check.due("citizen(0, 0)", x.citizen(0, 0), 3);
    }

    private static void imagesKeepWhatMayBeUndone() {
        KindStreets x = Check.told(TOLD);
        x.moves(0, 1);
        x.moves(0, 2);
        x.keep(0);
        x.undo();
        x.undo();
        for (int i = 0; i < 12; i++) {
            x.moves(1, 1 + i % 3);
        }
        Check.due("count(4)", x.count(4), 10);
        x.back(0);
        Check.due("count(4)", x.count(4), 2);
        Check.due("undo()", x.undo(), 1);
        Check.due("citizen(0, 0)", x.citizen(0, 0), 1);
        Check.due("undo()", x.undo(), 0);
        Check.due("citizen(0, 0)", x.citizen(0, 0), 0);
        Check.due("citizen(1, 0)", x.citizen(1, 0), 0);
        Check.due("undo()", x.undo(), KindStreets.STATE);
    }

    private static void imagesKeepNothingElse() {
        KindStreets x = Check.told(TOLD);
        x.measures(4, 0);
        x.mark(0, 0);
        x.type('y');
        x.keep(0);
        x.measures(5, 1);
        x.mark(1, 0);
        x.type('2');
        x.back(0);
        Check.due("count(3)", x.count(3), 2);
        Check.due("count(5)", x.count(5), 2);
        Check.due("trace()", x.trace(), 12);
        Check.due("back can't be undone", x.undo(), KindStreets.STATE);
    }

    private static void counts() {
        KindStreets x = Check.told(TOLD);
        x.measures(1, 1);
        x.measures(2, 1);
        x.measures(2, 1);
        x.night(1);
        x.type(0);
        x.type(0);
        int[] due = {6, 4, 6, 3, 1, 2};
        for (int what = 0; what < due.length; what++) {
            Check.due("count(" + what + ")", x.count(what), due[what]);
        }
        for (int what : new int[] {-1, 6, Integer.MAX_VALUE, Integer.MIN_VALUE}) {
            Check.due("count(" + what + ")", x.count(what), KindStreets.BAD);
        }
    }
}
