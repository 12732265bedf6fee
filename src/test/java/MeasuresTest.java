/** Promises 19 to 22: measures, forget, deeds, when. */
public final class MeasuresTest {
    public static void main(String[] args) {
        measuring();
        badMeasures();
        deeds();
        when();
        Check.end();
    }

    private static void measuring() {
        KindStreets x = new KindStreets();
        Check.due("forget()", x.forget(), 0);
        for (int i = 1; i <= 4; i++) {
            Check.due("measures(5, 0)", x.measures(5, 0), i);
            Check.due("count(3)", x.count(3), i);
        }
        Check.due("a fifth", x.measures(5, 0), KindStreets.FULL);
        Check.due("a bad fifth", x.measures(11, 0), KindStreets.BAD);
        Check.due("count(3)", x.count(3), 4);
        Check.due("forget()", x.forget(), 4);
        Check.due("forget()", x.forget(), 0);
        Check.due("count(3)", x.count(3), 0);
        Check.due("deeds(0)", x.deeds(0), 100);
        Check.due("measures(1, 1)", x.measures(1, 1), 1);
        Check.due("what is done leaves it", x.night(1), 0);
        Check.due("count(3)", x.count(3), 1);
        x.undo();
        Check.due("undone, too", x.count(3), 1);
    }

    private static void badMeasures() {
        KindStreets x = new KindStreets();
        int[][] bad = {{0, 0}, {11, 0}, {-1, 1}, {1, -1}, {1, 2}, {Integer.MAX_VALUE, 0},
            {Integer.MIN_VALUE, 1}, {1, Integer.MAX_VALUE}};
        for (int[] b : bad) {
            Check.due("measures(" + b[0] + ", " + b[1] + ")", x.measures(b[0], b[1]), KindStreets.BAD);
        }
        Check.due("count(3)", x.count(3), 0);
        for (int what : new int[] {-1, 2, Integer.MAX_VALUE, Integer.MIN_VALUE}) {
            Check.due("deeds(" + what + ")", x.deeds(what), KindStreets.BAD);
        }
    }

    private static void deeds() {
        due(new int[][] {}, 100, 0, 1);
        due(new int[][] {{1, 0}}, 1, 0, 0);
        due(new int[][] {{4, 0}}, 7, 3, 1);
        due(new int[][] {{10, 0}}, 19, 9, 1);
        due(new int[][] {{4, 1}}, 10, 30, 0);
        due(new int[][] {{10, 1}}, 10, 90, 0);
        due(new int[][] {{4, 1}, {4, 0}}, 4, 30, 0);
        due(new int[][] {{4, 1}, {6, 0}}, 1, 35, 0);
        due(new int[][] {{6, 0}, {4, 1}, {6, 0}, {4, 1}}, 1, 35, 0);
        due(new int[][] {{6, 1}, {4, 0}}, 0, KindStreets.NONE, KindStreets.NONE);
        due(new int[][] {{6, 1}, {5, 1}}, 0, KindStreets.NONE, KindStreets.NONE);
        due(new int[][] {{6, 0}, {5, 0}}, 0, KindStreets.NONE, KindStreets.NONE);
    }

    private static void due(int[][] measured, int many, int first, int when) {
        KindStreets x = new KindStreets();
        StringBuilder told = new StringBuilder();
        for (int[] m : measured) {
            x.measures(m[0], m[1]);
            told.append(m[0]).append(m[1] == 0 ? " by day, " : " by night, ");
        }
        Check.due(told + "deeds(0)", x.deeds(0), many);
        Check.due(told + "deeds(1)", x.deeds(1), first);
        Check.due(told + "when()", x.when(), when);
    }

    private static void when() {
        KindStreets x = new KindStreets();
        Check.due("19 alike by day, 10 by night", x.when(), 1);
        x.measures(2, 1);
        Check.due("8 apart by day, all alike by night", x.when(), 0);
        x.measures(2, 0);
        Check.due("like ones: by day", x.when(), 0);
        x.measures(3, 0);
        Check.due("none of them", x.when(), KindStreets.NONE);
        x.forget();
        x.measures(2, 0);
        Check.due("3 alike by day, 2 by night", x.when(), 1);
    }
}
