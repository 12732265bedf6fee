/** Promises 13 to 18: widest, way, flow, need, odds, carriage. */
public final class WaysTest {
    private static final int[][] BAD_YARDS = {{-1, 0}, {0, -1}, {4, 0}, {0, 4}, {2, 2},
        {Integer.MAX_VALUE, 0}, {0, Integer.MIN_VALUE}, {32, 0}};
    private static final int[] FAR_OFF = {Integer.MIN_VALUE, Integer.MAX_VALUE};

    public static void main(String[] args) {
        widest();
        way();
        flow();
        narrowsOfSeveral();
        need();
        odds();
        carriages();
        carriagesOfSeveral();
        badNumbers();
        nothingChanges();
        Check.end();
    }

    private static void widest() {
        KindStreets x = Check.told("y5;s0 1 3;s1 2 8;s0 2 2;s0 2 4;c2 1;c2 1;c2 1;");
        Check.due("the wider of two streets", x.widest(0, 2), 5);
        Check.due("round about", x.widest(0, 1), 5);
        Check.due("the other way", x.widest(1, 0), 5);
        Check.due("no way", x.widest(0, 3), KindStreets.NONE);
        Check.due("no street", x.widest(3, 4), KindStreets.NONE);
        x.does(0, 9, 1);
        Check.due("by a false deed", x.widest(0, 2), 10);
        x.night(1);
        Check.due("which closes at night", x.widest(0, 2), 5);
        Check.due("the narrowest", Check.told("s0 1 0;").widest(0, 1), 1);
    }

    private static void way() {
        KindStreets x = Check.told("y5;s0 1 3;s1 2 8;s0 2 2;s2 3 1;s0 1 9;");
        Check.due("straight", x.way(0, 2, 3), 1);
        Check.due("round about", x.way(0, 2, 4), 2);
        Check.due("back", x.way(2, 0, 4), 2);
        Check.due("way(0, 2, 9)", x.way(0, 2, 9), 2);
        Check.due("too wide", x.way(0, 2, 10), KindStreets.NONE);
        Check.due("way(0, 1, 10)", x.way(0, 1, 10), 1);
        Check.due("way(0, 3, 1)", x.way(0, 3, 1), 2);
        Check.due("no way", x.way(0, 4, 1), KindStreets.NONE);
        KindStreets ring = Check.told("y8;s0 1 0;s1 2 0;s2 3 0;s3 4 0;s4 5 0;s5 6 0;s6 7 0;");
        Check.due("the longest", ring.way(0, 7, 1), 7);
        Check.due("the longest back", ring.way(7, 0, 1), 7);
    }

    private static void flow() {
        KindStreets x = Check.told("s0 1 3;s1 2 1;s0 2 0;s2 3 5;s1 3 2;");
        Check.due("flow(0, 3, 0)", x.flow(0, 3, 0), 5);
        Check.due("flow(0, 3, 1)", x.flow(0, 3, 1), 5);
        Check.due("flow(3, 1, 0)", x.flow(3, 1, 0), 6);
        Check.due("flow(3, 1, 1)", x.flow(3, 1, 1), 22);
        KindStreets many = Check.told("y2;s0 1 9;s0 1 9;s0 1 9;s0 1 9;s0 1 9;s1 0 9;s0 1 9;s0 1 9;s0 1 9;");
        Check.due("the widest town", many.flow(0, 1, 0), 90);
        Check.due("all its streets", many.flow(0, 1, 1), 511);
        KindStreets apart = Check.told("y5;s0 1 2;s2 3 4;");
        Check.due("no way: flow", apart.flow(0, 2, 0), 0);
        Check.due("no way: narrows", apart.flow(0, 2, 1), 0);
        Check.due("no street: narrows", apart.flow(4, 0, 1), 0);
    }

    private static void narrowsOfSeveral() {
        KindStreets row = Check.told("s0 1 4;s1 2 4;s2 3 4;");
        Check.due("one as good as another: the least", row.flow(0, 3, 1), 1);
        Check.due("back, too", row.flow(3, 0, 1), 1);
        KindStreets fewer = Check.told("s0 1 0;s0 1 0;s1 2 1;");
        Check.due("fewer are better than less", fewer.flow(0, 2, 1), 4);
        Check.due("their width", fewer.flow(0, 2, 0), 2);
        KindStreets narrower = Check.told("s0 1 0;s0 1 0;s1 2 2;");
        Check.due("narrower is better than fewer", narrower.flow(0, 2, 1), 3);
    }

    private static void need() {
        KindStreets x = Check.told("y5;s0 1 3;s1 2 8;s0 2 2;s2 3 1;s0 3 0;");
        Check.due("one comes through", x.need(0, 2, 4), 0);
        Check.due("need(0, 2, 5)", x.need(0, 2, 5), 1);
        Check.due("fewest: straight", x.need(0, 3, 9), 16);
        Check.due("the other way", x.need(3, 0, 9), 16);
        Check.due("of several the least", x.need(0, 2, 9), 1);
        Check.due("of several the least", x.need(0, 2, 10), 4);
        Check.due("wide ones are free", x.need(1, 3, 9), 8);
        Check.due("no way at all", x.need(0, 4, 1), KindStreets.NONE);
        KindStreets row = Check.told("y8;s0 1 0;s1 2 0;s2 3 0;s3 4 9;s4 5 0;s5 6 0;s6 7 0;");
        Check.due("all but a wide one", row.need(7, 0, 2), 119);
        KindStreets two = Check.told("y4;s1 2 0;s0 3 0;s3 2 0;s0 1 0;");
        Check.due("0 and 3, or 1 and 2", two.need(0, 2, 2), 6);
    }

    private static void odds() {
        KindStreets x = Check.told("s0 1 0;s1 2 0;s0 2 0;");
        fraction(x, 0, 2, 5, 5, 8);
        fraction(x, 2, 0, 5, 5, 8);
        fraction(x, 0, 2, 0, 1, 1);
        fraction(x, 0, 2, 10, 0, 1);
        fraction(x, 0, 3, 0, 0, 1);
        fraction(x, 0, 2, 1, 981, 1000);
        fraction(x, 0, 2, 9, 109, 1000);
        fraction(new KindStreets(), 0, 1, 3, 0, 1);
        KindStreets row = Check.told("y8;s0 1 9;s1 2 9;s2 3 9;s3 4 9;s4 5 9;s5 6 9;s6 7 9;");
        fraction(row, 0, 7, 9, 1, 10000000);
        fraction(row, 0, 7, 1, 4782969, 10000000);
        fraction(row, 0, 7, 5, 1, 128);
        KindStreets nine = Check.told("y2;s0 1 9;s0 1 9;s0 1 9;s0 1 9;s0 1 9;s1 0 9;s0 1 9;s0 1 9;s0 1 9;");
        fraction(nine, 0, 1, 1, 999999999, 1000000000);
        fraction(nine, 0, 1, 0, 1, 1);
        fraction(nine, 1, 0, 9, 612579511, 1000000000);
        KindStreets bridge = Check.told("s0 1 0;s0 2 0;s1 2 0;s1 3 0;s2 3 0;");
        fraction(bridge, 0, 3, 5, 1, 2);
    }

    private static void fraction(KindStreets x, int a, int b, int shut, int upper, int lower) {
        String call = "odds(" + a + ", " + b + ", " + shut + ", ";
        Check.due(call + "0)", x.odds(a, b, shut, 0), upper);
        Check.due(call + "1)", x.odds(a, b, shut, 1), lower);
    }

    private static void carriages() {
        KindStreets x = Check.told("s0 1 3;s1 2 1;s0 2 0;s2 3 5;s1 3 2;c0 4;c0 2;c1 6;c3 1;c4 3;");
        Check.due("all have theirs", x.carriage(-1), 5);
        int[] due = {0, 1, 3, 2, 4};
        for (int p = 0; p < due.length; p++) {
            Check.due("carriage(" + p + ")", x.carriage(p), due[p]);
        }
        for (int p : new int[] {-2, 5, Integer.MIN_VALUE, Integer.MAX_VALUE}) {
            Check.due("carriage(" + p + ")", x.carriage(p), KindStreets.BAD);
        }
        Check.due("nobody", new KindStreets().carriage(-1), 0);
        Check.due("nobody's", new KindStreets().carriage(0), KindStreets.BAD);
        KindStreets wide = Check.told("s0 1 0;c0 2;c0 2;c0 2;");
        Check.due("too narrow for all", wide.carriage(-1), 0);
        Check.due("too narrow", wide.carriage(2), KindStreets.NONE);
        wide.does(0, 1, 1);
        Check.due("wide by day", wide.carriage(0), 0);
        wide.night(1);
        Check.due("narrow at night", wide.carriage(0), KindStreets.NONE);
    }

    private static void carriagesOfSeveral() {
        KindStreets x = Check.told("s0 1 9;s0 1 1;s0 1 5;c0 1;c0 6;c0 10;");
        Check.due("all three", x.carriage(-1), 3);
        Check.due("not the widest one", x.carriage(0), 1);
        Check.due("not the widest one", x.carriage(1), 2);
        Check.due("the widest one", x.carriage(2), 0);
        KindStreets four = Check.told("s0 1 9;s0 1 1;s0 1 5;c0 1;c0 6;c0 10;c0 2;");
        Check.due("three of four", four.carriage(-1), 3);
        Check.due("the lowest one, as another can go without", four.carriage(0), 0);
        Check.due("the one that is wide enough", four.carriage(1), 2);
        Check.due("who goes without", four.carriage(2), KindStreets.NONE);
        Check.due("what is left", four.carriage(3), 1);
        KindStreets first = Check.told("s0 1 5;c0 9;c0 6;c0 1;");
        Check.due("he wants too much", first.carriage(0), KindStreets.NONE);
        Check.due("the first who can", first.carriage(1), 0);
        Check.due("the later one", first.carriage(2), KindStreets.NONE);
        KindStreets lowest = Check.told("s0 1 5;s0 1 5;s0 1 5;c2 6;c1 1;");
        Check.due("the lowest, not his own", lowest.carriage(0), 0);
        Check.due("the next one", lowest.carriage(1), 1);
    }

    private static void badNumbers() {
        KindStreets x = Check.told("s0 1 3;s1 2 1;c0 1;");
        for (int[] b : BAD_YARDS) {
            String yards = "(" + b[0] + ", " + b[1];
            Check.due("widest" + yards + ")", x.widest(b[0], b[1]), KindStreets.BAD);
            Check.due("way" + yards + ", 1)", x.way(b[0], b[1], 1), KindStreets.BAD);
            Check.due("flow" + yards + ", 0)", x.flow(b[0], b[1], 0), KindStreets.BAD);
            Check.due("need" + yards + ", 1)", x.need(b[0], b[1], 1), KindStreets.BAD);
            Check.due("odds" + yards + ", 5, 0)", x.odds(b[0], b[1], 5, 0), KindStreets.BAD);
        }
        for (int width : new int[] {0, 11, FAR_OFF[0], FAR_OFF[1]}) {
            Check.due("way(0, 1, " + width + ")", x.way(0, 1, width), KindStreets.BAD);
            Check.due("need(0, 1, " + width + ")", x.need(0, 1, width), KindStreets.BAD);
        }
        for (int what : new int[] {-1, 2, FAR_OFF[0], FAR_OFF[1]}) {
            Check.due("flow(0, 1, " + what + ")", x.flow(0, 1, what), KindStreets.BAD);
            Check.due("odds(0, 1, 5, " + what + ")", x.odds(0, 1, 5, what), KindStreets.BAD);
        }
        for (int shut : new int[] {-1, 11, FAR_OFF[0], FAR_OFF[1]}) {
            Check.due("odds(0, 1, " + shut + ", 0)", x.odds(0, 1, shut, 0), KindStreets.BAD);
        }
    }

    private static void nothingChanges() {
        KindStreets x = Check.told("s0 1 3;s1 2 1;c0 1;c1 1;c1 1;");
        x.does(0, 4, 1);
        String before = Check.all(x);
        x.widest(0, 2);
        x.way(0, 2, 3);
        x.flow(0, 2, 1);
        x.need(0, 2, 9);
        x.odds(0, 2, 3, 0);
        x.carriage(0);
        Check.same("nothing is changed", Check.all(x), before);
    }
}
