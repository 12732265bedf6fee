/** Promises 1 to 4: a new object, type, clear, town. */
public final class TextTest {
    private static final int[] EXTREMES = {Integer.MIN_VALUE, -1, 256, Integer.MAX_VALUE};

    public static void main(String[] args) {
        newObject();
        typing();
        clearing();
        towns();
        faults();
        faultChangesNothing();
        readingAnew();
        Check.end();
    }

    private static void newObject() {
        KindStreets x = new KindStreets();
        int[] counts = {4, 0, 0, 0, 0, 0};
        for (int what = 0; what < counts.length; what++) {
            Check.due("new: count(" + what + ")", x.count(what), counts[what]);
        }
        for (int what = 0; what <= 2; what++) {
            Check.due("new: now(" + what + ")", x.now(what), 0);
        }
        Check.due("new: street(0, 0)", x.street(0, 0), KindStreets.BAD);
        Check.due("new: citizen(0, 0)", x.citizen(0, 0), KindStreets.BAD);
        Check.due("new: widest(0, 3)", x.widest(0, 3), KindStreets.NONE);
        Check.due("new: widest(0, 4)", x.widest(0, 4), KindStreets.BAD);
        Check.due("new: undo()", x.undo(), KindStreets.STATE);
        Check.due("new: back(0)", x.back(0), KindStreets.STATE);
        Check.due("new: back(1)", x.back(1), KindStreets.STATE);
        Check.due("new: trace()", x.trace(), 0);
        Check.due("new: clear()", x.clear(), 0);
    }

    private static void typing() {
        KindStreets x = new KindStreets();
        for (int c : EXTREMES) {
            Check.due("type(" + c + ")", x.type(c), KindStreets.BAD);
        }
        Check.due("type(0)", x.type(0), 1);
        Check.due("type(255)", x.type(255), 2);
        for (int i = 3; i <= 120; i++) {
            Check.due("type(32), the " + i + "th", x.type(32), i);
        }
        Check.due("type(32), the 121st", x.type(32), KindStreets.FULL);
        Check.due("type(256) when full", x.type(256), KindStreets.BAD);
        Check.due("count(5)", x.count(5), 120);
        Check.due("town() of that", x.town(), -10);
        Check.due("count(5)", x.count(5), 120);
    }

    private static void clearing() {
        KindStreets x = new KindStreets();
        Check.type(x, "s0 1 3;s");
        Check.due("clear()", x.clear(), 8);
        Check.due("clear()", x.clear(), 0);
        Check.due("count(5)", x.count(5), 0);
        Check.due("town()", Check.tell(x, "s0 1 3;"), 1);
        Check.due("count(5)", x.count(5), 0);
    }

    private static void towns() {
        read("", 0);
        read("   ", 0);
        read("y2;", 1);
        read("y8;", 1);
        read("  y  8  ;  s 7 6 9 ; c 0 10 ;  ", 3);
        read("s0 1 3;c0 1;s0 1 0;c1 10;", 4);
        read("s3 0 0;s0 3 9;", 2);
        read("y8;s0 1 9;s1 2 9;s2 3 9;s3 4 9;s4 5 9;s5 6 9;s6 7 9;s7 0 9;s0 2 9;"
            + "c0 1;c1 2;c2 3;c3 4;c4 5;c8 10;", 16);
        KindStreets x = Check.told("y3;s2 1 7;s0 1 2;c1 4;c0 10;");
        int[] due = {3, 2, 2, 0, 0, 0};
        for (int what = 0; what < due.length; what++) {
            Check.due("count(" + what + ")", x.count(what), due[what]);
        }
        Check.due("street(0, 0)", x.street(0, 0), 2);
        Check.due("street(0, 1)", x.street(0, 1), 1);
        Check.due("street(0, 2)", x.street(0, 2), 7);
        Check.due("citizen(0, 0)", x.citizen(0, 0), 1);
        Check.due("citizen(1, 1)", x.citizen(1, 1), 10);
    }

    private static void read(String text, int items) {
        KindStreets x = new KindStreets();
        Check.due("town() of '" + text + "'", Check.tell(x, text), items);
        Check.due("count(5) then", x.count(5), 0);
    }

    private static void faults() {
        fault("y", 1);
        fault("y ", 2);
        fault("y2", 2);
        fault("y2  ", 4);
        fault("y;", 1);
        fault("y1;", 1);
        fault("y9;", 1);
        fault("y08;", 1);
        fault("y 10;", 2);
        fault("y2 2;", 3);
        fault("y2;y2;", 3);
        fault("s0 1 0;y2;", 7);
        fault("ys", 0);
        fault("  yy3;", 2);
        fault("ya3;", 0);
        fault("sz0 1 0;", 0);
        fault("y3;ca", 3);
        fault("Y3;", 0);
        fault("z", 0);
        fault("5", 0);
        fault("100", 0);
        fault(";", 0);
        fault("y3;;", 3);
        fault("s4 0 0;", 1);
        fault("y2;s2 0 0;", 4);
        fault("s0 4 0;", 3);
        fault("s1 1 0;", 3);
        fault("s1   1 0;", 5);
        fault("s0 1 10;", 5);
        fault("s0 1 9 9;", 7);
        fault("s0 1;", 4);
        fault("s0 1 9", 6);
        fault("s", 1);
        fault("s0", 2);
        fault("s0 ", 3);
        fault("s0 1 ", 5);
        fault("s0 1 9s", 6);
        fault("s0 1 9 s", 7);
        fault("s01 2;", 1);
        fault("s0 1 00;", 5);
        fault("s0 1 100;", 5);
        fault("s0 1 4294967296;", 5);
        fault("s0 1 -1;", 5);
        fault("s0 1 #;", 5);
        fault("s0#1 1;", 2);
        fault("s0\t1 1;", 2);
        fault("s0 1 1;\0", 7);
        fault("s0 1 1;" + (char) 160, 7);
        fault("s x", 2);
        fault("c0 1;", 1);
        fault("c", 1);
        fault("cc", 0);
        fault("s0 1 0;c1 1;", 8);
        fault("s0 1 0;c0 0;", 10);
        fault("s0 1 0;c0 :;", 10);
        fault("s0 1 0;c0 /;", 10);
        fault("s0 1 0;c0 11;", 10);
        fault("s0 1 0;c0 01;", 10);
        fault("s0 1 0;c0;", 9);
        fault("s0 1 0;c0 1 s", 12);
        String streets = "s0 1 0;s0 1 0;s0 1 0;s0 1 0;s0 1 0;s0 1 0;s0 1 0;s0 1 0;s0 1 0;";
        fault(streets + "s0 1 0;", 63);
        fault(streets + "  s", 65);
        fault("s0 1 0;c0 1;c0 1;c0 1;c0 1;c0 1;c0 1;c0 1;", 37);
    }

    private static void fault(String text, int place) {
        KindStreets x = new KindStreets();
        Check.due("town() of '" + text + "'", Check.tell(x, text), -10 - place);
        Check.due("its text is kept, clear()", x.clear(), text.length());
    }

    private static void faultChangesNothing() {
        KindStreets x = busy();
        Check.type(x, "y8;s7 6 1;s7 6 1;s7 6 1;c0 1;!");
        String before = Check.all(x);
        Check.due("town() at the end faulty", x.town(), -39);
        Check.same("nothing changes", Check.all(x), before);
        Check.due("the image is kept", x.back(0), 1);
        Check.due("what may be undone", x.undo(), 3);
    }

    private static void readingAnew() {
        KindStreets x = busy();
        long trace = x.trace();
        Check.due("town() anew", Check.tell(x, "s0 1 3;s0 1 1;s0 1 2;c0 2;"), 4);
        KindStreets fresh = Check.told("s0 1 3;s0 1 1;s0 1 2;c0 2;");
        fresh.mark(4, 0);
        Check.same("as told", Check.all(x), Check.all(fresh));
        Check.due("trace goes on", x.trace(), trace);
        Check.due("undo()", x.undo(), KindStreets.STATE);
        Check.due("back(0)", x.back(0), KindStreets.STATE);
        Check.due("back(1)", x.back(1), KindStreets.STATE);
        Check.due("town() of nothing", x.town(), 0);
        Check.due("no streets", x.count(1), 0);
        Check.due("nobody", x.count(2), 0);
    }

    /** Something of everything is there: deeds by night, measures, images, a trace. */
    private static KindStreets busy() {
        KindStreets x = Check.told("y5;s0 1 2;s1 2 0;s3 4 1;c0 3;c0 4;c1 2;c2 1;");
        x.does(0, 5, 0);
        x.does(0, 7, 1);
        x.does(3, 6, 0);
        x.night(1);
        x.measures(3, 0);
        x.mark(4, 0);
        x.keep(0);
        x.keep(1);
        return x;
    }
}
