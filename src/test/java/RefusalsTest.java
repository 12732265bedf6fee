/** Every promise that refuses: what is answered then, in which order, and that nothing changes. */
public final class RefusalsTest {
    private static final String[] NEW = {};
    private static final String[] FRESH = {"tell(y3;s0 1 4;s1 2 0;c0 2;c1 5;c1 1;) 6"};
    // Something of everything, and a text that ends too early.
    private static final String[] BUSY = {
        "tell(y5;s0 1 2;s1 2 0;s3 4 1;c0 3;c0 4;c1 2;c2 1;) 8",
        "does(0, 5, 0) 6", "does(0, 7, 1) 8", "does(3, 6, 0) 2", "night(1) 9", "measures(3, 0) 1",
        "mark(4, 0) 6", "keep(0) 1", "moves(0, 2) 0", "types(y3;s0 1 2) 9",
    };
    // As much of everything as there may be.
    private static final String[] BRIM = {
        "tell(y8;s0 1 9;s1 2 0;s2 3 3;s3 4 4;s4 5 5;s5 6 6;s6 7 7;s7 0 8;s0 4 0;"
            + "c0 10;c0 1;c1 1;c3 4;c4 5;c8 6;) 16",
        "measures(9, 0) 1", "measures(9, 0) 2", "measures(3, 1) 3", "measures(9, 0) 4",
        "does(2, 5, 0) 6", "does(2, 9, 1) 10", "moves(4, 3) 4", "moves(3, 6) 3", "does(3, 9, 0) 8",
        "keep(0) 0", "night(1) 56", "moves(5, 1) 8", "does(5, 6, 1) 6", "keep(1) 1", "wills(6) 9",
        "does(3, 8, 0) 10", "types(y2;s0 1 0;" + " ".repeat(110) + ") 120",
    };
    private static final String LEAST = "-2147483648", MOST = "2147483647";

    private static final String[] BAD = {
        "2 type(-1)", "2 type(256)", "2 type(" + LEAST + ")", "2 type(" + MOST + ")",
        "5 street(-1, 0)", "5 street(9, 0)", "5 street(" + LEAST + ", 0)", "5 street(" + MOST + ", 0)",
        "5 street(0, -1)", "5 street(0, 7)", "5 street(0, " + LEAST + ")", "5 street(0, " + MOST + ")",
        "6 citizen(-1, 0)", "6 citizen(6, 0)", "6 citizen(" + LEAST + ", 0)",
        "6 citizen(" + MOST + ", 0)", "6 citizen(0, -1)", "6 citizen(0, 3)",
        "6 citizen(0, " + LEAST + ")", "6 citizen(0, " + MOST + ")",
        "7 does(-1, 1, 0)", "7 does(6, 1, 0)", "7 does(" + LEAST + ", 1, 0)",
        "7 does(" + MOST + ", 1, 0)", "7 does(0, 0, 0)", "7 does(0, 10, 0)", "7 does(0, -1, 1)",
        "7 does(0, " + LEAST + ", 1)", "7 does(0, " + MOST + ", 0)", "7 does(0, 1, -1)",
        "7 does(0, 9, 2)", "7 does(0, 9, " + LEAST + ")", "7 does(0, 9, " + MOST + ")",
        "8 wills(-1)", "8 wills(9)", "8 wills(" + LEAST + ")", "8 wills(" + MOST + ")",
        "9 moves(-1, 0)", "9 moves(6, 0)", "9 moves(" + LEAST + ", 0)", "9 moves(" + MOST + ", 0)",
        "9 moves(0, -1)", "9 moves(0, 9)", "9 moves(0, " + LEAST + ")", "9 moves(0, " + MOST + ")",
        "10 night(-1)", "10 night(2)", "10 night(" + LEAST + ")", "10 night(" + MOST + ")",
        "12 now(-1)", "12 now(3)", "12 now(" + LEAST + ")", "12 now(" + MOST + ")",
        "14 way(0, 1, 0)", "14 way(0, 1, 11)", "14 way(0, 1, " + LEAST + ")",
        "14 way(0, 1, " + MOST + ")",
        "15 flow(0, 1, -1)", "15 flow(0, 1, 2)", "15 flow(0, 1, " + LEAST + ")",
        "15 flow(0, 1, " + MOST + ")",
        "16 need(0, 1, 0)", "16 need(0, 1, 11)", "16 need(0, 1, " + LEAST + ")",
        "16 need(0, 1, " + MOST + ")",
        "17 odds(0, 1, -1, 0)", "17 odds(0, 1, 11, 0)", "17 odds(0, 1, " + LEAST + ", 1)",
        "17 odds(0, 1, " + MOST + ", 1)", "17 odds(0, 1, 5, -1)", "17 odds(0, 1, 5, 2)",
        "17 odds(0, 1, 0, " + LEAST + ")", "17 odds(0, 1, 10, " + MOST + ")",
        "18 carriage(-2)", "18 carriage(6)", "18 carriage(" + LEAST + ")", "18 carriage(" + MOST + ")",
        "19 measures(0, 0)", "19 measures(11, 0)", "19 measures(-1, 1)",
        "19 measures(" + LEAST + ", 0)", "19 measures(" + MOST + ", 1)", "19 measures(1, -1)",
        "19 measures(10, 2)", "19 measures(1, " + LEAST + ")", "19 measures(1, " + MOST + ")",
        "21 deeds(-1)", "21 deeds(2)", "21 deeds(" + LEAST + ")", "21 deeds(" + MOST + ")",
        "24 keep(-1)", "24 keep(2)", "24 keep(" + LEAST + ")", "24 keep(" + MOST + ")",
        "25 back(-1)", "25 back(2)", "25 back(" + LEAST + ")", "25 back(" + MOST + ")",
        "26 count(-1)", "26 count(6)", "26 count(" + LEAST + ")", "26 count(" + MOST + ")",
    };
    private static final String[] BAD_YARDS = {
        "-1, 0", "0, -1", "8, 0", "0, 8", "0, 0", "1, 1", "7, 7", "-1, -1", "8, 8", "8, 9",
        LEAST + ", 0", "0, " + LEAST, MOST + ", 0", "0, " + MOST, "32, 1", "1, 32",
    };
    private static final String[] NO = {
        "mark(-1, 0)", "mark(6, 0)", "mark(" + LEAST + ", 0)", "mark(" + MOST + ", 0)",
        "mark(0, -1)", "mark(5, 9)", "mark(0, " + LEAST + ")", "mark(5, " + MOST + ")", "mark(6, 9)",
    };

    public static void main(String[] args) {
        for (String[] made : new String[][] {NEW, FRESH, BUSY, BRIM}) {
            badNumbers(made);
        }
        noSuchThing();
        state();
        full();
        badAheadOfAll();
        faults();
        questionsChangeNothing();
        Check.end();
    }

    private static void badNumbers(String[] made) {
        for (String bad : BAD) {
            refused(bad + " BAD", made);
        }
        for (String yards : BAD_YARDS) {
            refused("13 widest(" + yards + ") BAD", made);
            refused("14 way(" + yards + ", 1) BAD", made);
            refused("15 flow(" + yards + ", 0) BAD", made);
            refused("16 need(" + yards + ", 1) BAD", made);
            refused("17 odds(" + yards + ", 5, 0) BAD", made);
        }
        for (String no : NO) {
            refused("23 " + no + " NO", made);
        }
    }

    /** A number that could be, if there were one more of the yards, streets, citizens. */
    private static void noSuchThing() {
        for (String call : new String[] {"5 street(2, 0)", "6 citizen(3, 0)", "7 does(3, 1, 0)",
            "8 wills(2)", "9 moves(3, 0)", "9 moves(0, 2)", "13 widest(3, 0)", "13 widest(0, 3)",
            "14 way(3, 0, 1)", "14 way(0, 3, 1)", "15 flow(3, 0, 0)", "15 flow(0, 3, 1)",
            "16 need(3, 0, 1)", "16 need(0, 3, 1)", "17 odds(3, 0, 5, 0)", "17 odds(0, 3, 5, 1)",
            "18 carriage(3)"}) {
            refused(call + " BAD", FRESH);
        }
        refused("23 mark(0, 2) NO", FRESH);
        for (String call : new String[] {"5 street(0, 0)", "6 citizen(0, 0)", "7 does(0, 1, 0)",
            "8 wills(0)", "9 moves(0, 0)", "13 widest(4, 0)", "13 widest(0, 4)", "14 way(4, 0, 1)",
            "14 way(0, 4, 1)", "15 flow(4, 0, 0)", "15 flow(0, 4, 1)", "16 need(4, 0, 1)",
            "16 need(0, 4, 1)", "17 odds(4, 0, 5, 0)", "17 odds(0, 4, 5, 1)", "18 carriage(0)"}) {
            refused(call + " BAD", NEW);
        }
        refused("23 mark(0, 0) NO", NEW);
    }

    private static void state() {
        refused("8 wills(0) STATE", FRESH);
        refused("8 wills(1) STATE", FRESH);
        refused("8 wills(0) STATE", BUSY);
        refused("8 wills(8) STATE", BRIM);
        refused("9 moves(0, 0) STATE", FRESH);
        refused("9 moves(2, 1) STATE", FRESH);
        refused("9 moves(0, 2) STATE", BUSY);
        refused("9 moves(5, 1) STATE", BRIM);
        refused("10 night(0) STATE", NEW);
        refused("10 night(0) STATE", FRESH);
        refused("10 night(1) STATE", BUSY);
        refused("10 night(1) STATE", BRIM);
        refused("11 undo() STATE", NEW);
        refused("11 undo() STATE", FRESH);
        refused("11 undo() STATE", "tell(s0 1 0;c0 1;) 2", "does(0, 1, 0) 1", "undo() 0");
        refused("25 back(0) STATE", NEW);
        refused("25 back(1) STATE", NEW);
        refused("25 back(0) STATE", FRESH);
        refused("25 back(1) STATE", BUSY);
        refused("25 back(0) STATE", "tell(s0 1 0;c0 1;) 2", "keep(1) 0", "night(1) 1");
    }

    private static void full() {
        refused("2 type(0) FULL", BRIM);
        refused("2 type(255) FULL", BRIM);
        refused("2 type(59) FULL", "types(" + ";".repeat(120) + ") 120");
        refused("19 measures(1, 0) FULL", BRIM);
        refused("19 measures(10, 1) FULL", BRIM);
        refused("19 measures(5, 0) FULL", "measures(6, 0) 1", "measures(6, 0) 2", "measures(6, 0) 3",
            "measures(6, 0) 4");
    }

    private static void badAheadOfAll() {
        refused("2 type(256) BAD", "types(" + " ".repeat(120) + ") 120");
        refused("19 measures(11, 0) BAD", BRIM);
        refused("19 measures(1, 2) BAD", BRIM);
        refused("9 moves(-1, -1) BAD", FRESH);
        refused("25 back(2) BAD", FRESH);
        refused("10 night(2) BAD", FRESH);
    }

    private static void faults() {
        refused("4 town() -19", BUSY);
        refused("4 town() -19", "types(y3;s0 1 2) 9");
        refused("4 town() -10", "tell(s0 1 0;c0 1;) 2", "keep(0) 0", "night(1) 1", "keep(1) 1",
            "measures(2, 1) 1", "types(;y3;) 4");
        refused("4 town() -41", "tell(y5;s0 1 2;c0 3;) 3", "does(0, 5, 0) 3",
            "types(y8;s7 6 1;s7 6 1;s7 6 1;c0 1;  x) 32");
        refused("4 town() -129", "tell(y5;s0 1 2;c0 3;) 3", "does(0, 5, 0) 3",
            "types(y8;s7 6 1;c0 1;" + " ".repeat(104) + "0) 120");
    }

    private static void questionsChangeNothing() {
        for (String call : new String[] {"5 street(0, 5) 6", "6 citizen(0, 2) 8", "12 now(1) 9",
            "13 widest(0, 2) 1", "14 way(0, 2, 1) 2", "15 flow(0, 2, 1) 2", "16 need(0, 2, 9) 3",
            "17 odds(0, 2, 3, 0) 49", "18 carriage(-1) 3", "18 carriage(0) 0", "21 deeds(0) 5",
            "21 deeds(1) 2", "22 when() 1", "26 count(4) 5", "27 trace() 10101"}) {
            refused(call, BUSY);
        }
    }

    /** A row is the promise's number and a step. */
    private static void refused(String row, String... made) {
        int blank = row.indexOf(' ');
        Twins.unchanged("promise " + row.substring(0, blank), made, row.substring(blank + 1));
    }
}
