import java.util.Random;

/** All promises: runs of calls (512 at most), the same for the class and for the plain model. */
public final class ModelTest {
    private static final int RUNS = 1500, CALLS = 512, CALLS_OF_A_TEXT = 125, CALLS_OF_A_STEP = 9;
    private static final int ENOUGH_WRONG = 20;

    private final Random dice;
    private final int run;
    private final KindStreets x = new KindStreets();
    private final Model model = new Model();
    private int left = CALLS;

    private ModelTest(int run) {
        this.run = run;
        this.dice = new Random(run);
    }

    public static void main(String[] args) {
        for (int run = 0; run < RUNS && Check.wrong() < ENOUGH_WRONG; run++) {
            new ModelTest(run).calls();
        }
        Check.end();
    }

    private void calls() {
        tell(text());
        while (left >= CALLS_OF_A_STEP && Check.wrong() < ENOUGH_WRONG) {
            if (left >= CALLS_OF_A_TEXT && dice.nextInt(60) == 0) {
                tell(dice.nextInt(2) == 0 ? spoilt(text()) : text());
            } else {
                call();
            }
        }
    }

    private void tell(String text) {
        for (int i = 0; i < text.length(); i++) {
            due("type(" + (int) text.charAt(i) + ")", x.type(text.charAt(i)), model.type(text.charAt(i)));
        }
        due("town() of '" + text + "'", x.town(), model.town());
        if (dice.nextInt(3) > 0) {
            due("clear()", x.clear(), model.clear());
        }
    }

    /** Few yards and many streets, or many and few: so that there are ways, and none. */
    private String text() {
        StringBuilder text = new StringBuilder();
        int yards = 4;
        if (dice.nextInt(4) > 0) {
            yards = 2 + dice.nextInt(7);
            text.append("y").append(yards).append(";");
        }
        int streets = dice.nextInt(10);
        int citizens = streets == 0 ? 0 : dice.nextInt(7);
        int most = 1 + dice.nextInt(10);
        for (int s = 0; s < streets; s++) {
            int a = dice.nextInt(yards);
            int b = (a + 1 + dice.nextInt(yards - 1)) % yards;
            text.append("s").append(a).append(" ").append(b).append(" ").append(dice.nextInt(most)).append(";");
        }
        for (int p = 0; p < citizens; p++) {
            text.append("c").append(dice.nextInt(streets)).append(" ").append(1 + dice.nextInt(10)).append(";");
        }
        return text.toString();
    }

    private String spoilt(String text) {
        StringBuilder spoilt = new StringBuilder(text);
        String signs = " ;yscz0123456789!";
        for (int i = 0; i <= dice.nextInt(3); i++) {
            int at = dice.nextInt(spoilt.length() + 1);
            char sign = signs.charAt(dice.nextInt(signs.length()));
            if (dice.nextInt(3) == 0) {
                spoilt.setLength(at);
            } else if (dice.nextInt(2) == 0 && at < spoilt.length()) {
                spoilt.setCharAt(at, sign);
            } else {
                spoilt.insert(at, sign);
            }
        }
        return spoilt.toString();
    }

    /** A number that is mostly as told, sometimes just beyond, seldom far off. */
    private int number(int least, int most) {
        int how = dice.nextInt(40);
        if (how == 0) {
            return least - 1;
        }
        if (how == 1) {
            return most + 1;
        }
        if (how == 2) {
            return dice.nextInt();
        }
        return least + dice.nextInt(Math.max(1, most - least + 1));
    }

    private int yard() {
        return number(0, model.count(0) - 1);
    }

    private int street() {
        return number(0, model.count(1) - 1);
    }

    private int citizen() {
        return number(0, model.count(2) - 1);
    }

    private void call() {
        int a = yard();
        int b = yard();
        int s = street();
        int p = citizen();
        int what = number(0, 1);
        int width = number(1, 10);
        switch (dice.nextInt(40)) {
            case 0 -> seven(s);
            case 1 -> three(p);
            case 2, 3, 4, 5, 6, 7 -> {
                int much = number(1, 9);
                due("does(" + p + ", " + much + ", " + what + ")", x.does(p, much, what), model.does(p, much, what));
            }
            case 8, 9, 10 -> due("wills(" + s + ")", x.wills(s), model.wills(s));
            case 11, 12 -> due("moves(" + p + ", " + s + ")", x.moves(p, s), model.moves(p, s));
            case 13, 14 -> due("night(" + what + ")", x.night(what), model.night(what));
            case 15, 16 -> due("undo()", x.undo(), model.undo());
            case 17 -> {
                int of = number(0, 2);
                due("now(" + of + ")", x.now(of), model.now(of));
            }
            case 18, 19 -> due("widest(" + a + ", " + b + ")", x.widest(a, b), model.widest(a, b));
            case 20, 21 -> due("way(" + a + ", " + b + ", " + width + ")", x.way(a, b, width), model.way(a, b, width));
            case 22, 23 -> due("flow(" + a + ", " + b + ", " + what + ")", x.flow(a, b, what), model.flow(a, b, what));
            case 24, 25 -> due("need(" + a + ", " + b + ", " + width + ")", x.need(a, b, width), model.need(a, b, width));
            case 26 -> {
                int shut = number(0, 10);
                due("odds(" + a + ", " + b + ", " + shut + ", " + what + ")",
                    x.odds(a, b, shut, what), model.odds(a, b, shut, what));
            }
            case 27 -> {
                if (dice.nextInt(8) == 0) {
                    for (int one = -1; one < model.count(2); one++) {
                        due("carriage(" + one + ")", x.carriage(one), model.carriage(one));
                    }
                }
            }
            case 28, 29 -> due("measures(" + width + ", " + what + ")", x.measures(width, what), model.measures(width, what));
            case 30 -> due("forget()", x.forget(), model.forget());
            case 31, 32 -> due("deeds(" + what + ")", x.deeds(what), model.deeds(what));
            case 33, 34 -> due("when()", x.when(), model.when());
            case 35 -> {
                int kind = number(0, 5);
                due("mark(" + kind + ", " + s + ")", x.mark(kind, s), model.mark(kind, s));
            }
            case 36 -> due("keep(" + what + ")", x.keep(what), model.keep(what));
            case 37 -> due("back(" + what + ")", x.back(what), model.back(what));
            case 38 -> {
                int of = number(0, 5);
                due("count(" + of + ")", x.count(of), model.count(of));
            }
            default -> due("trace()", x.trace(), model.trace());
        }
    }

    private void seven(int s) {
        for (int what = -1; what <= 7; what++) {
            due("street(" + s + ", " + what + ")", x.street(s, what), model.street(s, what));
        }
    }

    private void three(int p) {
        for (int what = -1; what <= 3; what++) {
            due("citizen(" + p + ", " + what + ")", x.citizen(p, what), model.citizen(p, what));
        }
    }

    private void due(String call, long got, long want) {
        left--;
        Check.due("run " + run + ": " + call, got, want);
    }
}
