/** What all tests of the project share: answers that are due, and objects that were told a text. */
public final class Check {
    private static int wrong;
    private static int asked;

    private Check() {
    }

    public static void due(String call, long got, long want) {
        asked++;
        if (got != want) {
            wrong++;
            System.out.println(call + " answered " + got + ", due is " + want);
        }
    }

    static void end() {
        System.out.println(asked + " answers, " + wrong + " of them not as due");
        if (wrong != 0 || asked == 0) {
            System.exit(1);
        }
    }

    static int wrong() {
        return wrong;
    }

    static void type(KindStreets x, String text) {
        for (int i = 0; i < text.length(); i++) {
            x.type(text.charAt(i));
        }
    }

    static int tell(KindStreets x, String text) {
        type(x, text);
        return x.town();
    }

    static KindStreets told(String text) {
        KindStreets x = new KindStreets();
        if (tell(x, text) < 0) {
            wrong++;
            System.out.println("not read: " + text);
        }
        return x;
    }

    /** All that can be asked without changing anything, as a text. */
    static String all(KindStreets x) {
        StringBuilder all = new StringBuilder();
        for (int what = 0; what <= 5; what++) {
            all.append(x.count(what)).append(' ');
        }
        for (int what = 0; what <= 2; what++) {
            all.append(x.now(what)).append(' ');
        }
        for (int s = 0; s < x.count(1); s++) {
            for (int what = 0; what <= 6; what++) {
                all.append(x.street(s, what)).append(' ');
            }
        }
        for (int p = 0; p < x.count(2); p++) {
            for (int what = 0; what <= 2; what++) {
                all.append(x.citizen(p, what)).append(' ');
            }
        }
        all.append(x.deeds(0)).append(' ').append(x.deeds(1)).append(' ').append(x.trace());
        return all.toString();
    }

    static void same(String call, String got, String want) {
        due(call + " (" + got + ", due is " + want + ")", got.equals(want) ? 1 : 0, 1);
    }
}
