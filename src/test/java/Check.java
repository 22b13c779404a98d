/** Counts the answers that are not as due; every test ends by finish(). */
final class Check {
    private static int asked = 0;
    private static int wrong = 0;

    private Check() {
    }

    static void due(String what, long got, long want) {
        asked++;
        if (got != want) {
            wrong++;
            System.out.println(what + " answered " + got + ", due is " + want);
        }
    }

    static void holds(String what, boolean so) {
        asked++;
        if (!so) {
            wrong++;
            System.out.println(what + " does not hold");
        }
    }

    /** A new object to which this text has been told. */
    static SummitTime told(String text) {
        SummitTime x = new SummitTime();
        tell(x, text);
        return x;
    }

    static void tell(SummitTime x, String text) {
        put(x, text);
        holds("text is told: " + text, x.top() > 0);
    }

    static void put(SummitTime x, String text) {
        for (int i = 0; i < text.length(); i++) {
            x.write(text.charAt(i));
        }
    }

    static void finish() {
        System.out.println(asked + " answers looked at, " + wrong + " not as due");
        if (wrong != 0) {
            System.exit(1);
        }
    }
}
