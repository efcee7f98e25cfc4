/** Counts and prints the answers that are not as due. */
final class Due {
    private static int wrong = 0;
    private static int asked = 0;

    private Due() {
    }

    static void is(String call, long got, long want) {
        asked++;
        if (got != want) {
            tell(call, Long.toString(got), Long.toString(want));
        }
    }

    static void is(String call, double got, double want) {
        asked++;
        if (Double.doubleToRawLongBits(got) != Double.doubleToRawLongBits(want)) {
            tell(call, Double.toString(got), Double.toString(want));
        }
    }

    private static void tell(String call, String got, String want) {
        wrong++;
        if (wrong <= 40) {
            String shown = call.length() > 200 ? call.substring(0, 200) + ".." : call;
            System.out.println(shown + " answered " + got + ", due is " + want);
        }
    }

    /** The last call of every test. */
    static void end(String test) {
        System.out.println(test + ": " + asked + " answers, " + wrong + " not as due");
        if (wrong != 0 || asked == 0) {
            System.exit(1);
        }
    }
}
