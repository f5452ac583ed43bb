/** Counts what is not as it is due; a test ends with end(). */
final class Due {
    private static int checked = 0;
    private static int wrong = 0;

    private Due() { }

    static void is(String what, long got, long want) {
        checked++;
        if (got != want) {
            wrong++;
            System.out.println(what + " answered " + got + ", due is " + want);
        }
    }

    static void same(String what, String got, String want) {
        checked++;
        if (!got.equals(want)) {
            wrong++;
            System.out.println(what + "\n  is     " + got + "\n  due is " + want);
        }
    }

    static void end() {
        System.out.println(checked + " checks, " + wrong + " not as due");
        if (wrong != 0 || checked == 0) {
            System.exit(1);
        }
    }
}
