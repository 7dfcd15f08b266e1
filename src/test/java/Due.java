/** Counts answers that are as due and prints those that are not. */
final class Due {
    private final String name;
    private final int[] asked = new int[48];
    private int right = 0;
    private int wrong = 0;

    Due(String name) {
        this.name = name;
    }

    void same(int promise, String call, long got, long want) {
        asked[promise]++;
        if (got == want) {
            right++;
            return;
        }
        wrong++;
        if (wrong <= 40) {
            System.out.println(name + ": promise " + promise + ": " + call + " answered " + got + ", due is " + want);
        }
    }

    void holds(String what, boolean does) {
        same(0, what, does ? 1 : 0, 1);
    }

    int wrongs() {
        return wrong;
    }

    int asked(int promise) {
        return asked[promise];
    }

    /** Ends the program: with exit code 1 if one answer was not as due. */
    void end() {
        System.out.println(name + ": " + right + " answers as due, " + wrong + " not");
        if (wrong != 0) {
            System.exit(1);
        }
    }
}
