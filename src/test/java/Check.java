/** Counts the answers that are not the ones that are due. */
final class Check {
    private final String test;
    private String about = "";
    private int asked;
    private int wrong;

    Check(String test) {
        this.test = test;
    }

    /** What is asked from here on would be answered otherwise, if this sentence of the document were broken. */
    void sentence(int promise, String words) {
        about = (promise == Document.TERMS ? "Terms" : "promise " + promise) + ", '" + words + "': ";
        isTrue("it stands in the document", Document.says(promise, words));
    }

    void due(String call, long got, long want) {
        asked++;
        if (got == want) return;
        wrong++;
        if (wrong <= 40) System.out.println(test + ": " + about + call + " answered " + got + ", due is " + want);
    }

    void isTrue(String what, boolean holds) {
        due(what, holds ? 1 : 0, 1);
    }

    /** The call answers this, and whatever can be asked behind it is answered as if it hadn't been made. */
    void refused(String call, Look.Made made, Look.Asked asking, long want) {
        OneIsTwo asked = made.make();
        due(call, asking.ask(asked), want);
        Look.same(this, call + " changes nothing", asked, made.make());
    }

    /** Feeds a text to THE TAPE and has it read. */
    static int law(OneIsTwo x, String text) {
        feed(x, text);
        return x.law();
    }

    static void feed(OneIsTwo x, String text) {
        for (int i = 0; i < text.length(); i += 8) {
            long eight = 0;
            int n = Math.min(8, text.length() - i);
            for (int k = 0; k < n; k++) eight |= (long) (text.charAt(i + k) & 255) << 8 * k;
            x.feed(eight, n);
        }
    }

    void close() {
        System.out.println(test + ": " + asked + " answers, " + wrong + " not as due");
        if (wrong != 0) System.exit(1);
    }
}
