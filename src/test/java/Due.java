/** Counts answers that are not as due; every test of the project ends with end(). */
final class Due {
    private final String test;
    private int asked;
    private int wrong;

    Due(String test) {
        this.test = test;
    }

    void is(String call, long got, long want) {
        asked++;
        if (got != want) {
            wrong++;
            System.out.println(test + ": " + call + " answered " + got + ", due is " + want);
        }
    }

    void holds(String what, boolean is) {
        asked++;
        if (!is) {
            wrong++;
            System.out.println(test + ": " + what + " does not hold");
        }
    }

    void end() {
        System.out.println(test + ": " + asked + " answers, " + wrong + " not as due");
        if (wrong != 0 || asked == 0) {
            System.exit(1);
        }
    }

    /** Feeds a whole text, eight bytes a call: what the last feed answered. */
    static int feedAll(FloodCity city, String text) {
        int size = 0;
        for (int i = 0; i < text.length(); i += 8) {
            int n = Math.min(8, text.length() - i);
            long bytes = 0;
            for (int k = 0; k < n; k++) {
                bytes |= (long) (text.charAt(i + k) & 255) << 8 * k;
            }
            size = city.feed(n, bytes);
        }
        return size;
    }

    /** Feeds a text and takes it: its number, or what text() answered. */
    static int textOf(FloodCity city, String text) {
        feedAll(city, text);
        return city.text();
    }
}
