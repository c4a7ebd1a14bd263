/** Promises 12 to 16: the end, likely tracks, the true track, news, what was known. */
final class StormTest {
    private static final int BAD = FloodCity.BAD, FULL = FloodCity.FULL;
    private static final Due due = new Due("StormTest");

    public static void main(String[] args) {
        end();
        likely();
        truth();
        newsRefused();
        newsFull();
        known();
        due.end();
    }

    private static void end() {
        FloodCity c = new FloodCity();
        due.is("end 0", c.end(0), BAD);
        due.is("end 61", c.end(61), BAD);
        due.is("end -1", c.end(-1), BAD);
        due.is("end 60", c.end(60), 30);
        due.is("end 1", c.end(1), 60);
        due.is("end 9", c.end(9), 1);
        c.pass(5);
        due.is("end below now", c.end(4), BAD);
        due.is("end unchanged", c.count(6), 9);
        due.is("end now", c.end(5), 9);
        due.is("nothing passes at the end", c.pass(1), FULL);
        due.is("end later again", c.end(6), 5);
        due.is("then it passes", c.pass(1), 6);
    }

    private static void likely() {
        FloodCity c = new FloodCity();
        due.is("likely -1", c.likely(-1, 1), BAD);
        due.is("likely 3", c.likely(3, 1), BAD);
        due.is("likely is 2", c.likely(0, 2), BAD);
        due.is("likely is -1", c.likely(0, -1), BAD);
        due.is("track 0 at first", c.likely(0, 0), 1);
        due.is("track 0 then", c.likely(0, 1), 0);
        due.is("track 0 again", c.likely(0, 1), 1);
        due.is("track 2 at first", c.likely(2, 1), 0);
        due.is("track 2 then", c.likely(2, 0), 1);
    }

    private static void truth() {
        FloodCity c = new FloodCity();
        due.is("truth -1", c.truth(-1), BAD);
        due.is("truth 3", c.truth(3), BAD);
        due.is("truth at first", c.truth(2), 0);
        due.is("truth then", c.truth(1), 2);
        due.is("truth same", c.truth(1), 1);
        c.zone(0, 7, 0);
        c.news(1, 0, 61, 1, 50);
        due.is("by the true track in water", c.inWater(), 7);
        due.is("by the true track the wind", c.says(0, 1), 0);
        c.news(1, 0, 61, 1, 61);
        due.is("by the true track too much wind", c.says(0, 1), 1);
        c.truth(0);
        due.is("by another one dry", c.inWater(), 0);
    }

    private static void newsRefused() {
        FloodCity c = new FloodCity();
        c.pass(3);
        int[][] bad = {{-1, 3, 9, 0, 0}, {3, 3, 9, 0, 0}, {0, 2, 9, 0, 0}, {0, 61, 62, 0, 0}, {0, 61, 61, 0, 0},
            {0, 5, 5, 0, 0}, {0, 5, 4, 0, 0}, {0, 5, 62, 0, 0}, {0, 5, 9, -1, 0}, {0, 5, 9, 100, 0}, {0, 5, 9, 0, -1},
            {0, 5, 9, 0, 100}, {0, Integer.MAX_VALUE, Integer.MIN_VALUE, 0, 0}, {0, -1, 9, 0, 0}};
        for (int[] b : bad) {
            due.is("news " + java.util.Arrays.toString(b), c.news(b[0], b[1], b[2], b[3], b[4]), BAD);
        }
        due.is("no news came", c.count(5), 0);
        due.is("news from now on", c.news(2, 3, 61, 99, 99), 0);
        due.is("news of the last hour", c.news(2, 60, 61, 0, 0), 1);
        due.is("water of hour 59", c.known(2, 59, 3, 0), 99);
        due.is("water of hour 60", c.known(2, 60, 3, 0), 0);
    }

    private static void newsFull() {
        FloodCity c = new FloodCity();
        for (int i = 0; i < 40; i++) {
            due.is("news " + i, c.news(i % 3, 0, 61, i, 0), i);
        }
        due.is("news 41st", c.news(0, 0, 61, 1, 1), FULL);
        due.is("news 41st, BAD first", c.news(0, 0, 61, 100, 1), BAD);
        due.is("news", c.count(5), 40);
        due.is("the last of track 0", c.known(0, 9, 0, 0), 39);
        due.is("the last of track 1", c.known(1, 9, 0, 0), 37);
    }

    private static void known() {
        FloodCity c = new FloodCity();
        c.news(1, 4, 8, 10, 20);
        c.news(1, 5, 7, 30, 40);
        c.pass(2);
        c.news(1, 6, 9, 50, 60);
        c.news(0, 2, 61, 77, 78);
        c.pass(2);
        int[] water0 = {0, 10, 30, 30, 10, 0};
        int[] water2 = {0, 10, 30, 50, 50, 50};
        for (int i = 0; i < 6; i++) {
            due.is("water of " + (3 + i) + " in 0", c.known(1, 3 + i, 0, 0), water0[i]);
            due.is("water of " + (3 + i) + " in 1", c.known(1, 3 + i, 1, 0), water0[i]);
            due.is("water of " + (3 + i) + " in 2", c.known(1, 3 + i, 2, 0), water2[i]);
            due.is("water of " + (3 + i) + " in 4", c.known(1, 3 + i, 4, 0), water2[i]);
            due.is("wind of " + (3 + i) + " in 4", c.known(1, 3 + i, 4, 1), water2[i] == 0 ? 0 : water2[i] + 10);
        }
        int[][] bad = {{-1, 0, 0, 0}, {3, 0, 0, 0}, {0, -1, 0, 0}, {0, 61, 0, 0}, {0, 0, -1, 0}, {0, 0, 5, 0},
            {0, 0, 0, -1}, {0, 0, 0, 2}};
        for (int[] b : bad) {
            due.is("known " + java.util.Arrays.toString(b), c.known(b[0], b[1], b[2], b[3]), BAD);
        }
        due.is("known in now of hour 60", c.known(0, 60, 4, 1), 78);
        due.is("known of hour 0", c.known(0, 0, 4, 1), 0);
    }
}
