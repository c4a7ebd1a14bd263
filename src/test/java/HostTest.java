/** Promises 29 to 33: sheets, cells, copies, news by a row, roads taken for others. */
final class HostTest {
    private static final int BAD = FloodCity.BAD;
    private static final int NOTHING = -11, OUTSIDE = -12, OTHER = -13, BELOW = -14;
    private static final int MAX = Integer.MAX_VALUE, MIN = Integer.MIN_VALUE;
    private static final Due due = new Due("HostTest");

    public static void main(String[] args) {
        sheets();
        cells();
        sheetsAreLaidEmpty();
        cellsAreCut();
        copies();
        copiesOverlap();
        newsRowRefused();
        newsRows();
        newsRowsFull();
        taken();
        due.end();
    }

    private static void sheets() {
        FloodCity c = new FloodCity();
        due.is("sheet -1", c.sheet(-1, 0, 1), BAD);
        due.is("sheet 4", c.sheet(4, 0, 1), BAD);
        due.is("sort -2", c.sheet(0, -2, 1), BAD);
        due.is("sort 3", c.sheet(0, 3, 1), BAD);
        due.is("n 41", c.sheet(0, 0, 41), BAD);
        due.is("n -1", c.sheet(0, 0, -1), BELOW);
        due.is("n least", c.sheet(0, 2, MIN), BELOW);
        due.is("sort ahead of size", c.sheet(0, 3, -1), BAD);
        due.is("still missing", c.cell(0, 0, 0), NOTHING);
        for (int sort = 0; sort < 3; sort++) {
            due.is("n 0", c.sheet(sort, sort, 0), 1);
            due.is("no cell", c.cell(sort, 0, 1), OUTSIDE);
            due.is("n 40", c.sheet(sort, sort, 40), 1);
            due.is("cell 39", c.cell(sort, 39, 1), 1);
            due.is("cell 40", c.cell(sort, 40, 1), OUTSIDE);
        }
        due.is("refused", c.sheet(0, 0, 41), BAD);
        due.is("is as before", c.cell(0, 39, 1), 1);
        due.is("missing, whatever n", c.sheet(0, -1, MIN), 1);
        due.is("missing", c.cell(0, 0, 0), NOTHING);
        due.is("missing, n 99", c.sheet(1, -1, 99), 1);
        due.is("missing sheet 1", c.cell(1, 0, 0), NOTHING);
        due.is("missing no sheet", c.sheet(4, -1, 0), BAD);
        due.is("missing already", c.sheet(1, -1, 0), 1);
    }

    private static void cells() {
        FloodCity c = new FloodCity();
        due.is("cell of sheet -1", c.cell(-1, 0, 0), BAD);
        due.is("cell of sheet 4", c.cell(4, 0, 0), BAD);
        due.is("cell of a missing one, outside too", c.cell(3, -1, 0), NOTHING);
        c.sheet(3, 2, 4);
        due.is("cell -1", c.cell(3, -1, 0), OUTSIDE);
        due.is("cell 4", c.cell(3, 4, 0), OUTSIDE);
        due.is("cell most", c.cell(3, MAX, 0), OUTSIDE);
        due.is("cell 3", c.cell(3, 3, MIN), 1);
        c.cell(3, 0, 1);
        c.cell(3, 1, 61);
        c.cell(3, 2, 99);
        c.cell(3, 3, 98);
        due.is("read back by news", c.newsRow(2, 3, 2, 0, 1), 1);
        due.is("water", c.known(2, 60, 0, 0), 99);
        due.is("wind", c.known(2, 1, 0, 1), 98);
        c.sheet(3, 2, 4);
        due.is("all 0 again: no hours from 0 ahead of 0", c.newsRow(2, 3, 2, 0, 1), 0);
    }

    /** A sheet that is laid again holds nothing of what it held. */
    private static void sheetsAreLaidEmpty() {
        FloodCity c = new FloodCity();
        c.news(0, 0, 61, 50, 60);
        c.sheet(0, 2, 4);
        due.is("cell 0", c.cell(0, 0, 7), 1);
        c.cell(0, 2, 7);
        c.cell(0, 3, 7);
        c.sheet(0, 2, 4);
        c.cell(0, 1, 5);
        due.is("from 0 ahead of 5", c.newsRow(0, 0, 2, 0, 1), 1);
        due.is("from 0 on", c.known(0, 0, 0, 0), 0);
        due.is("water 0", c.known(0, 4, 0, 0), 0);
        due.is("wind 0", c.known(0, 4, 0, 1), 0);
        due.is("ahead of 5", c.known(0, 5, 0, 1), 60);
    }

    private static void cellsAreCut() {
        int[] bits = {8, 16, 32};
        for (int sort = 0; sort < 3; sort++) {
            FloodCity c = new FloodCity();
            c.sheet(0, sort, 4);
            int high = bits[sort] == 32 ? 0 : 5 << bits[sort];
            c.cell(0, 0, high);
            c.cell(0, 1, high + 9);
            c.cell(0, 2, high + 50);
            c.cell(0, 3, high + 60);
            due.is("cut to " + bits[sort], c.newsRow(0, 0, sort, 0, 1), 1);
            due.is("water", c.known(0, 8, 0, 0), 50);
            due.is("wind", c.known(0, 8, 0, 1), 60);
            c.cell(0, 2, 256 + 7);
            due.is("256 + 7 in sort " + sort, c.newsRow(0, 0, sort, 0, 1), sort == 0 ? 1 : 0);
            c.cell(0, 2, 65536 + 7);
            due.is("65536 + 7 in sort " + sort, c.newsRow(0, 0, sort, 0, 1), sort == 2 ? 0 : 1);
        }
    }

    private static void copies() {
        FloodCity c = new FloodCity();
        c.sheet(0, 1, 5);
        c.sheet(1, 1, 3);
        c.sheet(2, 0, 5);
        int[][] calls = {{-1, 0, 1, 0, 1, BAD}, {4, 0, 1, 0, 1, BAD}, {0, 0, -1, 0, 1, BAD}, {0, 0, 4, 0, 1, BAD},
            {3, 0, 4, 0, 1, BAD}, {3, 0, 0, 0, 1, NOTHING}, {0, 0, 3, 0, 1, NOTHING}, {3, 0, 3, 0, 0, NOTHING},
            {3, -1, 2, -1, -1, NOTHING}, {0, 0, 2, 0, 1, OTHER}, {2, 0, 0, 0, 1, OTHER}, {0, -1, 2, 0, 99, OTHER},
            {0, 0, 1, 0, -1, OUTSIDE}, {0, -1, 1, 0, 1, OUTSIDE}, {0, 0, 1, -1, 1, OUTSIDE}, {0, 5, 1, 0, 1, OUTSIDE},
            {0, 0, 1, 3, 1, OUTSIDE}, {0, 0, 1, 0, 4, OUTSIDE}, {1, 0, 0, 0, 4, OUTSIDE}, {0, 0, 1, 0, MAX, OUTSIDE},
            {0, MAX, 1, 0, MAX, OUTSIDE}, {0, 0, 1, MAX, 1, OUTSIDE}, {0, 6, 1, 0, 0, OUTSIDE}, {0, 0, 1, 4, 0, OUTSIDE},
            {0, MIN, 1, 0, MIN, OUTSIDE}, {0, 5, 1, 3, 0, 0}, {0, 0, 1, 0, 3, 3}, {0, 2, 1, 0, 3, 3}, {0, 4, 1, 2, 1, 1},
            {0, 0, 0, 0, 5, 5}};
        for (int[] k : calls) {
            due.is("copy " + java.util.Arrays.toString(k), c.copy(k[0], k[1], k[2], k[3], k[4]), k[5]);
        }
    }

    /** A copy within one sheet brings the numbers as they were. */
    private static void copiesOverlap() {
        FloodCity c = new FloodCity();
        c.sheet(0, 2, 6);
        int[] row = {2, 9, 30, 40, 50, 60};
        for (int i = 0; i < row.length; i++) {
            c.cell(0, i, row[i]);
        }
        due.is("four by one on", c.copy(0, 0, 0, 1, 4), 4);
        due.is("2 9 30 40 from 1 on", c.newsRow(0, 0, 2, 1, 1), 1);
        due.is("water", c.known(0, 8, 0, 0), 30);
        due.is("wind", c.known(0, 2, 0, 1), 40);
        due.is("hour 9", c.known(0, 9, 0, 0), 0);
        due.is("back by one", c.copy(0, 1, 0, 0, 4), 4);
        due.is("2 9 30 40 from 0 on", c.newsRow(1, 0, 2, 0, 1), 1);
        due.is("water of track 1", c.known(1, 8, 0, 0), 30);
    }

    private static void newsRowRefused() {
        FloodCity c = new FloodCity();
        c.sheet(0, 1, 8);
        int[][] calls = {{-1, 0, 1, 0, 1, BAD}, {3, 0, 1, 0, 1, BAD}, {0, -1, 1, 0, 1, BAD}, {0, 4, 1, 0, 1, BAD},
            {0, 0, -1, 0, 1, BAD}, {0, 0, 3, 0, 1, BAD}, {0, 0, 1, 0, -1, BAD}, {0, 0, 1, 0, 11, BAD},
            {0, 1, 3, 0, 1, BAD}, {0, 1, 1, 0, 11, BAD}, {0, 0, 0, 0, 0, OTHER}, {0, 0, 2, -1, 1, OTHER},
            {0, 1, 0, 0, 0, NOTHING}, {0, 1, 1, -1, 1, NOTHING}, {0, 1, 2, 0, 1, NOTHING}, {0, 0, 1, -1, 1, OUTSIDE},
            {0, 0, 1, 5, 1, OUTSIDE}, {0, 0, 1, MAX, 1, OUTSIDE}, {0, 0, 1, MIN, 10, OUTSIDE}, {0, 0, 1, 0, 3, OUTSIDE},
            {0, 0, 1, -1, 0, 0}, {0, 0, 1, 99, 0, 0}, {0, 0, 1, 4, 1, 0}, {0, 0, 1, 0, 2, 0}};
        for (int[] k : calls) {
            due.is("newsRow " + java.util.Arrays.toString(k), c.newsRow(k[0], k[1], k[2], k[3], k[4]), k[5]);
        }
        due.is("no news", c.count(5), 0);
    }

    private static void newsRows() {
        FloodCity c = new FloodCity();
        c.pass(2);
        c.sheet(0, 0, 18);
        int[] row = {0, 2, 5, 10, 11, 1, 9, 55, 55, 4, 9, 20, 21, 5, 9, 100, 0, 6};
        for (int i = 0; i < row.length; i++) {
            c.cell(0, i, row[i]);
        }
        due.is("from 1 on two, one of them of the past", c.newsRow(1, 0, 0, 1, 2), 1);
        due.is("water", c.known(1, 4, 2, 0), 10);
        due.is("one that stood ahead came", c.newsRow(1, 0, 0, 9, 3), OUTSIDE);
        due.is("it came", c.known(1, 4, 2, 0), 20);
        due.is("news", c.count(5), 2);
        due.is("a water of 100 is left out", c.newsRow(1, 0, 0, 13, 1), 0);
        due.is("from 15 on there are no four", c.newsRow(1, 0, 0, 15, 1), OUTSIDE);
        due.is("all four", c.newsRow(2, 0, 0, 1, 4), 2);
        due.is("told now", c.known(2, 4, 1, 0), 0);
        due.is("told now, known now", c.known(2, 4, 2, 1), 21);
    }

    private static void newsRowsFull() {
        FloodCity c = new FloodCity();
        c.sheet(1, 2, 40);
        for (int i = 0; i < 10; i++) {
            c.cell(1, 4 * i, i);
            c.cell(1, 4 * i + 1, 61);
            c.cell(1, 4 * i + 2, i);
        }
        for (int i = 0; i < 3; i++) {
            due.is("ten news", c.newsRow(0, 1, 2, 0, 10), 10);
        }
        due.is("seven news", c.newsRow(0, 1, 2, 0, 7), 7);
        due.is("three have place", c.newsRow(1, 1, 2, 0, 10), 3);
        due.is("none has", c.newsRow(1, 1, 2, 0, 10), 0);
        due.is("news", c.count(5), 40);
        due.is("the last that came", c.known(1, 50, 0, 0), 2);
    }

    private static void taken() {
        FloodCity c = new FloodCity();
        due.is("k ahead of the road", c.taken(0, 6), BAD);
        due.is("k -1", c.taken(0, -1), BAD);
        due.is("no road", c.taken(0, 0), NOTHING);
        c.zone(0, 0, 0);
        String[] under = {"0", "10", "20", "310", "420", "50"};
        for (int kind = 0; kind < 6; kind++) {
            c.road(kind, 0, 20, 100 + kind);
            for (int k = 0; k < 6; k++) {
                boolean is = under[kind].indexOf('0' + k) >= 0;
                due.is("kind " + kind + " taken for " + k, c.taken(kind, k), is ? 100 + kind : OTHER);
            }
        }
        due.is("road 6", c.taken(6, 0), NOTHING);
        due.is("road -1", c.taken(-1, 0), NOTHING);
    }
}
