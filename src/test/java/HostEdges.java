/** The edges of ==== 7 and of promises 29 to 33. */
final class HostEdges {
    private final Edges edges;

    HostEdges(Edges edges) {
        this.edges = edges;
    }

    void hold() throws ReflectiveOperationException {
        sheets();
        sheet();
        cell();
        bits();
        copy();
        copied();
        newsRow();
        newsRowPlaces();
        newsRowLeavesOut();
        taken();
    }

    /** News from a sheet's four cells from place 0 on: its water and wind are 7 and 8, until hour 9. */
    private static String row(int sheet) {
        return "cell(S, 0, 0) = 1 | cell(S, 1, 9) = 1 | cell(S, 2, 7) = 1 | cell(S, 3, 8) = 1\n".replace("S", ""
            + sheet);
    }

    private void sheets() throws ReflectiveOperationException {
        edges.hold("==== 7", "SHEETS 0 .. 3", """
            sheet(-1, 0, 1) = BAD | sheet(4, 0, 1) = BAD | cell(-1, 0, 0) = BAD | cell(4, 0, 0) = BAD
            sheet(0, 0, 4) = 1 | sheet(3, 0, 4) = 1 | copy(-1, 0, 0, 0, 1) = BAD | copy(4, 0, 0, 0, 1) = BAD
            copy(0, 0, -1, 0, 1) = BAD | copy(0, 0, 4, 0, 1) = BAD | copy(0, 0, 3, 0, 1) = 1 | copy(3, 0, 0, 0, 1) = 1
            newsRow(0, -1, 0, 0, 0) = BAD | newsRow(0, 4, 0, 0, 0) = BAD | newsRow(0, 3, 0, 0, 0) = 0
            newsRow(0, 0, 0, 0, 0) = 0 | cell(3, 0, 5) = 1
            """);
        edges.hold("==== 7", "are rows of numbers, or missing (as all are at first)",
            Edges.rows(0, 3, "cell(@, 0, 0) = -11 | newsRow(0, @, 0, 0, 0) = -11 | copy(@, 0, @, 0, 0) = -11"),
            "sheet(0, 0, 0) = 1 | cell(0, 0, 0) = -12 | newsRow(0, 0, 0, 0, 0) = 0 | newsRow(0, 0, 0, 0, 1) = -12 | "
                + "copy(0, 0, 0, 0, 0) = 0 | copy(0, 0, 0, 0, 1) = -12");
        edges.hold("==== 7", "of sort 0 bytes, 1 shorts, 2 ints.", Edges.rows(0, 2, "sheet(@, @, 4) = 1") + row(0)
            + row(1) + row(2) + """
            newsRow(0, 0, 0, 0, 1) = 1 | newsRow(0, 0, 1, 0, 1) = -13 | newsRow(0, 0, 2, 0, 1) = -13
            newsRow(1, 1, 1, 0, 1) = 1 | newsRow(1, 1, 0, 0, 1) = -13 | newsRow(1, 1, 2, 0, 1) = -13
            newsRow(2, 2, 2, 0, 1) = 1 | newsRow(2, 2, 0, 0, 1) = -13 | newsRow(2, 2, 1, 0, 1) = -13 | count(5) = 3
            known(0, 8, 0, 0) = 7 | known(1, 8, 0, 0) = 7 | known(2, 8, 0, 1) = 8
            """);
    }

    private void sheet() throws ReflectiveOperationException {
        edges.hold("Promise 29", "A SHEET becomes a row of n of a sort, all 0", Edges.rows(0, 2, """
            sheet(3, @, 0) = 1 | cell(3, 0, 1) = -12 | sheet(3, @, 1) = 1 | cell(3, 0, 1) = 1 | cell(3, 1, 1) = -12
            sheet(3, @, 40) = 1 | cell(3, 39, 1) = 1 | cell(3, 40, 1) = -12
            """), """
            # laid again it holds nothing of what it held, also of another sort
            sheet(0, 2, 4) = 1 | cell(0, 0, 3) = 1 | cell(0, 1, 9) = 1 | cell(0, 2, 7) = 1 | cell(0, 3, 8) = 1
            sheet(0, 2, 4) = 1 | newsRow(0, 0, 2, 0, 1) = 0 | cell(0, 1, 5) = 1 | news(0, 0, 61, 50, 60) = 0
            newsRow(0, 0, 2, 0, 1) = 1 | known(0, 0, 0, 0) = 0 | known(0, 4, 0, 1) = 0 | known(0, 5, 0, 0) = 50
            cell(0, 2, 7) = 1 | cell(0, 3, 8) = 1 | sheet(0, 1, 4) = 1 | cell(0, 1, 7) = 1 | newsRow(0, 0, 1, 0, 1) = 1
            known(0, 6, 0, 0) = 0 | known(0, 6, 0, 1) = 0
            """);
        edges.hold("Promise 29", "or missing (sort -1: n does not matter): 1.", """
            sheet(0, 0, 4) = 1 | sheet(0, -1, 0) = 1 | cell(0, 0, 0) = -11 | sheet(0, -1, 0) = 1 | sheet(0, 1, 4) = 1
            sheet(0, -1, -1) = 1 | cell(0, 0, 0) = -11 | sheet(1, 2, 4) = 1 | sheet(1, -1, 41) = 1 | cell(1, 0, 0) = -11
            sheet(2, -1, MIN) = 1 | sheet(3, -1, MAX) = 1 | sheet(3, 0, 4) = 1 | cell(3, 0, 1) = 1 | sheet(3, -1, 4) = 1
            sheet(3, 0, 4) = 1 | cell(3, 1, 5) = 1 | newsRow(0, 3, 0, 0, 1) = 1
            """);
        edges.hold("Promise 29", "BAD: no such SHEET, sort; n above 40; -14.", "sheet(1, 2, 4) = 1 | " + row(1) + """
            sheet(-1, 0, 1) = BAD | sheet(4, 0, 1) = BAD | sheet(MIN, 0, 1) = BAD | sheet(MAX, 0, 1) = BAD
            sheet(4, -1, 1) = BAD | sheet(-1, -1, 1) = BAD | sheet(1, -2, 1) = BAD | sheet(1, 3, 1) = BAD
            sheet(1, MIN, 1) = BAD | sheet(1, MAX, 1) = BAD | sheet(1, 0, 41) = BAD | sheet(1, 1, 41) = BAD
            sheet(1, 2, 41) = BAD | sheet(1, 2, MAX) = BAD | sheet(1, 0, -1) = -14 | sheet(1, 1, -1) = -14
            sheet(1, 2, -1) = -14 | sheet(1, 2, MIN) = -14 | sheet(4, 0, -1) = BAD | sheet(1, 3, -1) = BAD
            sheet(1, -2, -1) = BAD | newsRow(0, 1, 2, 0, 1) = 1 | known(0, 8, 0, 1) = 8 | sheet(2, 0, -1) = -14
            cell(2, 0, 0) = -11
            """);
    }

    private void cell() throws ReflectiveOperationException {
        edges.hold("Promise 30", "Item i of a SHEET becomes v", "sheet(0, 2, 4) = 1 | " + row(0) + """
            newsRow(0, 0, 2, 0, 1) = 1 | known(0, 8, 0, 0) = 7 | known(0, 8, 0, 1) = 8 | known(0, 9, 0, 0) = 0
            cell(0, 2, 99) = 1 | cell(0, 3, 0) = 1 | newsRow(0, 0, 2, 0, 1) = 1 | known(0, 8, 0, 0) = 99
            known(0, 8, 0, 1) = 0 | cell(0, 0, 60) = 1 | cell(0, 1, 61) = 1 | newsRow(0, 0, 2, 0, 1) = 1
            known(0, 60, 0, 0) = 99 | cell(0, 1, MIN) = 1 | newsRow(0, 0, 2, 0, 1) = 0 | cell(0, 1, MAX) = 1
            newsRow(0, 0, 2, 0, 1) = 0
            """);
        edges.hold("Promise 30", "BAD: no such SHEET; -11; -12.", "sheet(0, 1, 4) = 1 | " + row(0) + """
            cell(-1, 0, 0) = BAD | cell(4, 0, 0) = BAD | cell(MIN, 0, 0) = BAD | cell(MAX, 0, 0) = BAD
            cell(4, -1, 0) = BAD | cell(1, 0, 0) = -11 | cell(3, 0, 0) = -11 | cell(1, -1, 0) = -11
            cell(1, MAX, 0) = -11 | cell(0, -1, 0) = -12 | cell(0, 4, 0) = -12 | cell(0, MIN, 0) = -12
            cell(0, MAX, 0) = -12 | newsRow(0, 0, 1, 0, 1) = 1 | known(0, 8, 0, 0) = 7 | known(0, 8, 0, 1) = 8
            cell(0, 3, 9) = 1 | cell(0, 0, 1) = 1
            """);
    }

    private void bits() throws ReflectiveOperationException {
        String held = "(of bytes, shorts its lowest 8, 16 bits): 1.";
        edges.hold("Promise 30", held, "sheet(0, 0, 4) = 1 | " + row(0) + """
            cell(0, 2, 355) = 1 | newsRow(0, 0, 0, 0, 1) = 1 | known(0, 8, 0, 0) = 99 | cell(0, 2, 356) = 1
            newsRow(0, 0, 0, 0, 1) = 0 | cell(0, 2, 256) = 1 | newsRow(0, 0, 0, 0, 1) = 1 | known(0, 8, 0, 0) = 0
            cell(0, 2, 255) = 1 | newsRow(0, 0, 0, 0, 1) = 0 | cell(0, 2, 128) = 1 | newsRow(0, 0, 0, 0, 1) = 0
            cell(0, 2, -250) = 1 | newsRow(0, 0, 0, 0, 1) = 1 | known(0, 8, 0, 0) = 6 | cell(0, 2, -1) = 1
            newsRow(0, 0, 0, 0, 1) = 0 | cell(0, 2, MIN) = 1 | newsRow(0, 0, 0, 0, 1) = 1 | cell(0, 2, MAX) = 1
            newsRow(0, 0, 0, 0, 1) = 0 | cell(0, 2, 65541) = 1 | newsRow(0, 0, 0, 0, 1) = 1 | known(0, 8, 0, 0) = 5
            """, "sheet(0, 1, 4) = 1 | " + row(0) + """
            cell(0, 2, 256) = 1 | newsRow(0, 0, 1, 0, 1) = 0 | cell(0, 2, 65635) = 1 | newsRow(0, 0, 1, 0, 1) = 1
            known(0, 8, 0, 0) = 99 | cell(0, 2, 65636) = 1 | newsRow(0, 0, 1, 0, 1) = 0 | cell(0, 2, 65535) = 1
            newsRow(0, 0, 1, 0, 1) = 0 | cell(0, 2, 32768) = 1 | newsRow(0, 0, 1, 0, 1) = 0 | cell(0, 2, -65530) = 1
            newsRow(0, 0, 1, 0, 1) = 1 | known(0, 8, 0, 0) = 6 | cell(0, 2, MIN) = 1 | newsRow(0, 0, 1, 0, 1) = 1
            known(0, 8, 0, 0) = 0 | cell(0, 2, MAX) = 1 | newsRow(0, 0, 1, 0, 1) = 0
            """, "sheet(0, 2, 4) = 1 | " + row(0) + """
            cell(0, 2, 256) = 1 | newsRow(0, 0, 2, 0, 1) = 0 | cell(0, 2, 65536) = 1 | newsRow(0, 0, 2, 0, 1) = 0
            cell(0, 2, MIN) = 1 | newsRow(0, 0, 2, 0, 1) = 0 | cell(0, 2, -16777216) = 1 | newsRow(0, 0, 2, 0, 1) = 0
            cell(0, 2, 99) = 1 | newsRow(0, 0, 2, 0, 1) = 1
            """);
    }

    private void copy() throws ReflectiveOperationException {
        String city = "sheet(0, 1, 5) = 1 | sheet(1, 1, 3) = 1 | sheet(2, 0, 5) = 1 | cell(0, 1, 9) = 1 | "
            + "cell(0, 2, 7) = 1 | cell(0, 3, 8) = 1\n";
        edges.hold("Promise 31", "n numbers of a SHEET, from item i on, come to another one's item j on", city + """
            copy(0, 0, 1, 0, 3) = 3 | copy(0, 2, 1, 0, 3) = 3 | copy(0, 4, 1, 2, 1) = 1 | copy(0, 5, 1, 3, 0) = 0
            copy(0, 0, 1, 0, 0) = 0 | copy(1, 0, 0, 2, 3) = 3 | copy(1, 2, 0, 4, 1) = 1
            """, """
            # from the second on to the third on, no further
            sheet(0, 2, 6) = 1 | sheet(3, 2, 7) = 1 | cell(0, 1, 3) = 1 | cell(0, 2, 9) = 1 | cell(0, 3, 7) = 1
            cell(0, 4, 8) = 1 | cell(0, 5, 55) = 1 | cell(3, 6, 66) = 1 | copy(0, 1, 3, 2, 4) = 4
            newsRow(1, 3, 2, 2, 1) = 1 | known(1, 2, 0, 0) = 0 | known(1, 3, 0, 0) = 7 | known(1, 8, 0, 1) = 8
            known(1, 9, 0, 0) = 0
            # what stands beside them stays: 0 3 9 7 is wind 7 in hours 0 to 2, 9 7 8 66 are no news
            newsRow(1, 3, 2, 1, 1) = 1 | known(1, 0, 0, 0) = 9 | known(1, 2, 0, 1) = 7 | newsRow(1, 3, 2, 3, 1) = 0
            cell(3, 4, 10) = 1 | newsRow(1, 3, 2, 3, 1) = 1 | known(1, 9, 0, 1) = 66 | newsRow(2, 0, 2, 1, 1) = 1
            known(2, 3, 0, 0) = 7
            """);
        edges.hold("Promise 31", "BAD: no such SHEET; -11; -13: they are of unlike sorts; -12 (also with n below 0).",
            city + """
            copy(-1, 0, 1, 0, 1) = BAD | copy(4, 0, 1, 0, 1) = BAD | copy(0, 0, -1, 0, 1) = BAD
            copy(0, 0, 4, 0, 1) = BAD | copy(MIN, 0, 1, 0, 1) = BAD | copy(MAX, 0, 1, 0, 1) = BAD
            copy(0, 0, MIN, 0, 1) = BAD | copy(0, 0, MAX, 0, 1) = BAD | copy(3, 0, 4, 0, 1) = BAD
            copy(4, 0, 3, 0, 1) = BAD | copy(3, 0, 0, 0, 1) = -11 | copy(0, 0, 3, 0, 1) = -11
            copy(3, 0, 3, 0, 0) = -11 | copy(3, -1, 2, -1, -1) = -11 | copy(2, 9, 3, 9, 9) = -11
            copy(0, 0, 2, 0, 1) = -13 | copy(2, 0, 0, 0, 1) = -13 | copy(0, -1, 2, 0, 1) = -13
            copy(0, 0, 2, 0, -1) = -13 | copy(2, 0, 1, 9, 99) = -13 | copy(0, 0, 2, 0, 0) = -13
            """, city + """
            copy(0, 0, 1, 0, -1) = -12 | copy(0, 0, 1, 0, MIN) = -12 | copy(0, -1, 1, 0, 1) = -12
            copy(0, 0, 1, -1, 1) = -12 | copy(0, MIN, 1, 0, 1) = -12 | copy(0, 0, 1, MIN, 1) = -12
            copy(0, 5, 1, 0, 1) = -12 | copy(0, 3, 1, 0, 3) = -12 | copy(0, 0, 1, 3, 1) = -12
            copy(0, 0, 1, 1, 3) = -12 | copy(0, 0, 1, 0, 4) = -12 | copy(1, 0, 0, 0, 4) = -12
            copy(0, MAX, 1, 0, 1) = -12 | copy(0, 0, 1, MAX, 1) = -12 | copy(0, 0, 1, 0, MAX) = -12
            copy(0, MAX, 1, MAX, MAX) = -12 | copy(0, 1, 1, 1, MAX) = -12 | copy(0, MIN, 1, 0, MIN) = -12
            copy(0, 1, 0, 1, 5) = -12 | copy(0, 0, 0, 0, 6) = -12 | copy(0, 6, 1, 0, 0) = -12
            copy(0, 0, 1, 4, 0) = -12 | copy(0, -1, 1, 0, 0) = -12 | copy(0, 0, 0, 0, 5) = 5
            """);
    }

    private void copied() throws ReflectiveOperationException {
        String held = "(as they were): n.";
        String row = "sheet(0, 2, 6) = 1 | cell(0, 0, 2) = 1 | cell(0, 1, 9) = 1 | cell(0, 2, 30) = 1 | "
            + "cell(0, 3, 40) = 1 | cell(0, 4, 50) = 1 | cell(0, 5, 60) = 1\n";
        edges.hold("Promise 31", held, row + """
            copy(0, 0, 0, 1, 4) = 4 | newsRow(0, 0, 2, 1, 1) = 1 | known(0, 1, 0, 0) = 0 | known(0, 2, 0, 0) = 30
            known(0, 8, 0, 1) = 40 | known(0, 9, 0, 0) = 0
            """, row + """
            copy(0, 0, 0, 2, 4) = 4 | newsRow(0, 0, 2, 2, 1) = 1 | known(0, 2, 0, 0) = 30 | known(0, 8, 0, 1) = 40
            known(0, 9, 0, 0) = 0
            """, row + """
            cell(0, 1, 2) = 1 | cell(0, 2, 9) = 1 | cell(0, 3, 30) = 1 | cell(0, 4, 40) = 1 | copy(0, 1, 0, 0, 4) = 4
            newsRow(0, 0, 2, 0, 1) = 1 | known(0, 2, 0, 0) = 30 | known(0, 8, 0, 1) = 40 | known(0, 9, 0, 0) = 0
            """, row + "copy(0, 0, 0, 0, 6) = 6 | newsRow(0, 0, 2, 0, 1) = 1 | known(0, 8, 0, 1) = 40");
        // Later changes of the one do not go to the other.
        edges.hold("Promise 31", held, row + """
            sheet(1, 2, 6) = 1 | copy(0, 0, 1, 0, 6) = 6 | cell(0, 2, 99) = 1 | newsRow(0, 1, 2, 0, 1) = 1
            known(0, 8, 0, 0) = 30 | sheet(0, 2, 6) = 1 | newsRow(1, 1, 2, 0, 1) = 1 | known(1, 8, 0, 0) = 30
            """);
    }

    private void newsRow() throws ReflectiveOperationException {
        String city = "sheet(0, 1, 8) = 1 | " + row(0);
        edges.hold("Promise 32", "BAD: no such TRACK, SHEET, sort, n; -13; -11; -12: what stood ahead came.", city + """
            newsRow(-1, 0, 1, 0, 1) = BAD | newsRow(3, 0, 1, 0, 1) = BAD | newsRow(MIN, 0, 1, 0, 1) = BAD
            newsRow(MAX, 0, 1, 0, 1) = BAD | newsRow(0, -1, 1, 0, 1) = BAD | newsRow(0, 4, 1, 0, 1) = BAD
            newsRow(0, MIN, 1, 0, 1) = BAD | newsRow(0, MAX, 1, 0, 1) = BAD | newsRow(0, 0, -1, 0, 1) = BAD
            newsRow(0, 0, 3, 0, 1) = BAD | newsRow(0, 0, MIN, 0, 1) = BAD | newsRow(0, 0, MAX, 0, 1) = BAD
            newsRow(0, 0, 1, 0, -1) = BAD | newsRow(0, 0, 1, 0, 11) = BAD | newsRow(0, 0, 1, 0, MIN) = BAD
            newsRow(0, 0, 1, 0, MAX) = BAD | newsRow(3, 1, 0, 0, 1) = BAD | newsRow(0, 1, 3, 0, 1) = BAD
            newsRow(0, 1, -1, 0, 1) = BAD | newsRow(0, 1, 1, 0, 11) = BAD | newsRow(0, 0, 0, 0, 11) = BAD
            newsRow(0, 0, 0, 0, -1) = BAD | newsRow(0, 0, 0, 0, 1) = -13 | newsRow(0, 0, 2, 0, 1) = -13
            newsRow(0, 0, 0, 0, 0) = -13 | newsRow(0, 0, 2, -1, 1) = -13 | newsRow(0, 0, 0, 99, 10) = -13
            newsRow(0, 1, 0, 0, 1) = -11 | newsRow(0, 2, 1, 0, 0) = -11 | newsRow(0, 3, 2, -1, 1) = -11
            newsRow(0, 1, 1, 99, 10) = -11 | count(5) = 0 | newsRow(0, 0, 1, 0, 1) = 1
            """);
        edges.hold("Promise 32", "n of them (0 .. 10)", "sheet(0, 0, 40) = 1\n"
            + Edges.rows(0, 9, "cell(0, @, 0) = 1") + """
            newsRow(0, 0, 0, 0, 0) = 0 | newsRow(0, 0, 0, 0, 10) = 0 | newsRow(0, 0, 0, 0, 11) = BAD
            newsRow(0, 0, 0, 0, -1) = BAD | cell(0, 37, 61) = 1 | cell(0, 38, 5) = 1 | cell(0, 33, 61) = 1
            newsRow(0, 0, 0, 0, 9) = 1 | known(0, 60, 0, 0) = 0 | newsRow(0, 0, 0, 0, 10) = 2 | known(0, 60, 0, 0) = 5
            newsRow(0, 0, 0, 0, 0) = 0 | count(5) = 3
            """);
    }

    private void newsRowPlaces() throws ReflectiveOperationException {
        String city = "sheet(0, 1, 8) = 1 | cell(0, 1, 9) = 1 | cell(0, 2, 7) = 1 | cell(0, 3, 8) = 1 | "
            + "cell(0, 5, 9) = 1 | cell(0, 6, 17) = 1 | cell(0, 7, 18) = 1\n";
        edges.hold("Promise 32",
            "NEWS of a TRACK by a SHEET that is taken for one of a sort: from one on, four by four (from, to, "
                + "WATER, WIND)", city + """
            newsRow(2, 0, 1, 0, 1) = 1 | known(2, 0, 0, 0) = 7 | known(2, 8, 0, 1) = 8 | known(2, 9, 0, 0) = 0
            known(0, 0, 0, 0) = 0 | newsRow(1, 0, 1, 4, 1) = 1 | known(1, 0, 0, 0) = 17 | known(1, 8, 0, 1) = 18
            newsRow(0, 0, 1, 0, 2) = 2 | known(0, 8, 0, 0) = 17 | count(5) = 4 | news(0, 0, 1, 0, 0) = 4
            """, city + "cell(0, 3, 1) = 1 | cell(0, 4, 4) = 1 | newsRow(0, 0, 1, 3, 1) = 1 | "
                + "known(0, 0, 0, 0) = 0 | known(0, 1, 0, 0) = 9 | known(0, 3, 0, 1) = 17 | known(0, 4, 0, 0) = 0");
        edges.hold("Promise 32", "-12: what stood ahead came.", city + """
            newsRow(0, 0, 1, 5, 1) = -12 | newsRow(0, 0, 1, 8, 1) = -12 | newsRow(0, 0, 1, -1, 1) = -12
            newsRow(0, 0, 1, -4, 2) = -12 | newsRow(0, 0, 1, MAX, 1) = -12 | newsRow(0, 0, 1, MIN, 10) = -12
            newsRow(0, 0, 1, MAX, 10) = -12 | newsRow(0, 0, 1, 6, 10) = -12 | newsRow(0, 0, 1, 7, 1) = -12
            count(5) = 0 | newsRow(1, 0, 1, 4, 2) = -12 | count(5) = 1 | known(1, 8, 0, 0) = 17
            newsRow(2, 0, 1, 0, 3) = -12 | count(5) = 3 | known(2, 8, 0, 0) = 17 | newsRow(0, 0, 1, 0, 10) = -12
            count(5) = 5 | known(0, 8, 0, 1) = 18 | newsRow(0, 0, 1, 1, 2) = -12 | count(5) = 5
            """, """
            # of four that do not all stand there none comes
            sheet(0, 1, 7) = 1 | cell(0, 1, 9) = 1 | cell(0, 5, 9) = 1 | newsRow(0, 0, 1, 0, 2) = -12 | count(5) = 1
            newsRow(0, 0, 1, 4, 1) = -12 | count(5) = 1 | sheet(0, 1, 3) = 1 | newsRow(0, 0, 1, 0, 1) = -12
            sheet(0, 1, 0) = 1 | newsRow(0, 0, 1, 0, 1) = -12 | count(5) = 1
            """);
    }

    private void newsRowLeavesOut() throws ReflectiveOperationException {
        String held = "how many came (others are left out).";
        edges.hold("Promise 32", held, """
            # at NOW 2: of the past, right, to not above from, to 62, water 100, wind 100, water -1, from 61, right
            pass(2) = 2 | sheet(0, 2, 36) = 1 | cell(0, 0, 1) = 1 | cell(0, 1, 9) = 1 | cell(0, 4, 2) = 1
            cell(0, 5, 3) = 1 | cell(0, 6, 99) = 1 | cell(0, 7, 99) = 1 | cell(0, 8, 5) = 1 | cell(0, 9, 5) = 1
            cell(0, 12, 5) = 1 | cell(0, 13, 62) = 1 | cell(0, 16, 5) = 1 | cell(0, 17, 6) = 1 | cell(0, 18, 100) = 1
            cell(0, 20, 5) = 1 | cell(0, 21, 6) = 1 | cell(0, 23, 100) = 1 | cell(0, 24, 5) = 1 | cell(0, 25, 6) = 1
            cell(0, 26, -1) = 1 | cell(0, 28, 61) = 1 | cell(0, 29, 61) = 1 | cell(0, 32, 60) = 1 | cell(0, 33, 61) = 1
            cell(0, 34, 4) = 1 | newsRow(1, 0, 2, 0, 9) = 2 | count(5) = 2 | known(1, 2, 2, 0) = 99
            known(1, 60, 2, 0) = 4 | known(1, 2, 1, 0) = 0 | newsRow(1, 0, 2, 0, 1) = 0 | newsRow(1, 0, 2, 8, 6) = 0
            newsRow(1, 0, 2, 0, 10) = -12 | count(5) = 4
            """);
        StringBuilder ten = new StringBuilder("sheet(1, 2, 40) = 1\n");
        for (int i = 0; i < 10; i++) {
            ten.append("cell(1, " + (4 * i + 1) + ", 61) = 1 | cell(1, " + (4 * i + 2) + ", " + i + ") = 1\n");
        }
        edges.hold("Promise 32", held, ten + """
            # the 40th news is the last one
            newsRow(0, 1, 2, 0, 10) = 10 | newsRow(0, 1, 2, 0, 10) = 10 | newsRow(0, 1, 2, 0, 10) = 10
            newsRow(0, 1, 2, 0, 7) = 7 | newsRow(1, 1, 2, 0, 10) = 3 | known(1, 9, 0, 0) = 2
            newsRow(1, 1, 2, 0, 10) = 0 | count(5) = 40 | known(0, 9, 0, 0) = 6 | newsRow(1, 1, 2, 36, 2) = -12
            newsRow(1, 1, 2, 0, 0) = 0 | news(0, 0, 61, 1, 1) = FULL | known(1, 9, 0, 0) = 2
            """);
    }

    private void taken() throws ReflectiveOperationException {
        String city = "zone(0, 0, 0) = 0\n" + Edges.rows(0, 5, "road(@, 0, 20, 10@) = @");
        edges.hold("Promise 33",
            "A ROAD taken for one of KIND k (0 .. 5), or one under that one (also by others between): its FLOW.", city
                + Edges.rows(0, 5, "taken(@, 0) = 10@ | taken(@, @) = 10@") + """
            taken(3, 1) = 103 | taken(4, 2) = 104 | turn(1) = 0 | taken(1, 0) = 101 | news(0, 0, 61, 99, 99) = 0
            taken(4, 0) = 104 | taken(5, 0) = 105
            """);
        StringBuilder others = new StringBuilder(city);
        for (int kind = 0; kind < 6; kind++) {
            for (int k = 1; k < 6; k++) {
                boolean isUnder = k == kind || kind == 3 && k == 1 || kind == 4 && k == 2;
                others.append("taken(" + kind + ", " + k + ") = " + (isUnder ? 100 + kind : -13) + "\n");
            }
        }
        edges.hold("Promise 33", "BAD: k; -11: no such ROAD; -13.", others.toString(), city + """
            taken(0, -1) = BAD | taken(0, 6) = BAD | taken(0, MIN) = BAD | taken(0, MAX) = BAD | taken(6, 6) = BAD
            taken(-1, -1) = BAD | taken(6, 0) = -11 | taken(-1, 0) = -11 | taken(MIN, 0) = -11 | taken(MAX, 5) = -11
            taken(6, 5) = -11 | taken(5, 5) = 105 | taken(0, 5) = -13 | taken(14, 0) = -11
            """, "taken(0, 0) = -11 | taken(0, 6) = BAD", "zone(0, 0, 0) = 0\n"
                + Edges.rows(0, 13, "taken(@, 5) = -11 | road(5, 0, 20, 1) = @ | taken(@, 5) = 1"));
    }
}
