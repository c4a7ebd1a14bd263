/** The edges of ==== 5 and of promises 21 to 24. */
final class HourEdges {
    private static final String TOP = "256 * 256 * 256 * 128";

    private final Edges edges;

    HourEdges(Edges edges) {
        this.edges = edges;
    }

    void hold() throws ReflectiveOperationException {
        whoSetsOut();
        howManySetOut();
        roadsTake();
        roadsToShelters();
        theyCome();
        busNumbers();
        busesGo();
        busesTake();
        trips();
        theHourEnds();
        inWater();
        goodWithin();
        goodByNews();
        call();
        good();
        pass();
    }

    private void whoSetsOut() throws ReflectiveOperationException {
        edges.hold("==== 5", "AN HOUR goes by: (1) In each ZONE that was CALLED (in this HOUR or ahead)", """
            zone(9, 100, 0) = 0 | zone(9, 100, 0) = 1
            pass(1) = 1 | zoneTold(0, 1) = 100 | call(0) = 1 | zoneTold(0, 1) = 100
            pass(1) = 2 | zoneTold(0, 1) = 80 | zoneTold(0, 2) = 20 | zoneTold(1, 1) = 100 | call(1) = 2
            pass(1) = 3 | zoneTold(0, 1) = 56 | zoneTold(1, 1) = 80
            """, Edges.rows(0, 5, "zone(9, 100, 0) = @ | call(@) = 0") + "pass(1) = 1\n"
                + Edges.rows(0, 5, "zoneTold(@, 1) = 80 | zoneTold(@, 2) = 20"));
        edges.hold("==== 5", "isn't WET", """
            zone(5, 100, 0) = 0 | call(0) = 0 | news(0, 0, 1, 5, 0) = 0 | news(0, 1, 2, 6, 0) = 1
            pass(1) = 1 | zoneTold(0, 1) = 80
            pass(1) = 2 | zoneTold(0, 1) = 80 | zoneTold(0, 2) = 20
            pass(1) = 3 | zoneTold(0, 1) = 48
            """);
        edges.hold("==== 5", "and for which stop of THE RULE is 0:", """
            zone(5, 100, 0) = 0 | zone(5, 100, 0) = 1 | text "heed 10; stop 0;" = 1 | text "heed 10; stop 1;" = 2
            text "heed 10; stop 0 - 1;" = 3 | text "heed 10; stop TOP;" = 4 | text "heed 10; stop zone;" = 5
            call(0) = 0 | call(1) = 0 | force(2) = 0
            pass(1) = 1 | zoneTold(0, 1) = 100 | force(3) = 2
            pass(1) = 2 | zoneTold(0, 1) = 100 | force(4) = 3
            pass(1) = 3 | zoneTold(0, 1) = 100 | force(1) = 4
            pass(1) = 4 | zoneTold(0, 1) = 90 | zoneTold(1, 1) = 90 | force(5) = 1
            pass(1) = 5 | zoneTold(0, 1) = 81 | zoneTold(1, 1) = 90
            """.replace("TOP", TOP), """
            # by the wind of the hour: 60 stops nobody, 61 all
            zone(5, 100, 0) = 0 | call(0) = 0 | news(0, 0, 1, 0, 60) = 0 | news(0, 1, 2, 0, 61) = 1
            pass(1) = 1 | zoneTold(0, 1) = 80
            pass(1) = 2 | zoneTold(0, 1) = 80
            """);
    }

    private void howManySetOut() throws ReflectiveOperationException {
        String held = "of those AT HOME heed of THE RULE hundredths (0 .. 100; else the bound) are ON THE WAY there";
        edges.hold("==== 5", held, """
            zone(9, 200, 0) = 0 | call(0) = 0 | text "heed -1; stop 0;" = 1 | text "heed 0; stop 0;" = 2
            text "heed 1; stop 0;" = 3 | text "heed 99; stop 0;" = 4 | text "heed 100; stop 0;" = 5 | force(1) = 0
            pass(1) = 1 | zoneTold(0, 1) = 200 | force(2) = 1
            pass(1) = 2 | zoneTold(0, 1) = 200 | force(3) = 2
            pass(1) = 3 | zoneTold(0, 1) = 198 | zoneTold(0, 2) = 2 | force(4) = 3
            pass(1) = 4 | zoneTold(0, 1) = 2 | zoneTold(0, 2) = 198 | force(5) = 4
            pass(1) = 5 | zoneTold(0, 1) = 0 | zoneTold(0, 2) = 200
            pass(1) = 6 | zoneTold(0, 1) = 0 | zoneTold(0, 2) = 200
            """, """
            zone(9, 200, 0) = 0 | zone(9, 99999, 0) = 1 | call(0) = 0 | text "heed TOP; stop 0;" = 1
            text "heed TOP - 1; stop 0;" = 2 | force(1) = 0 | says(0, 0) = MIN
            pass(1) = 1 | zoneTold(0, 1) = 200 | force(2) = 1 | says(0, 0) = MAX | call(1) = 1
            pass(1) = 2 | zoneTold(0, 1) = 0 | zoneTold(0, 2) = 200 | zoneTold(1, 1) = 0 | zoneTold(1, 2) = 99999
            """.replace("TOP", TOP), """
            zone(9, 200, 0) = 0 | call(0) = 0 | text "heed 101; stop 0;" = 1 | force(1) = 0 | says(0, 0) = 101
            pass(1) = 1 | zoneTold(0, 1) = 0 | zoneTold(0, 2) = 200
            """, """
            # one of a hundred, none of 99, in their last hour one of one
            zone(9, 100, 0) = 0 | zone(9, 99, 0) = 1 | zone(9, 1, 0) = 2 | zone(9, 0, 0) = 3
            text "heed 1; stop 0;" = 1 | text "heed 99; stop 0;" = 2 | text "heed 100; stop 0;" = 3 | call(0) = 0
            call(1) = 0 | call(2) = 0 | call(3) = 0 | force(1) = 0
            pass(1) = 1 | zoneTold(0, 2) = 1 | zoneTold(1, 2) = 0 | force(2) = 1
            pass(1) = 2 | zoneTold(2, 2) = 0 | force(3) = 2
            pass(1) = 3 | zoneTold(2, 2) = 1 | zoneTold(3, 2) = 0
            """);
        edges.hold("==== 5", "(crowd as it was ahead of this).", """
            zone(9, 100, 0) = 0 | zone(9, 100, 0) = 1 | text "heed 10 + crowd; stop 20 < crowd;" = 1 | force(1) = 0
            call(0) = 0
            pass(1) = 1 | zoneTold(0, 2) = 10
            pass(1) = 2 | zoneTold(0, 2) = 28
            pass(1) = 3 | zoneTold(0, 2) = 28 | call(1) = 3
            pass(1) = 4 | zoneTold(1, 2) = 10 | zoneTold(0, 2) = 28
            """);
    }

    private void roadsTake() throws ReflectiveOperationException {
        String held = "(2) ROADS that are the WAY of their ZONE take, all at once, as many as they CAN TAKE of "
            + "those ON THE WAY there";
        String run = "zone(9, 100, 0) = 0 | road(0, 0, 20, @) = 0 | use(0) = NONE | call(0) = 0 | pass(1) = 1 | "
            + "zoneTold(0, 2) = ";
        edges.hold("==== 5", held,
            run.replace("@", "19") + "1 | count(12) = 19",
            run.replace("@", "20") + "0 | count(12) = 20",
            run.replace("@", "21") + "0 | count(12) = 20",
            run.replace("@", "1") + "19 | count(12) = 1 | pass(1) = 2 | count(12) = 2");
        edges.hold("==== 5", held, """
            # nobody takes two roads in an hour, whichever way their numbers go
            zone(9, 100, 0) = 0 | zone(9, 0, 0) = 1 | zone(9, 0, 0) = 2 | road(0, 0, 1, 99) = 0 | road(0, 1, 2, 99) = 1
            road(0, 2, 20, 99) = 2 | use(0) = NONE | use(1) = NONE | use(2) = NONE | call(0) = 0
            pass(1) = 1 | zoneTold(1, 2) = 20 | zoneTold(2, 2) = 0
            pass(1) = 2 | zoneTold(1, 2) = 24 | zoneTold(2, 2) = 20 | count(12) = 0
            pass(1) = 3 | count(12) = 20 | zoneTold(2, 2) = 24
            """, """
            zone(9, 100, 0) = 0 | zone(9, 100, 0) = 1 | road(0, 0, 1, 15) = 0 | road(0, 1, 0, 99) = 1 | use(0) = NONE
            use(1) = NONE | call(0) = 0 | call(1) = 0
            pass(1) = 1 | zoneTold(0, 2) = 25 | zoneTold(1, 2) = 15
            pass(1) = 2 | zoneTold(0, 2) = 73 | zoneTold(1, 2) = 15
            """, """
            # one road of two is the way
            zone(9, 100, 0) = 0 | road(0, 0, 20, 5) = 0 | road(0, 0, 20, 7) = 1 | call(0) = 0
            pass(1) = 1 | count(12) = 0 | use(1) = NONE
            pass(1) = 2 | count(12) = 7 | use(0) = 1
            pass(1) = 3 | count(12) = 12
            """);
    }

    private void roadsToShelters() throws ReflectiveOperationException {
        String held = "to a SHELTER, by ROADS' numbers, as far as there is ROOM.";
        String run = "zone(9, 100, 0) = 0 | shelter(@) = 0 | road(0, 0, 10, 99) = 0 | use(0) = NONE | call(0) = 0 | "
            + "pass(1) = 1 | ";
        edges.hold("==== 5", held,
            run.replace("@", "0") + "zoneTold(0, 2) = 20 | shelterTold(0, 1) = 0 | shelterTold(0, 0) = 0",
            run.replace("@", "19") + """
                zoneTold(0, 2) = 1 | shelterTold(0, 1) = 19 | shelterTold(0, 0) = 0
                pass(1) = 2 | zoneTold(0, 2) = 25 | shelterTold(0, 1) = 19
                """,
            run.replace("@", "20") + "zoneTold(0, 2) = 0 | shelterTold(0, 1) = 20 | shelterTold(0, 0) = 0",
            run.replace("@", "21") + """
                zoneTold(0, 2) = 0 | shelterTold(0, 1) = 20 | shelterTold(0, 0) = 1
                pass(1) = 2 | zoneTold(0, 2) = 23 | shelterTold(0, 1) = 21
                """);
        edges.hold("==== 5", held, """
            # the lower road number first, not the lower zone; the next has what is left, the last one nothing
            zone(9, 100, 0) = 0 | zone(9, 100, 0) = 1 | zone(9, 100, 0) = 2 | shelter(5) = 0 | shelter(30) = 1
            road(0, 2, 11, 99) = 0 | road(0, 1, 11, 99) = 1 | road(0, 0, 11, 99) = 2 | use(2) = NONE | use(1) = NONE
            use(0) = NONE | call(0) = 0 | call(1) = 0 | call(2) = 0
            pass(1) = 1 | zoneTold(2, 2) = 0 | zoneTold(1, 2) = 10 | zoneTold(0, 2) = 20 | shelterTold(1, 0) = 0
            shelterTold(1, 1) = 30 | shelterTold(0, 0) = 5 | shelterTold(0, 1) = 0
            """, """
            zone(9, 100, 0) = 0 | zone(9, 100, 0) = 1 | shelter(4) = 0 | shelter(9) = 1 | shelter(99) = 2
            road(0, 0, 10, 99) = 0 | road(0, 1, 12, 8) = 1 | use(0) = NONE | use(1) = NONE | call(0) = 0 | call(1) = 0
            pass(1) = 1 | shelterTold(0, 1) = 4 | shelterTold(1, 1) = 0 | shelterTold(2, 1) = 8 | count(11) = 12
            """);
    }

    private void theyCome() throws ReflectiveOperationException {
        edges.hold("==== 5", "(3) They come: to a ZONE (ON THE WAY there), into a SHELTER, OUT.", """
            zone(9, 100, 0) = 0 | zone(9, 0, 0) = 1 | zone(9, 100, 0) = 2 | zone(9, 100, 0) = 3 | shelter(5) = 0
            shelter(5) = 1 | shelter(99) = 2 | road(0, 0, 1, 7) = 0 | road(0, 2, 12, 8) = 1 | road(0, 3, 20, 9) = 2
            use(0) = NONE | use(1) = NONE | use(2) = NONE | call(0) = 0 | call(2) = 0 | call(3) = 0
            pass(1) = 1 | zoneTold(0, 2) = 13 | zoneTold(1, 1) = 0 | zoneTold(1, 2) = 7 | zoneTold(2, 2) = 12
            shelterTold(2, 1) = 8 | shelterTold(2, 0) = 91 | zoneTold(3, 2) = 11 | count(12) = 9 | count(11) = 8
            """);
    }

    private void busNumbers() throws ReflectiveOperationException {
        String begin = "zone(9, 0, 500) = 0 | shelter(999) = 0\n";
        edges.hold("==== 5", "(4) BUSES: each has a ZONE, a SHELTER, SEATS (1 .. 99)", begin + """
            bus(0, 0, 0, 1) = BAD | bus(0, 0, 100, 1) = BAD | bus(0, 0, -1, 1) = BAD | bus(0, 0, MIN, 1) = BAD
            bus(0, 0, MAX, 1) = BAD | count(4) = 0 | bus(0, 0, 1, 9) = 0 | bus(0, 0, 99, 9) = 1
            pass(1) = 1 | busTold(0, 1) = 1 | busTold(1, 1) = 99 | count(10) = 100
            """, """
            zone(9, 0, 5) = 0 | zone(9, 0, 6) = 1 | shelter(7) = 0 | shelter(8) = 1 | bus(1, 0, 1, 1) = 0
            bus(0, 1, 2, 1) = 1
            pass(1) = 1 | zoneTold(0, 3) = 3 | zoneTold(1, 3) = 5 | shelterTold(0, 1) = 1 | shelterTold(1, 1) = 2
            """);
        edges.hold("==== 5", "TRIP (1 .. 9 HOURS).", begin + """
            bus(0, 0, 1, 0) = BAD | bus(0, 0, 1, 10) = BAD | bus(0, 0, 1, -1) = BAD | bus(0, 0, 1, MIN) = BAD
            bus(0, 0, 1, MAX) = BAD | count(4) = 0 | bus(0, 0, 1, 1) = 0 | bus(0, 0, 1, 9) = 1
            pass(1) = 1 | busTold(0, 0) = 1 | busTold(1, 2) = 9
            pass(7) = 8 | busTold(1, 0) = 0 | busTold(1, 1) = 1
            pass(1) = 9 | busTold(1, 0) = 1 | busTold(1, 1) = 0 | shelterTold(0, 1) = 10
            """);
    }

    private void busesGo() throws ReflectiveOperationException {
        edges.hold("==== 5", "One that is free, by numbers", """
            # the first takes first, of the ill ones and of the room; one that is under way takes nobody
            zone(9, 0, 7) = 0 | zone(9, 0, 7) = 1 | shelter(999) = 0 | shelter(8) = 1 | bus(0, 0, 5, 3) = 0
            bus(0, 0, 5, 1) = 1 | bus(1, 1, 6, 3) = 2 | bus(1, 1, 6, 1) = 3
            pass(1) = 1 | busTold(0, 1) = 5 | shelterTold(0, 1) = 2 | zoneTold(0, 3) = 0 | busTold(2, 1) = 6
            zoneTold(1, 3) = 0 | shelterTold(1, 1) = 1 | shelterTold(1, 0) = 1
            """, """
            zone(9, 0, 9) = 0 | shelter(7) = 0 | bus(0, 0, 5, 2) = 0 | bus(0, 0, 5, 2) = 1
            pass(1) = 1 | busTold(0, 1) = 5 | busTold(1, 1) = 2 | zoneTold(0, 3) = 2 | shelterTold(0, 0) = 0
            """, """
            zone(9, 0, 9) = 0 | shelter(99) = 0 | bus(0, 0, 2, 3) = 0
            pass(1) = 1 | zoneTold(0, 3) = 7
            pass(1) = 2 | zoneTold(0, 3) = 7
            pass(1) = 3 | zoneTold(0, 3) = 7
            pass(1) = 4 | zoneTold(0, 3) = 5
            """);
        edges.hold("==== 5", "while its ZONE isn't WET", """
            zone(5, 0, 9) = 0 | zone(6, 0, 9) = 1 | shelter(99) = 0 | bus(0, 0, 2, 1) = 0 | bus(1, 0, 2, 1) = 1
            news(0, 0, 1, 5, 0) = 0 | news(0, 1, 2, 6, 0) = 1 | news(0, 2, 3, 7, 0) = 2
            pass(1) = 1 | zoneTold(0, 3) = 7 | zoneTold(1, 3) = 7
            pass(1) = 2 | zoneTold(0, 3) = 7 | zoneTold(1, 3) = 5
            pass(1) = 3 | zoneTold(0, 3) = 7 | zoneTold(1, 3) = 5 | busTold(0, 0) = 1
            pass(1) = 4 | zoneTold(0, 3) = 5 | zoneTold(1, 3) = 3
            """, """
            # a bus that is under way comes whatever is wet
            zone(5, 0, 9) = 0 | shelter(99) = 0 | bus(0, 0, 2, 2) = 0
            pass(1) = 1 | news(0, 1, 61, 99, 99) = 0
            pass(1) = 2 | shelterTold(0, 1) = 2 | busTold(0, 0) = 1
            """);
        edges.hold("==== 5", "and stop of THE RULE is 0 for it:", """
            zone(5, 0, 9) = 0 | zone(5, 0, 9) = 1 | shelter(99) = 0 | bus(0, 0, 1, 1) = 0 | bus(1, 0, 1, 1) = 1
            text "heed 0; stop zone;" = 1 | text "heed 0; stop 0 - 1;" = 2 | text "heed 0; stop since;" = 3
            force(1) = 0
            pass(1) = 1 | zoneTold(0, 3) = 8 | zoneTold(1, 3) = 9 | force(2) = 1
            pass(1) = 2 | zoneTold(0, 3) = 8 | zoneTold(1, 3) = 9 | force(3) = 2 | call(0) = 2
            pass(1) = 3 | zoneTold(0, 3) = 7 | zoneTold(1, 3) = 8
            pass(1) = 4 | zoneTold(0, 3) = 7 | zoneTold(1, 3) = 7
            """, """
            # by text 0 and the wind: called or not
            zone(5, 0, 9) = 0 | shelter(99) = 0 | bus(0, 0, 1, 1) = 0 | news(0, 0, 1, 0, 60) = 0
            news(0, 1, 2, 0, 61) = 1
            pass(1) = 1 | zoneTold(0, 3) = 8
            pass(1) = 2 | zoneTold(0, 3) = 8
            pass(1) = 3 | zoneTold(0, 3) = 7
            """);
    }

    private void busesTake() throws ReflectiveOperationException {
        String run = "zone(9, 0, ILL) = 0 | shelter(ROOM) = 0 | bus(0, 0, SEATS, 3) = 0 | pass(1) = 1 | "
            + "busTold(0, 1) = ";
        String held = "takes as many ILL ones as there are, as SEATS, ROOM let (if any): they are IN IT";
        edges.hold("==== 5", held,
            of(run, 4, 99, 5) + "4 | zoneTold(0, 3) = 0 | shelterTold(0, 0) = 95 | count(10) = 4",
            of(run, 5, 99, 5) + "5 | zoneTold(0, 3) = 0",
            of(run, 6, 99, 5) + "5 | zoneTold(0, 3) = 1 | shelterTold(0, 0) = 94",
            of(run, 9, 4, 5) + "4 | zoneTold(0, 3) = 5 | shelterTold(0, 0) = 0",
            of(run, 9, 5, 5) + "5 | shelterTold(0, 0) = 0",
            of(run, 9, 6, 5) + "5 | shelterTold(0, 0) = 1",
            of(run, 3, 2, 5) + "2 | zoneTold(0, 3) = 1",
            of(run, 999, 99999, 99) + "99 | zoneTold(0, 3) = 900",
            of(run, 1, 1, 1) + "1 | zoneTold(0, 3) = 0");
        // With none to take, or no room, it stays and is free.
        edges.hold("==== 5", held, of(run, 0, 99, 5) + "0 | busTold(0, 0) = 1 | busTold(0, 2) = NONE",
            of(run, 9, 0, 5) + "0 | busTold(0, 0) = 1 | busTold(0, 2) = NONE | zoneTold(0, 3) = 9");
        edges.hold("==== 5", held, """
            # roads come ahead of buses
            zone(9, 100, 9) = 0 | shelter(22) = 0 | road(0, 0, 10, 99) = 0 | use(0) = NONE | bus(0, 0, 5, 3) = 0
            call(0) = 0
            pass(1) = 1 | shelterTold(0, 1) = 20 | busTold(0, 1) = 2 | shelterTold(0, 0) = 0
            pass(1) = 2 | shelterTold(0, 1) = 20 | zoneTold(0, 2) = 24
            pass(1) = 3 | shelterTold(0, 1) = 22
            """);
    }

    private static String of(String run, int ill, int room, int seats) {
        return run.replace("ILL", "" + ill).replace("ROOM", "" + room).replace("SEATS", "" + seats);
    }

    private void trips() throws ReflectiveOperationException {
        String held = "it isn't free till TRIP HOURS went by; as they went by they are in its SHELTER (ROOM is "
            + "kept for them).";
        for (int trip = 1; trip <= 9; trip++) {
            String run = "zone(9, 0, 4) = 0 | shelter(6) = 0 | bus(0, 0, 4, TRIP) = 0\n" + Edges.rows(1, trip - 1, """
                pass(1) = @ | busTold(0, 0) = 0 | busTold(0, 1) = 4 | busTold(0, 2) = TRIP | shelterTold(0, 1) = 0
                shelterTold(0, 0) = 2 | count(10) = 4 | count(11) = 0
                """) + """
                pass(1) = TRIP | busTold(0, 0) = 1 | busTold(0, 1) = 0 | busTold(0, 2) = NONE | shelterTold(0, 1) = 4
                shelterTold(0, 0) = 2 | count(10) = 0 | count(11) = 4
                """;
            edges.hold("==== 5", held, run.replace("TRIP", "" + trip));
        }
        edges.hold("==== 5", held, """
            # room that is kept lets no others in
            zone(9, 100, 5) = 0 | shelter(10) = 0 | bus(0, 0, 5, 9) = 0 | road(0, 0, 10, 99) = 0
            pass(1) = 1 | use(0) = NONE | call(0) = 1
            pass(1) = 2 | shelterTold(0, 1) = 5 | shelterTold(0, 0) = 0 | zoneTold(0, 2) = 15
            pass(7) = 9 | shelterTold(0, 1) = 10 | shelterTold(0, 0) = 0
            """);
    }

    private void theHourEnds() throws ReflectiveOperationException {
        edges.hold("==== 5", "(5) NOW is 1 more.", "pass(1) = 1 | count(0) = 1 | pass(1) = 2 | count(0) = 2 | "
            + "pass(28) = 30 | count(0) = 30");
        edges.hold("==== 5", "BUSES whose TRIP is over are free then.", """
            # so it goes again in the hour in which it came
            zone(9, 0, 9) = 0 | shelter(99) = 0 | bus(0, 0, 2, 1) = 0 | bus(0, 0, 1, 2) = 1
            pass(1) = 1 | busTold(0, 0) = 1 | busTold(1, 0) = 0 | zoneTold(0, 3) = 6
            pass(1) = 2 | busTold(0, 0) = 1 | busTold(1, 0) = 1 | zoneTold(0, 3) = 4
            pass(1) = 3 | zoneTold(0, 3) = 1 | busTold(1, 0) = 0 | shelterTold(0, 1) = 7
            pass(1) = 4 | zoneTold(0, 3) = 0 | shelterTold(0, 1) = 9 | busTold(0, 0) = 1
            """);
    }

    private void inWater() throws ReflectiveOperationException {
        String city = """
            zone(5, 100, 10) = 0 | zone(6, 1000, 1) = 1 | shelter(99) = 0 | bus(0, 0, 3, 9) = 0 | road(0, 0, 20, 4) = 0
            road(0, 0, 10, 6) = 1 | use(0) = NONE | call(0) = 0
            pass(1) = 1 | use(1) = 0
            pass(1) = 2
            """;
        edges.hold("==== 5", "IN WATER in an HOUR: all AT HOME, ON THE WAY, ILL ones in ZONES that are WET.", city + """
            # 56 at home, 34 on the way, 7 ill
            inWater() = 0 | news(0, 2, 61, 5, 0) = 0 | inWater() = 0 | news(0, 2, 61, 6, 0) = 1 | inWater() = 97
            zoneTold(0, 1) = 56 | zoneTold(0, 2) = 34 | zoneTold(0, 3) = 7 | news(0, 2, 61, 7, 0) = 2 | inWater() = 1098
            news(0, 2, 3, 0, 0) = 3 | inWater() = 0
            """);
        edges.hold("==== 5", "All folk are AT HOME, ON THE WAY, ILL, IN A BUS, in a SHELTER or OUT.", city
            + "count(7) = 1056 | count(8) = 34 | count(9) = 8 | count(10) = 3 | count(11) = 6 | count(12) = 4");
    }

    private void goodWithin() throws ReflectiveOperationException {
        String held = "A CALL is GOOD by what was KNOWN in its HOUR: if by some TRACK that is LIKELY now its "
            + "ZONE is WET in one of that HOUR and the 12 behind it (END at most).";
        for (int hour = 2; hour <= 17; hour++) {
            int isGood = hour >= 3 && hour <= 15 ? 1 : 0;
            String run = "zone(5, 0, 0) = 0 | news(0, " + hour + ", " + (hour + 1) + ", 6, 0) = 0 | pass(3) = 3 | call(0) = 3"
                + " | good(0) = " + isGood + " | end(8) = 30 | good(0) = " + (hour <= 8 ? isGood : 0)
                + " | end(3) = 8 | good(0) = " + (hour == 3 ? 1 : 0) + " | end(60) = 3 | pass(50) = 53 | good(0) = " + isGood;
            edges.hold("==== 5", held, run);
        }
        edges.hold("==== 5", held, """
            end(60) = 30 | zone(5, 0, 0) = 0 | news(0, 60, 61, 6, 0) = 0
            pass(59) = 59 | call(0) = 59 | good(0) = 1
            """, """
            end(60) = 30 | zone(5, 0, 0) = 0 | news(0, 60, 61, 6, 0) = 0
            pass(47) = 47 | call(0) = 47 | good(0) = 0
            """, """
            end(60) = 30 | zone(5, 0, 0) = 0 | news(0, 60, 61, 6, 0) = 0
            pass(48) = 48 | call(0) = 48 | good(0) = 1 | end(59) = 60 | good(0) = 0
            """, """
            zone(5, 0, 0) = 0 | zone(4, 0, 0) = 1 | news(0, 7, 8, 5, 0) = 0 | call(0) = 0 | call(1) = 0 | good(0) = 0
            good(1) = 1
            """);
    }

    private void goodByNews() throws ReflectiveOperationException {
        String held = "A CALL is GOOD by what was KNOWN in its HOUR: if by some TRACK that is LIKELY now";
        edges.hold("==== 5", held, """
            # known in its hour: told ahead of it, in it (behind the call, too), not later
            zone(5, 0, 0) = 0
            pass(2) = 2 | call(0) = 2 | good(0) = 0 | news(0, 8, 9, 6, 0) = 0 | good(0) = 1 | news(0, 8, 9, 5, 0) = 1
            good(0) = 0
            pass(1) = 3 | news(0, 8, 9, 6, 0) = 2 | good(0) = 0
            """, """
            zone(5, 0, 0) = 0 | news(0, 8, 9, 6, 0) = 0 | call(0) = 0
            pass(1) = 1 | news(0, 0, 61, 0, 0) = BAD | news(0, 1, 61, 0, 0) = 1 | good(0) = 1 | likely(0, 0) = 1
            good(0) = 0 | likely(0, 1) = 0 | good(0) = 1 | truth(1) = 0 | good(0) = 1
            """, """
            # whatever was likely then: tracks 1 and 2 now
            zone(5, 0, 0) = 0 | news(1, 8, 9, 6, 0) = 0 | news(2, 9, 10, 6, 0) = 1 | call(0) = 0 | good(0) = 0
            pass(20) = 20 | likely(1, 1) = 0 | good(0) = 1 | likely(1, 0) = 1 | good(0) = 0 | likely(2, 1) = 0
            good(0) = 1 | truth(2) = 0 | likely(2, 0) = 1 | good(0) = 0
            """);
    }

    private void call() throws ReflectiveOperationException {
        edges.hold("Promise 21", "A ZONE is CALLED: NOW.", "zone(0, 0, 0) = 0 | zone(0, 0, 0) = 1 | call(1) = 0 | "
            + "pass(29) = 29 | call(0) = 29 | zoneTold(0, 4) = 29 | zoneTold(1, 4) = 0");
        edges.hold("Promise 21", "BAD; STATE: it was, or NOW is END.", "call(0) = BAD\n"
            + Edges.rows(0, 5, "zone(0, 0, 0) = @") + """
            call(-1) = BAD | call(6) = BAD | call(MIN) = BAD | call(MAX) = BAD | call(5) = 0 | call(5) = STATE
            pass(29) = 29 | call(5) = STATE | call(0) = 29 | call(0) = STATE
            pass(1) = 30 | call(0) = STATE | call(1) = STATE | call(6) = BAD | call(-1) = BAD | zoneTold(1, 4) = NONE
            end(31) = 30 | call(1) = 30 | call(0) = STATE | zoneTold(1, 4) = 30
            """, """
            zone(0, 0, 0) = 0 | end(1) = 30
            pass(1) = 1 | call(0) = STATE | zoneTold(0, 4) = NONE | good(0) = NONE | end(2) = 1 | call(0) = 1
            """, "zone(0, 0, 0) = 0 | zone(0, 0, 0) = 1 | end(60) = 30 | pass(59) = 59 | call(0) = 59 | "
                + "pass(1) = 60 | call(1) = STATE");
    }

    private void good() throws ReflectiveOperationException {
        edges.hold("Promise 22", "Whether a CALL is GOOD (1, 0). NONE: the ZONE wasn't CALLED; BAD.",
            "good(0) = BAD\n" + Edges.rows(0, 5, "good(@) = BAD | zone(@, 0, 0) = @ | good(@) = NONE") + """
            good(-1) = BAD | good(6) = BAD | good(MIN) = BAD | good(MAX) = BAD | news(0, 0, 1, 5, 0) = 0 | call(4) = 0
            call(5) = 0 | good(4) = 1 | good(5) = 0 | good(3) = NONE
            """);
    }

    private void pass() throws ReflectiveOperationException {
        edges.hold("Promise 23", "n HOURS (1 .. 60): NOW.", "pass(1) = 1 | pass(29) = 30",
            "end(60) = 30 | pass(60) = 60 | count(0) = 60", """
            # as many as are told go by
            zone(9, 100, 0) = 0 | call(0) = 0
            pass(3) = 3 | zoneTold(0, 1) = 34
            """);
        edges.hold("Promise 23", "BAD; FULL: it would be above END.", """
            pass(0) = BAD | pass(-1) = BAD | pass(61) = BAD | pass(MIN) = BAD | pass(MAX) = BAD | pass(60) = FULL
            pass(31) = FULL | count(0) = 0
            pass(30) = 30 | pass(1) = FULL | pass(60) = FULL | pass(0) = BAD | pass(61) = BAD | count(0) = 30
            end(31) = 30 | pass(2) = FULL
            pass(1) = 31
            """, """
            # nothing goes by when it is refused
            zone(9, 100, 9) = 0 | shelter(99) = 0 | bus(0, 0, 1, 1) = 0 | call(0) = 0 | end(5) = 30 | pass(6) = FULL
            zoneTold(0, 1) = 100 | zoneTold(0, 3) = 9
            pass(4) = 4 | pass(2) = FULL | count(0) = 4
            pass(1) = 5
            """);
        edges.hold("Promise 24", "IN WATER NOW.", """
            inWater() = 0 | zone(0, 5, 3) = 0 | zone(99, 7, 9) = 1 | inWater() = 0 | news(0, 1, 2, 1, 0) = 0
            news(1, 0, 61, 99, 0) = 1 | inWater() = 0
            pass(1) = 1 | inWater() = 8
            pass(1) = 2 | inWater() = 0 | news(0, 2, 3, 99, 0) = 2 | inWater() = 8 | truth(1) = 0 | inWater() = 8
            truth(2) = 1 | inWater() = 0
            """, "news(0, 0, 61, 99, 0) = 0 | inWater() = 0", Edges.rows(0, 5, "zone(0, 99999, 999) = @")
                + "news(0, 0, 61, 1, 0) = 0 | inWater() = 605988");
    }
}
