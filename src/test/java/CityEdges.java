/** The edges of ==== 1, of promises 1 to 11, and of how long an object is used. */
final class CityEdges {
    private final Edges edges;

    CityEdges(Edges edges) {
        this.edges = edges;
    }

    void hold() throws ReflectiveOperationException {
        howLong();
        hours();
        numbersOfThings();
        numbersOfOne();
        refusals();
        aNewObject();
        zone();
        shelter();
        road();
        useAndTurn();
        bus();
        zoneTold();
        shelterTold();
        roadTold();
        busTold();
    }

    /** The 512th call answers as is due, of calls that are made again and again as of any others. */
    private void howLong() throws ReflectiveOperationException {
        String held = "An object is used for at most 512 calls after it has been made; what later calls answer is free.";
        edges.hold("What it is", held, Edges.rows(1, 510, "end(31)") + "pass(31) = 31 | pass(1) = FULL",
            "zone(9, 100, 0) = 0 | call(0) = 0 | end(60) = 30\n" + Edges.rows(1, 60, "pass(1) = @")
                + Edges.rows(1, 448, "use(0) = BAD") + "zoneTold(0, 1) = 0",
            Edges.rows(1, 63, "feed(8, 0) | feed(7, 0) | feed(1, 0) | feed(1, 0) | feed(1, 0) | feed(1, 0) | "
                + "feed(1, 0) | text() = -100")
                + "feed(1, 0) = 1 | feed(8, 0) = 9 | feed(8, 0) = 17 | feed(8, 0) = 25 | feed(8, 0) = 33 | "
                + "feed(8, 0) = 41 | feed(8, 0) = 49 | text() = -100",
            "zone(3, 400, 0) = 0 | road(0, 0, 20, 60) = 0 | use(0) = NONE | news(0, 30, 31, 9, 0) = 0\n"
                + Edges.rows(1, 253, "best(1) = 0 | foresee(0, 99) = 400")
                + "call(0) = 0 | foresee(0, 0) = 0");
    }

    private void hours() throws ReflectiveOperationException {
        edges.hold("==== 1", "HOURS are numbered; NOW is 0 at first", "count(0) = 0 | pass(1) = 1 | count(0) = 1");
        edges.hold("==== 1", "END (1 .. 60; 30 at first) is the last one", """
            count(6) = 30 | end(0) = BAD | end(61) = BAD | end(-1) = BAD | end(MIN) = BAD | end(MAX) = BAD
            count(6) = 30 | end(1) = 30 | count(6) = 1 | end(60) = 1 | count(6) = 60
            """);
        edges.hold("==== 1", "NOW is END at most.",
            "pass(31) = FULL | pass(29) = 29 | pass(2) = FULL | pass(1) = 30 | pass(1) = FULL | count(0) = 30",
            "end(1) = 30 | pass(2) = FULL | pass(1) = 1 | pass(1) = FULL | count(0) = 1",
            "end(60) = 30 | pass(60) = 60 | pass(1) = FULL | pass(60) = FULL | count(0) = 60 | end(59) = BAD");
    }

    private void numbersOfThings() throws ReflectiveOperationException {
        String zones = Edges.rows(0, 5, "zone(@, @, @) = @");
        edges.hold("==== 1", "ZONES (6 at most)",
            zones + "zone(0, 0, 0) = FULL | zone(99, 99999, 999) = FULL | count(1) = 6 | zoneTold(5, 0) = 5 | "
                + "zoneTold(6, 0) = BAD");
        edges.hold("==== 1", "SHELTERS (3)", Edges.rows(0, 2, "shelter(1@) = @")
            + "shelter(5) = FULL | count(2) = 3 | shelterTold(2, 0) = 12 | shelterTold(3, 0) = BAD");
        edges.hold("==== 1", "ROADS (14)", "zone(0, 0, 0) = 0\n" + Edges.rows(0, 13, "road(0, 0, 20, 4@) = @")
            + "road(0, 0, 20, 1) = FULL | count(3) = 14 | use(13) = NONE | roadTold(13, 3) = 413 | "
            + "roadTold(14, 0) = BAD");
        edges.hold("==== 1", "BUSES (4)", "zone(0, 0, 9) = 0 | shelter(5) = 0\n"
            + Edges.rows(0, 3, "bus(0, 0, 1, 3) = @")
            + "bus(0, 0, 1, 1) = FULL | count(4) = 4 | pass(1) = 1 | busTold(3, 1) = 1 | busTold(4, 0) = BAD | "
            + "count(10) = 4");
        edges.hold("==== 1", "CALLS (one of a ZONE)", zones + Edges.rows(0, 5, "call(@) = 0")
            + Edges.rows(0, 5, "call(@) = STATE")
            + "pass(3) = 3 | call(0) = STATE | call(5) = STATE | zoneTold(0, 4) = 0 | zoneTold(5, 4) = 0");
        edges.hold("==== 1", "TEXTS (6, TEXT 0 with them)", "count(13) = 1 | force(0) = 0 | force(1) = BAD\n"
            + Edges.rows(1, 5, "text \"heed @; stop 0;\" = @") + """
            count(13) = 6 | force(5) = 0 | feed "heed 6; stop 0;" = 15 | text() = FULL | count(13) = 6 | count(14) = 15
            force(6) = BAD | count(15) = 5
            """);
        edges.hold("==== 1", "are numbered from 0 as they come.", """
            zone(1, 0, 0) = 0 | zone(2, 0, 0) = 1 | shelter(3) = 0 | shelter(4) = 1 | road(0, 0, 20, 5) = 0
            road(0, 1, 20, 6) = 1 | bus(0, 0, 7, 1) = 0 | bus(0, 0, 8, 1) = 1 | text "heed 9; stop 0;" = 1
            text "heed 10; stop 0;" = 2 | zoneTold(0, 0) = 1 | zoneTold(1, 0) = 2 | shelterTold(0, 0) = 3
            shelterTold(1, 0) = 4 | roadTold(0, 3) = 5 | roadTold(1, 3) = 6 | force(1) = 0 | says(0, 0) = 9
            force(2) = 1 | says(0, 0) = 10
            """);
    }

    private void numbersOfOne() throws ReflectiveOperationException {
        edges.hold("==== 1", "A ZONE has a HEIGHT (0 .. 99)", """
            zone(-1, 0, 0) = BAD | zone(100, 0, 0) = BAD | zone(MIN, 0, 0) = BAD | zone(MAX, 0, 0) = BAD | count(1) = 0
            zone(0, 0, 0) = 0 | zone(99, 0, 0) = 1 | zoneTold(0, 0) = 0 | zoneTold(1, 0) = 99
            """);
        edges.hold("==== 1", "and folk AT HOME (0 .. 99999)", """
            zone(0, -1, 0) = BAD | zone(0, 100000, 0) = BAD | zone(0, MIN, 0) = BAD | zone(0, MAX, 0) = BAD
            count(1) = 0 | zone(0, 0, 0) = 0 | zone(0, 99999, 0) = 1 | zoneTold(0, 1) = 0 | zoneTold(1, 1) = 99999
            count(7) = 99999
            """, Edges.rows(0, 5, "zone(0, 99999, 999) = @") + "count(7) = 599994 | count(9) = 5994 | "
                + "news(0, 0, 61, 1, 0) = 0 | inWater() = 605988");
        edges.hold("==== 1", "ill ones among them not counted: ILL (0 .. 999).", """
            zone(0, 0, -1) = BAD | zone(0, 0, 1000) = BAD | zone(0, 0, MIN) = BAD | zone(0, 0, MAX) = BAD | count(1) = 0
            zone(0, 0, 0) = 0 | zone(0, 10, 999) = 1 | zoneTold(0, 3) = 0 | zoneTold(1, 3) = 999 | zoneTold(1, 1) = 10
            count(7) = 10 | count(9) = 999
            """);
        edges.hold("==== 1", "A SHELTER has ROOM (0 .. 99999).", """
            shelter(-1) = BAD | shelter(100000) = BAD | shelter(MIN) = BAD | shelter(MAX) = BAD | count(2) = 0
            shelter(0) = 0 | shelter(99999) = 1 | shelterTold(0, 0) = 0 | shelterTold(1, 0) = 99999
            """);
    }

    private void refusals() throws ReflectiveOperationException {
        edges.hold("==== 1", "NONE is -1; NO, where a long is answered, -4611686018427387904.", """
            zone(0, 0, 0) = 0 | zoneTold(0, 4) = -1 | zoneTold(0, 5) = -1 | good(0) = -1 | bestCall(0) = -1
            says(1, 0) = -4611686018427387904 | foresee(3, 0) = -4611686018427387904 | best(2) = -4611686018427387904
            """);
        // A fifth of 4 and of 5; a half of 1 and of 3; a third of 2 and of 3.
        edges.hold("==== 1", "Quotients are cut.",
            "zone(0, 4, 0) = 0 | zone(0, 5, 0) = 1 | call(0) = 0 | call(1) = 0 | pass(1) = 1 | zoneTold(0, 2) = 0 | "
                + "zoneTold(1, 2) = 1",
            """
            zone(0, 0, 0) = 0 | road(4, 0, 20, 1) = 0 | road(4, 0, 20, 3) = 1 | road(5, 0, 20, 2) = 2
            road(5, 0, 20, 3) = 3 | road(5, 0, 20, 9999) = 4 | road(4, 0, 20, 9999) = 5 | news(0, 0, 61, 0, 30) = 0
            roadTold(0, 5) = 0 | roadTold(1, 5) = 1 | roadTold(2, 5) = 0 | roadTold(3, 5) = 1 | roadTold(4, 5) = 3333
            roadTold(5, 5) = 4999
            """);
        edges.hold("==== 1",
            "Refusals, the first that the call's words name; they change nothing: BAD (-2: a number is none such "
                + "or not as told),"
                + " STATE (-3), FULL (-4)", fullCity() + """
            zone(100, 0, 0) = -2 | zone(0, 0, 0) = -3 | shelter(-1) = -2 | shelter(0) = -4 | road(6, 0, 20, 1) = -2
            road(0, 0, 20, 1) = -4 | bus(0, 0, 0, 1) = -2 | bus(0, 0, 1, 1) = -4 | turn(14) = -2 | turn(0) = -3
            news(0, 0, 5, 0, 0) = -2 | news(0, 1, 5, 0, 0) = -4
            pass(61) = -2
            pass(60) = -4 | call(6) = -2 | call(0) = -3
            """, """
            zone(0, 0, 0) = 0 | end(1) = 30
            pass(1) = 1 | call(1) = -2 | call(0) = -3
            pass(0) = -2
            pass(1) = -4 | feed(0, 0) = -2 | feed(9, 0) = -2
            """, Edges.rows(1, 20, "feed(8, 0)") + "feed(9, 0) = -2 | feed(0, 0) = -2 | feed(1, 0) = -4 | "
                + "count(14) = 160");
        edges.hold("==== 1",
            "the host's: -11 nothing where something is asked, -12 a place outside, -13 a thing of another sort "
                + "or KIND, "
                + "-14 a size below 0.", """
            cell(0, 0, 0) = -11 | taken(0, 0) = -11 | sheet(0, 0, -1) = -14 | sheet(0, 0, 4) = 1 | sheet(1, 1, 4) = 1
            cell(0, 4, 0) = -12 | copy(0, 0, 1, 0, 1) = -13 | zone(0, 0, 0) = 0 | road(1, 0, 20, 1) = 0
            taken(0, 2) = -13 | newsRow(0, 2, 0, 0, 1) = -11 | newsRow(0, 0, 1, 0, 1) = -13
            newsRow(0, 0, 0, 1, 1) = -12 | copy(0, 0, 2, 0, 1) = -11 | copy(0, 0, 0, 1, 4) = -12
            """);
    }

    /** Six zones, three shelters, fourteen roads, four buses, forty news; it is hour 1. */
    private static String fullCity() {
        return Edges.rows(0, 5, "zone(@, 9, 9) = @") + Edges.rows(0, 2, "shelter(@) = @")
            + Edges.rows(0, 13, "road(0, 0, 20, 1) = @") + Edges.rows(0, 3, "bus(0, 0, 1, 1) = @")
            + Edges.rows(0, 39, "news(0, 0, 61, 0, 0) = @") + "turn(0) = 0 | call(0) = 0 | pass(1) = 1\n";
    }

    private void aNewObject() throws ReflectiveOperationException {
        edges.hold("Promise 1", "`FloodCity()`: No ZONES; NOW is 0.", """
            count(0) = 0 | count(1) = 0 | count(2) = 0 | count(3) = 0 | count(4) = 0 | count(5) = 0 | count(6) = 30
            count(7) = 0 | count(8) = 0 | count(9) = 0 | count(10) = 0 | count(11) = 0 | count(12) = 0 | count(13) = 1
            count(14) = 0 | count(15) = 0
            """, """
            zoneTold(0, 0) = BAD | shelterTold(0, 0) = BAD | roadTold(0, 0) = BAD | busTold(0, 0) = BAD
            road(0, 0, 20, 1) = BAD | use(0) = BAD | turn(0) = BAD | bus(0, 0, 1, 1) = BAD | call(0) = BAD
            good(0) = BAD | says(0, 0) = NO | says(0, 1) = NO | best(1) = NO | best(0) = 0 | bestCall(0) = NONE
            foresee(0, 1) = NO | foresee(0, 0) = 0 | inWater() = 0 | taken(0, 0) = -11 | cell(0, 0, 0) = -11
            text() = -100
            pass(30) = 30
            """);
    }

    private void zone() throws ReflectiveOperationException {
        edges.hold("Promise 2", "A ZONE: its number.",
            Edges.rows(0, 5, "zone(1@, 10@, 2@) = @") + Edges.rows(0, 5,
            "zoneTold(@, 0) = 1@ | zoneTold(@, 1) = 10@ | zoneTold(@, 3) = 2@"));
        edges.hold("Promise 2", "BAD; STATE: NOW is above 0; FULL.",
            // The last hour in which a zone comes is 0.
            "zone(0, 0, 0) = 0 | pass(1) = 1 | zone(0, 0, 0) = STATE | zone(100, 0, 0) = BAD | "
                + "zone(0, -1, 0) = BAD | pass(29) = 30 | zone(0, 0, 0) = STATE",
            Edges.rows(0, 5, "zone(0, 0, 0) = @") + "zone(0, 0, 1000) = BAD | zone(0, 0, 0) = FULL | pass(1) = 1 | "
                + "zone(0, 0, 0) = STATE | zone(0, 0, 1000) = BAD",
            "pass(1) = 1 | zone(0, 0, 0) = STATE | count(1) = 0");
    }

    private void shelter() throws ReflectiveOperationException {
        edges.hold("Promise 3", "A SHELTER: its number.",
            "shelter(7) = 0 | pass(30) = 30 | shelter(8) = 1 | shelter(9) = 2 | shelterTold(0, 0) = 7 | "
                + "shelterTold(2, 0) = 9");
        edges.hold("Promise 3", "BAD; FULL.",
            "shelter(-1) = BAD\n" + Edges.rows(0, 2, "shelter(0) = @")
                + "shelter(0) = FULL | shelter(-1) = BAD | shelter(100000) = BAD | count(2) = 3");
    }

    private void road() throws ReflectiveOperationException {
        String six = Edges.rows(0, 5, "zone(0, 0, 0) = @");
        edges.hold("Promise 4", "A ROAD (to: 0 .. 5 a ZONE, 10 + s a SHELTER, 20 OUT): its number.", """
            zone(0, 0, 0) = 0 | road(0, 0, 20, 1) = 0 | road(0, 0, 1, 1) = BAD | zone(0, 0, 0) = 1
            road(0, 0, 1, 1) = 1 | road(0, 1, 0, 1) = 2 | road(0, 0, 2, 1) = BAD | road(0, 0, 5, 1) = BAD
            road(0, 0, 10, 1) = BAD | shelter(0) = 0 | road(0, 0, 10, 1) = 3 | road(0, 0, 11, 1) = BAD | shelter(0) = 1
            road(0, 0, 11, 1) = 4 | road(0, 0, 12, 1) = BAD | roadTold(1, 2) = 1 | roadTold(4, 2) = 11
            roadTold(0, 2) = 20
            """, six + Edges.rows(0, 2, "shelter(0) = @") + """
            road(0, 0, 5, 1) = 0 | road(0, 0, 6, 1) = BAD | road(0, 0, 9, 1) = BAD | road(0, 0, 12, 1) = 1
            road(0, 0, 13, 1) = BAD | road(0, 0, 19, 1) = BAD | road(0, 0, 20, 1) = 2 | road(0, 0, 21, 1) = BAD
            road(0, 0, -1, 1) = BAD | road(0, 0, MIN, 1) = BAD | road(0, 0, MAX, 1) = BAD | count(3) = 3
            """);
        edges.hold("Promise 4", "BAD: KIND, from, to (the same ZONE, too), FLOW", six + """
            road(-1, 0, 20, 1) = BAD | road(6, 0, 20, 1) = BAD | road(MIN, 0, 20, 1) = BAD | road(MAX, 0, 20, 1) = BAD
            road(0, -1, 20, 1) = BAD | road(0, 6, 20, 1) = BAD | road(0, MIN, 20, 1) = BAD | road(0, MAX, 20, 1) = BAD
            road(0, 20, 20, 1) = BAD | road(0, 0, 0, 1) = BAD | road(0, 5, 5, 1) = BAD | road(0, 0, 20, 0) = BAD
            road(0, 0, 20, 10000) = BAD | count(3) = 0 | road(0, 5, 4, 1) = 0 | road(5, 0, 20, 9999) = 1
            road(0, 5, 0, 1) = 2
            """, "zone(0, 0, 0) = 0 | road(0, 1, 20, 1) = BAD | zone(0, 0, 0) = 1 | road(0, 1, 20, 1) = 0 | "
                + "road(0, 2, 20, 1) = BAD");
        edges.hold("Promise 4", "; FULL.", "zone(0, 0, 0) = 0\n" + Edges.rows(0, 13, "road(0, 0, 20, 1) = @") + """
            road(0, 0, 20, 1) = FULL | road(6, 0, 20, 1) = BAD | road(0, 1, 20, 1) = BAD | road(0, 0, 0, 1) = BAD
            road(0, 0, 20, 0) = BAD
            pass(1) = 1 | road(0, 0, 20, 1) = FULL | count(3) = 14
            """, "zone(0, 0, 0) = 0 | pass(30) = 30 | road(0, 0, 20, 1) = 0");
    }

    private void useAndTurn() throws ReflectiveOperationException {
        String three = "zone(0, 0, 0) = 0 | zone(0, 0, 0) = 1 | road(0, 0, 20, 1) = 0 | road(0, 0, 1, 1) = 1 | "
            + "road(0, 1, 20, 1) = 2\n";
        edges.hold("Promise 5", "A ROAD is the WAY of its ZONE: which was (NONE).", three + """
            use(1) = NONE | use(1) = 1 | use(0) = 1 | use(2) = NONE | use(1) = 0 | use(2) = 2 | zoneTold(0, 5) = 1
            zoneTold(1, 5) = 2
            """);
        edges.hold("Promise 5", "BAD.", three + "use(-1) = BAD | use(3) = BAD | use(MIN) = BAD | use(MAX) = BAD | "
            + "use(2) = NONE | use(0) = NONE",
            "use(0) = BAD | zone(0, 0, 0) = 0 | use(0) = BAD | road(0, 0, 20, 1) = 0 | use(0) = NONE | use(1) = BAD");
        edges.hold("Promise 6", "A ROAD is TURNED: NOW.", three
            + "turn(0) = 0 | pass(1) = 1 | turn(1) = 1 | pass(29) = 30 | turn(2) = 30 | roadTold(0, 4) = 0 | "
            + "roadTold(1, 4) = 1 | roadTold(2, 4) = 30");
        edges.hold("Promise 6", "BAD; STATE: it was.", three + """
            turn(-1) = BAD | turn(3) = BAD | turn(MIN) = BAD | turn(MAX) = BAD | turn(2) = 0 | turn(2) = STATE
            pass(1) = 1 | turn(2) = STATE | turn(1) = 1 | turn(1) = STATE | roadTold(2, 4) = 0 | roadTold(0, 4) = NONE
            """, "turn(0) = BAD");
    }

    private void bus() throws ReflectiveOperationException {
        edges.hold("Promise 7", "A BUS, free: its number.", """
            zone(0, 0, 9) = 0 | shelter(9) = 0 | bus(0, 0, 1, 1) = 0 | busTold(0, 0) = 1 | busTold(0, 2) = NONE
            pass(30) = 30 | bus(0, 0, 99, 9) = 1 | busTold(1, 0) = 1 | busTold(1, 2) = NONE
            """);
        edges.hold("Promise 7", "BAD; FULL.", """
            bus(0, 0, 1, 1) = BAD | zone(0, 0, 0) = 0 | bus(0, 0, 1, 1) = BAD | shelter(0) = 0 | bus(1, 0, 1, 1) = BAD
            bus(-1, 0, 1, 1) = BAD | bus(0, 1, 1, 1) = BAD | bus(0, -1, 1, 1) = BAD | bus(0, 10, 1, 1) = BAD
            bus(MIN, 0, 1, 1) = BAD | bus(MAX, 0, 1, 1) = BAD | bus(0, MIN, 1, 1) = BAD | bus(0, MAX, 1, 1) = BAD
            count(4) = 0 | bus(0, 0, 1, 1) = 0 | bus(0, 0, 1, 1) = 1 | bus(0, 0, 1, 1) = 2 | bus(0, 0, 1, 1) = 3
            bus(0, 0, 1, 1) = FULL | bus(1, 0, 1, 1) = BAD | bus(0, 1, 1, 1) = BAD | bus(0, 0, 0, 1) = BAD
            bus(0, 0, 1, 10) = BAD
            """, "shelter(0) = 0 | bus(0, 0, 1, 1) = BAD",
            Edges.rows(0, 5, "zone(0, 0, 0) = @") + Edges.rows(0, 2, "shelter(0) = @")
                + "bus(5, 2, 1, 1) = 0 | bus(6, 2, 1, 1) = BAD | bus(5, 3, 1, 1) = BAD");
    }

    private void zoneTold() throws ReflectiveOperationException {
        edges.hold("Promise 8",
            "Of a ZONE: 0 HEIGHT, 1 AT HOME, 2 ON THE WAY, 3 ILL, 4 the HOUR of its CALL (NONE), 5 its WAY "
                + "(NONE), 6 whether"
                + " it is WET NOW (1, 0).", """
            zone(7, 100, 3) = 0 | zoneTold(0, 0) = 7 | zoneTold(0, 1) = 100 | zoneTold(0, 2) = 0 | zoneTold(0, 3) = 3
            zoneTold(0, 4) = NONE | zoneTold(0, 5) = NONE | zoneTold(0, 6) = 0 | call(0) = 0 | zoneTold(0, 4) = 0
            road(0, 0, 20, 5) = 0 | use(0) = NONE | zoneTold(0, 5) = 0
            pass(1) = 1 | zoneTold(0, 1) = 80 | zoneTold(0, 2) = 15 | news(0, 1, 61, 7, 0) = 0 | zoneTold(0, 6) = 0
            news(0, 1, 61, 8, 0) = 1 | zoneTold(0, 6) = 1 | news(1, 1, 61, 99, 0) = 2 | news(0, 1, 2, 0, 0) = 3
            zoneTold(0, 6) = 0
            pass(1) = 2 | zoneTold(0, 6) = 1
            """, "zone(7, 0, 0) = 0 | pass(30) = 30 | zoneTold(0, 4) = NONE",
            "zone(7, 0, 0) = 0 | pass(29) = 29 | call(0) = 29 | zoneTold(0, 4) = 29");
        edges.hold("Promise 8", "BAD.", Edges.rows(0, 5, "zoneTold(@, 0) = BAD | zone(@, 0, 0) = @ | "
            + "zoneTold(@, 0) = @") + """
            zoneTold(-1, 0) = BAD | zoneTold(6, 0) = BAD | zoneTold(MIN, 0) = BAD | zoneTold(MAX, 0) = BAD
            zoneTold(5, -1) = BAD | zoneTold(5, 7) = BAD | zoneTold(5, MIN) = BAD | zoneTold(5, MAX) = BAD
            zoneTold(6, 7) = BAD
            """);
    }

    private void shelterTold() throws ReflectiveOperationException {
        edges.hold("Promise 9", "Of a SHELTER: 0 ROOM left (less what is kept), 1 how many are in it.", """
            zone(7, 0, 9) = 0 | shelter(9) = 0 | shelterTold(0, 0) = 9 | shelterTold(0, 1) = 0 | bus(0, 0, 4, 2) = 0
            pass(1) = 1 | shelterTold(0, 0) = 5 | shelterTold(0, 1) = 0
            pass(1) = 2 | shelterTold(0, 0) = 5 | shelterTold(0, 1) = 4
            pass(2) = 4 | shelterTold(0, 0) = 1 | shelterTold(0, 1) = 8
            pass(1) = 5 | shelterTold(0, 0) = 0 | shelterTold(0, 1) = 8
            pass(1) = 6 | shelterTold(0, 0) = 0 | shelterTold(0, 1) = 9
            """);
        edges.hold("Promise 9", "BAD.", Edges.rows(0, 2, "shelterTold(@, 0) = BAD | shelter(5) = @ | "
            + "shelterTold(@, 0) = 5") + """
            shelterTold(-1, 0) = BAD | shelterTold(3, 0) = BAD | shelterTold(MIN, 0) = BAD | shelterTold(MAX, 0) = BAD
            shelterTold(10, 0) = BAD | shelterTold(2, -1) = BAD | shelterTold(2, 2) = BAD | shelterTold(2, MIN) = BAD
            shelterTold(2, MAX) = BAD
            """);
    }

    private void roadTold() throws ReflectiveOperationException {
        edges.hold("Promise 10",
            "Of a ROAD: 0 KIND, 1 its ZONE, 2 where it leads (as in road()), 3 FLOW, 4 the HOUR in which it was "
                + "TURNED (NONE), "
                + "5 what it CAN TAKE NOW (SHUT: 0).", """
            zone(9, 0, 0) = 0 | zone(5, 0, 0) = 1 | shelter(0) = 0 | road(3, 1, 10, 44) = 0 | road(0, 1, 0, 9999) = 1
            roadTold(0, 0) = 3 | roadTold(0, 1) = 1 | roadTold(0, 2) = 10 | roadTold(0, 3) = 44 | roadTold(0, 4) = NONE
            roadTold(0, 5) = 44 | roadTold(1, 2) = 0 | roadTold(1, 3) = 9999 | roadTold(1, 5) = 9999 | turn(0) = 0
            roadTold(0, 4) = 0 | roadTold(0, 3) = 44 | roadTold(0, 5) = 0
            pass(2) = 2 | roadTold(0, 5) = 88 | roadTold(0, 3) = 44 | news(0, 2, 3, 6, 0) = 0 | roadTold(0, 5) = 0
            roadTold(1, 5) = 0
            pass(1) = 3 | roadTold(0, 5) = 88
            """);
        edges.hold("Promise 10", "BAD.", "zone(0, 0, 0) = 0\n" + Edges.rows(0, 13,
            "roadTold(@, 3) = BAD | road(0, 0, 20, 3@) = @ | roadTold(@, 3) = 3@") + """
            roadTold(-1, 0) = BAD | roadTold(14, 0) = BAD | roadTold(MIN, 0) = BAD | roadTold(MAX, 0) = BAD
            roadTold(13, -1) = BAD | roadTold(13, 6) = BAD | roadTold(13, MIN) = BAD | roadTold(13, MAX) = BAD
            """);
    }

    private void busTold() throws ReflectiveOperationException {
        edges.hold("Promise 11",
            "Of a BUS: 0 whether it is free (1, 0), 1 how many are IN IT, 2 the HOUR in which its TRIP is over "
                + "(NONE: it is free).", """
            zone(7, 0, 9) = 0 | shelter(99) = 0 | bus(0, 0, 5, 2) = 0 | busTold(0, 0) = 1 | busTold(0, 1) = 0
            busTold(0, 2) = NONE
            pass(1) = 1 | busTold(0, 0) = 0 | busTold(0, 1) = 5 | busTold(0, 2) = 2
            pass(1) = 2 | busTold(0, 0) = 1 | busTold(0, 1) = 0 | busTold(0, 2) = NONE
            pass(1) = 3 | busTold(0, 0) = 0 | busTold(0, 1) = 4 | busTold(0, 2) = 4
            pass(2) = 5 | busTold(0, 0) = 1 | busTold(0, 1) = 0 | busTold(0, 2) = NONE
            """);
        edges.hold("Promise 11", "BAD.", "zone(0, 0, 0) = 0 | shelter(0) = 0\n"
            + Edges.rows(0, 3, "busTold(@, 0) = BAD | bus(0, 0, 1, 1) = @ | busTold(@, 0) = 1") + """
            busTold(-1, 0) = BAD | busTold(4, 0) = BAD | busTold(MIN, 0) = BAD | busTold(MAX, 0) = BAD
            busTold(3, -1) = BAD | busTold(3, 3) = BAD | busTold(3, MIN) = BAD | busTold(3, MAX) = BAD
            """);
    }
}
