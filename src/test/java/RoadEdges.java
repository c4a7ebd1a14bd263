/** The edges of ==== 3: kinds, turning, what can be taken, what is shut. */
final class RoadEdges {
    private static final String[] KINDS = {
        "ROAD: its FLOW; TURNED: 0 in the HOUR in which it was, and as before from the next one on.",
        "WIDE: as a ROAD; TURNED: twice that.",
        "BRIDGE: as a ROAD, nothing if w is above 40.",
        "MAIN: as WIDE; but nothing in the HOUR in which it was TURNED and in the next one.",
        "SPAN: as BRIDGE, but half if w is above 20.",
        "PATH: a third of what a ROAD takes."};

    /** Of a flow of 11, by kind: untouched, in the hour in which it was turned, in the next one,
        in the one behind that. */
    private static final int[][] BY_HOURS = {{11, 0, 11, 11}, {11, 0, 22, 22}, {11, 0, 11, 11}, {11, 0, 0, 22},
        {11, 0, 11, 11}, {3, 0, 3, 3}};

    /** Of a flow of 11, by kind, in winds 0, 20, 21, 40, 41, 99. */
    private static final int[] WINDS = {0, 20, 21, 40, 41, 99};
    private static final int[][] BY_WIND = {{11, 11, 11, 11, 11, 11}, {11, 11, 11, 11, 11, 11}, {11, 11, 11, 11, 0, 0},
        {11, 11, 11, 11, 11, 11},
        {11, 11, 5, 5, 0, 0}, {3, 3, 3, 3, 3, 3}};

    private final Edges edges;

    RoadEdges(Edges edges) {
        this.edges = edges;
    }

    void hold() throws ReflectiveOperationException {
        roads();
        for (int kind = 0; kind < 6; kind++) {
            edges.hold("==== 3", KINDS[kind], winds(kind), turned(kind, 0), turned(kind, 7), turnedInWind(kind),
            folkByHours(kind),
                folkByWind(kind));
        }
        edges.hold("==== 3", "CAN TAKE in an HOUR, with WIND w:", """
            # the wind is that of the hour, and of the true track
            zone(0, 0, 0) = 0 | road(2, 0, 20, 11) = 0 | news(0, 1, 2, 0, 41) = 0 | news(1, 0, 61, 0, 99) = 1
            roadTold(0, 5) = 11
            pass(1) = 1 | roadTold(0, 5) = 0
            pass(1) = 2 | roadTold(0, 5) = 11 | truth(1) = 0 | roadTold(0, 5) = 0
            """, """
            # foreseen, it is that of the track that is asked for
            zone(3, 100, 0) = 0 | road(2, 0, 20, 11) = 0 | use(0) = NONE | text "heed 100; stop 0;" = 1 | force(1) = 0
            end(4) = 30 | news(0, 4, 5, 9, 0) = 0 | news(1, 4, 5, 9, 0) = 1 | news(1, 1, 3, 0, 41) = 2
            foresee(0, 0) = 56 | foresee(1, 0) = 78 | news(1, 1, 3, 0, 40) = 3 | foresee(1, 0) = 56
            """);
        edges.hold("==== 3", KINDS[1], """
            # twice the greatest flow
            zone(9, 99999, 0) = 0 | road(1, 0, 20, 9999) = 0 | road(3, 0, 20, 9999) = 1 | turn(0) = 0 | turn(1) = 0
            use(0) = NONE | text "heed 100; stop 0;" = 1 | force(1) = 0 | call(0) = 0
            pass(2) = 2 | roadTold(0, 5) = 19998 | roadTold(1, 5) = 19998 | count(12) = 19998 | use(1) = 0
            pass(1) = 3 | count(12) = 39996
            """);
        shut();
        way();
    }

    private void roads() throws ReflectiveOperationException {
        edges.hold("==== 3", "ROADS lead from a ZONE to a ZONE, a SHELTER or OUT", """
            zone(9, 100, 0) = 0 | zone(9, 100, 0) = 1 | zone(9, 100, 0) = 2 | shelter(999) = 0 | road(0, 0, 1, 5) = 0
            road(0, 1, 10, 6) = 1 | road(0, 2, 20, 7) = 2 | use(0) = NONE | use(1) = NONE | use(2) = NONE | call(0) = 0
            call(1) = 0 | call(2) = 0
            pass(1) = 1 | zoneTold(0, 2) = 15 | zoneTold(1, 2) = 19 | zoneTold(2, 2) = 13 | shelterTold(0, 1) = 6
            count(12) = 7
            """);
        edges.hold("==== 3", "have a FLOW (1 .. 9999)", """
            zone(0, 0, 0) = 0 | road(0, 0, 20, 0) = BAD | road(0, 0, 20, 10000) = BAD | road(0, 0, 20, -1) = BAD
            road(0, 0, 20, MIN) = BAD | road(0, 0, 20, MAX) = BAD | count(3) = 0 | road(0, 0, 20, 1) = 0
            road(0, 0, 20, 9999) = 1 | roadTold(0, 3) = 1 | roadTold(1, 3) = 9999 | roadTold(0, 5) = 1
            roadTold(1, 5) = 9999
            """);
        edges.hold("==== 3",
            "and a KIND: 0 ROAD, 1 WIDE under ROAD, 2 BRIDGE under ROAD, 3 MAIN under WIDE, 4 SPAN under BRIDGE, "
                + "5 PATH under ROAD.",
            "zone(0, 0, 0) = 0 | road(-1, 0, 20, 1) = BAD | road(6, 0, 20, 1) = BAD | road(MIN, 0, 20, 1) = BAD | "
                + "road(MAX, 0, 20, 1) = BAD\n"
                + Edges.rows(0, 5, "road(@, 0, 20, 11) = @ | roadTold(@, 0) = @") + """
            taken(1, 0) = 11 | taken(2, 0) = 11 | taken(3, 1) = 11 | taken(4, 2) = 11 | taken(5, 0) = 11
            taken(0, 1) = -13 | taken(1, 3) = -13 | taken(2, 4) = -13 | taken(3, 2) = -13 | taken(4, 1) = -13
            taken(5, 1) = -13
            """);
        edges.hold("==== 3",
            "A ROAD may be TURNED in an HOUR (once): from that on all its lanes lead out of the city.", """
            zone(0, 0, 0) = 0 | road(1, 0, 20, 11) = 0 | road(1, 0, 20, 12) = 1 | turn(0) = 0 | turn(0) = STATE
            pass(1) = 1 | turn(0) = STATE | roadTold(0, 4) = 0 | roadTold(0, 5) = 22 | turn(1) = 1 | turn(1) = STATE
            pass(29) = 30 | turn(1) = STATE | roadTold(0, 5) = 22 | roadTold(1, 4) = 1 | roadTold(1, 5) = 24
            """);
    }

    private static String begin(int kind) {
        return "zone(9, 1000, 0) = 0 | road(" + kind + ", 0, 20, 11) = 0 | use(0) = NONE\n";
    }

    private static String winds(int kind) {
        StringBuilder run = new StringBuilder(begin(kind));
        for (int i = 0; i < WINDS.length; i++) {
            run.append("news(0, 0, 61, 0, " + WINDS[i] + ") = " + i + " | roadTold(0, 5) = " + BY_WIND[kind][i] + "\n");
        }
        return run.toString();
    }

    private static String turned(int kind, int hour) {
        String told = "roadTold(0, 5) = ";
        int[] want = BY_HOURS[kind];
        return begin(kind) + (hour > 0 ? "pass(" + hour + ") = " + hour + "\n" : "") + told + want[0]
            + " | turn(0) = " + hour + "\n"
            + told + want[1] + " | pass(1) | " + told + want[2] + " | pass(1) | " + told + want[3] + " | pass(20) | "
            + told + want[3];
    }

    /** Behind its empty hours, so that the wind alone counts. */
    private static String turnedInWind(int kind) {
        StringBuilder run = new StringBuilder(begin(kind) + "turn(0) = 0 | pass(2) = 2\n");
        for (int i = 0; i < WINDS.length; i++) {
            int want = BY_WIND[kind][i] * (kind == 1 || kind == 3 ? 2 : 1);
            run.append("news(0, 2, 61, 0, " + WINDS[i] + ") = " + i + " | roadTold(0, 5) = " + want + "\n");
        }
        return run.toString();
    }

    private static final String ALL_GO = "text \"heed 100; stop 0;\" = 1 | force(1) = 0 | call(0) = 0\n";

    /** How many came out, not how many it is told to take: in the hour of the turn and in the three behind it. */
    private static String folkByHours(int kind) {
        int[] want = BY_HOURS[kind];
        int first = want[1] + want[2];
        return begin(kind) + ALL_GO + "turn(0) = 0 | pass(1) | count(12) = " + want[1] + " | pass(1) | count(12) = "
            + first
            + " | pass(1) | count(12) = " + (first + want[3]) + " | pass(1) | count(12) = " + (first + 2 * want[3]);
    }

    private static String folkByWind(int kind) {
        StringBuilder run = new StringBuilder(begin(kind) + ALL_GO);
        int out = 0;
        for (int i = 0; i < WINDS.length; i++) {
            out += BY_WIND[kind][i];
            run.append("news(0, " + i + ", " + (i + 1) + ", 0, " + WINDS[i] + ") = " + i + " | pass(1) | count(12) = "
                + out + "\n");
        }
        return run.toString();
    }

    private void shut() throws ReflectiveOperationException {
        String city = """
            zone(5, 100, 0) = 0 | zone(9, 100, 0) = 1 | shelter(99) = 0 | road(0, 0, 1, 10) = 0 | road(0, 1, 0, 10) = 1
            road(0, 1, 10, 10) = 2 | road(0, 0, 20, 10) = 3
            """;
        edges.hold("==== 3",
            "A ROAD is SHUT (it takes nothing) in an HOUR in which its ZONE is WET, or the ZONE to which it leads is.",
            city + """
            # as high as zone 0, above it, as high as zone 1, above it
            news(0, 0, 1, 5, 0) = 0 | roadTold(0, 5) = 10 | roadTold(1, 5) = 10 | roadTold(2, 5) = 10
            roadTold(3, 5) = 10 | news(0, 0, 1, 6, 0) = 1 | roadTold(0, 5) = 0 | roadTold(1, 5) = 0
            roadTold(2, 5) = 10 | roadTold(3, 5) = 0 | news(0, 0, 1, 9, 0) = 2 | roadTold(0, 5) = 0 | roadTold(1, 5) = 0
            roadTold(2, 5) = 10 | roadTold(3, 5) = 0 | news(0, 0, 1, 10, 0) = 3 | roadTold(0, 5) = 0
            roadTold(1, 5) = 0 | roadTold(2, 5) = 0 | roadTold(3, 5) = 0
            pass(1) = 1 | roadTold(0, 5) = 10 | roadTold(1, 5) = 10 | roadTold(2, 5) = 10 | roadTold(3, 5) = 10
            """, city + """
            # nobody comes to a zone that is wet, nor leaves it
            text "heed 50; stop 0;" = 1 | force(1) = 0 | use(0) = NONE | use(1) = NONE | call(0) = 0 | call(1) = 0
            news(0, 1, 2, 6, 0) = 0
            pass(1) = 1 | zoneTold(0, 2) = 50 | zoneTold(1, 2) = 50 | use(3) = 0
            pass(1) = 2 | zoneTold(0, 2) = 50 | zoneTold(1, 2) = 75 | count(12) = 0 | use(2) = 1
            news(0, 2, 3, 10, 0) = 1
            pass(1) = 3 | zoneTold(0, 2) = 50 | zoneTold(1, 2) = 75 | count(11) = 0
            pass(1) = 4 | count(11) = 10 | count(12) = 10
            """);
    }

    private void way() throws ReflectiveOperationException {
        edges.hold("==== 3", "Each ZONE has a WAY: one of the ROADS that lead from it, or none (at first).", """
            zone(9, 100, 0) = 0 | zone(9, 100, 0) = 1 | road(0, 0, 1, 10) = 0 | road(0, 0, 20, 10) = 1
            zoneTold(0, 5) = NONE | zoneTold(1, 5) = NONE | call(0) = 0
            pass(1) = 1 | zoneTold(0, 2) = 20 | count(12) = 0 | use(1) = NONE | zoneTold(0, 5) = 1
            zoneTold(1, 5) = NONE
            pass(1) = 2 | zoneTold(0, 2) = 34 | zoneTold(1, 2) = 0 | count(12) = 10 | use(0) = 1
            pass(1) = 3 | zoneTold(1, 2) = 10 | count(12) = 10
            """);
    }
}
