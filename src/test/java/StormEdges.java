/** The edges of ==== 2 and of promises 12 to 16. */
final class StormEdges {
    private final Edges edges;

    StormEdges(Edges edges) {
        this.edges = edges;
    }

    void hold() throws ReflectiveOperationException {
        tracks();
        news();
        known();
        wet();
        endLikelyTruth();
        newsRefused();
        knownRefused();
    }

    private void tracks() throws ReflectiveOperationException {
        edges.hold("==== 2", "THE STORM: TRACKS 0 .. 2", """
            news(2, 0, 1, 5, 6) = 0 | news(0, 0, 1, 7, 8) = 1 | news(-1, 0, 1, 0, 0) = BAD | news(3, 0, 1, 0, 0) = BAD
            known(2, 0, 0, 0) = 5 | known(0, 0, 0, 0) = 7 | known(-1, 0, 0, 0) = BAD | known(3, 0, 0, 0) = BAD
            likely(2, 0) = 0 | likely(0, 1) = 1 | likely(-1, 0) = BAD | likely(3, 0) = BAD | truth(2) = 0 | truth(0) = 2
            truth(-1) = BAD | truth(3) = BAD | foresee(2, 0) = 0 | foresee(0, 0) = 0 | foresee(-1, 0) = NO
            foresee(3, 0) = NO | sheet(0, 0, 4) = 1 | newsRow(2, 0, 0, 0, 0) = 0 | newsRow(0, 0, 0, 0, 0) = 0
            newsRow(-1, 0, 0, 0, 0) = BAD | newsRow(3, 0, 0, 0, 0) = BAD
            """);
        edges.hold("==== 2", "each LIKELY or not (TRACK 0 is at first)",
            "likely(0, 1) = 1 | likely(1, 1) = 0 | likely(2, 1) = 0 | likely(0, 0) = 1 | likely(1, 0) = 1 | "
                + "likely(2, 0) = 1 | likely(0, 0) = 0");
        edges.hold("==== 2", "of each for each HOUR (0 .. 60) a WATER (0 .. 99) and a WIND (0 .. 99), 0 at first.", """
            known(0, 0, 0, 0) = 0 | known(0, 60, 0, 0) = 0 | known(1, 0, 0, 1) = 0 | known(2, 60, 0, 1) = 0
            known(2, 30, 0, 0) = 0 | known(0, -1, 0, 0) = BAD | known(0, 61, 0, 0) = BAD | known(0, -1, 0, 1) = BAD
            known(0, 61, 0, 1) = BAD | news(0, 0, 61, -1, 0) = BAD | news(0, 0, 61, 100, 0) = BAD
            news(0, 0, 61, 0, -1) = BAD | news(0, 0, 61, 0, 100) = BAD | count(5) = 0 | news(0, 0, 61, 99, 0) = 0
            known(0, 0, 0, 0) = 99 | known(0, 60, 0, 0) = 99 | known(0, 60, 0, 1) = 0 | news(0, 0, 61, 0, 99) = 1
            known(0, 0, 0, 1) = 99 | known(0, 60, 0, 1) = 99 | known(0, 0, 0, 0) = 0 | known(1, 60, 0, 1) = 0
            known(2, 0, 0, 1) = 0
            """);
        edges.hold("==== 2",
            "THE TRUE TRACK (0 at first) is that by which all goes that happens; it goes by all NEWS that are "
                + "told by then.", """
            # water, wind, roads, folk and buses go by it, also by news of this hour
            zone(5, 100, 9) = 0 | shelter(99) = 0 | bus(0, 0, 1, 1) = 0 | road(2, 0, 20, 10) = 0 | use(0) = NONE
            call(0) = 0 | news(1, 0, 61, 6, 70) = 0 | inWater() = 0 | zoneTold(0, 6) = 0 | roadTold(0, 5) = 10
            says(0, 1) = 0 | truth(0) = 0 | truth(1) = 0 | inWater() = 109 | zoneTold(0, 6) = 1 | roadTold(0, 5) = 0
            says(0, 1) = 1
            pass(1) = 1 | zoneTold(0, 1) = 100 | zoneTold(0, 3) = 9 | news(1, 1, 2, 0, 0) = 1 | inWater() = 0
            says(0, 1) = 0
            pass(1) = 2 | zoneTold(0, 1) = 70 | zoneTold(0, 3) = 8 | count(12) = 10 | inWater() = 98 | truth(2) = 1
            inWater() = 0
            """);
    }

    private void news() throws ReflectiveOperationException {
        edges.hold("==== 2", "They are told anew from NOW on", """
            news(0, 0, 61, 1, 2) = 0
            pass(5) = 5 | news(0, 4, 61, 3, 4) = BAD | news(0, 4, 5, 3, 4) = BAD | news(0, 0, 1, 3, 4) = BAD
            news(0, 5, 61, 3, 4) = 1 | known(0, 4, 5, 0) = 1 | known(0, 5, 5, 0) = 3 | known(0, 4, 5, 1) = 2
            known(0, 5, 5, 1) = 4 | end(60) = 30
            pass(55) = 60 | news(0, 59, 61, 5, 5) = BAD | news(0, 60, 61, 5, 6) = 2 | known(0, 60, 60, 0) = 5
            """);
        edges.hold("==== 2", "as NEWS (40 at most, numbered from 0)", Edges.rows(0, 39, "news(1, @, 61, @, 7) = @")
            + """
            news(1, 0, 61, 9, 9) = FULL | news(2, 60, 61, 9, 9) = FULL | count(5) = 40 | known(1, 39, 0, 0) = 39
            known(1, 38, 0, 0) = 38 | known(1, 60, 0, 0) = 39 | known(1, 0, 0, 0) = 0 | known(2, 60, 0, 0) = 0
            """, "count(5) = 0 | news(0, 0, 61, 0, 0) = 0 | count(5) = 1 | news(2, 0, 1, 0, 0) = 1 | count(5) = 2");
        edges.hold("==== 2", "a TRACK, from an HOUR on ahead of another one, WATER, WIND.", """
            news(1, 10, 12, 5, 6) = 0 | known(1, 9, 0, 0) = 0 | known(1, 10, 0, 0) = 5 | known(1, 11, 0, 0) = 5
            known(1, 12, 0, 0) = 0 | known(1, 9, 0, 1) = 0 | known(1, 10, 0, 1) = 6 | known(1, 11, 0, 1) = 6
            known(1, 12, 0, 1) = 0 | known(0, 10, 0, 0) = 0 | known(2, 10, 0, 0) = 0 | news(1, 11, 11, 7, 7) = BAD
            news(1, 11, 10, 7, 7) = BAD | news(1, 11, 12, 7, 8) = 1 | known(1, 10, 0, 0) = 5 | known(1, 11, 0, 0) = 7
            known(1, 12, 0, 0) = 0 | news(1, 60, 61, 9, 9) = 2 | known(1, 59, 0, 0) = 0 | known(1, 60, 0, 0) = 9
            """, """
            # the same hours of the true track as it goes
            zone(0, 7, 0) = 0 | news(0, 1, 3, 1, 0) = 0 | inWater() = 0
            pass(1) = 1 | inWater() = 7
            pass(1) = 2 | inWater() = 7
            pass(1) = 3 | inWater() = 0
            """);
    }

    private void known() throws ReflectiveOperationException {
        edges.hold("==== 2",
            "As was KNOWN in an HOUR: by all NEWS that were told in that HOUR or ahead of it (of several that "
                + "tell of an HOUR the latest one).", """
            news(0, 8, 10, 1, 11) = 0
            pass(1) = 1 | news(0, 9, 11, 2, 12) = 1 | news(1, 8, 10, 3, 13) = 2
            pass(1) = 2 | news(0, 8, 9, 4, 14) = 3 | news(0, 8, 9, 5, 15) = 4
            pass(1) = 3 | known(0, 8, 0, 0) = 1 | known(0, 8, 1, 0) = 1 | known(0, 8, 2, 0) = 5 | known(0, 8, 3, 0) = 5
            known(0, 9, 0, 0) = 1 | known(0, 9, 1, 0) = 2 | known(0, 9, 2, 0) = 2 | known(0, 9, 3, 1) = 12
            known(0, 10, 0, 0) = 0 | known(0, 10, 1, 0) = 2 | known(0, 8, 1, 1) = 11 | known(0, 8, 2, 1) = 15
            known(1, 8, 0, 0) = 0 | known(1, 8, 1, 0) = 3 | known(1, 8, 3, 1) = 13
            # of hours that are past
            known(0, 0, 3, 0) = 0
            pass(6) = 9 | news(0, 9, 61, 6, 16) = 5 | known(0, 9, 8, 0) = 2 | known(0, 9, 9, 0) = 6
            known(0, 8, 9, 0) = 5 | known(0, 8, 0, 0) = 1
            """);
    }

    private void wet() throws ReflectiveOperationException {
        edges.hold("==== 2", "A ZONE is WET in an HOUR, if WATER is above its HEIGHT.",
            "zone(0, 1, 0) = 0 | zoneTold(0, 6) = 0 | inWater() = 0 | news(0, 0, 61, 1, 0) = 0 | "
                + "zoneTold(0, 6) = 1 | inWater() = 1",
            "zone(98, 1, 0) = 0 | zone(99, 2, 0) = 1 | news(0, 0, 61, 98, 0) = 0 | inWater() = 0 | "
                + "news(0, 0, 61, 99, 0) = 1 | inWater() = 1 | zoneTold(0, 6) = 1 | zoneTold(1, 6) = 0",
            Edges.rows(0, 5, "zone(1@, 1, 0) = @") + Edges.rows(0, 5, "news(0, 0, 61, 1@, 0) = @ | inWater() = @")
                + "news(0, 0, 61, 16, 0) = 6 | inWater() = 6");
    }

    private void endLikelyTruth() throws ReflectiveOperationException {
        edges.hold("Promise 12", "END: what it was.", "end(31) = 30 | end(31) = 31 | end(1) = 31 | end(60) = 1 | "
            + "count(6) = 60");
        edges.hold("Promise 12", "BAD: not 1 .. 60, below NOW.", """
            end(0) = BAD | end(61) = BAD | end(1) = 30 | end(60) = 1
            pass(5) = 5 | end(4) = BAD | end(1) = BAD | end(0) = BAD | end(-1) = BAD | end(MIN) = BAD | end(MAX) = BAD
            end(61) = BAD | count(6) = 60 | end(6) = 60 | end(5) = 6 | pass(1) = FULL | end(4) = BAD | end(6) = 5
            pass(1) = 6
            """);
        edges.hold("Promise 13", "A TRACK is LIKELY (1), or not (0): what it was.",
            "likely(1, 0) = 0 | likely(1, 1) = 0 | likely(1, 1) = 1 | likely(1, 0) = 1 | likely(1, 0) = 0 | "
                + "likely(2, 0) = 0 | likely(0, 0) = 1");
        edges.hold("Promise 13", "BAD.", """
            likely(-1, 1) = BAD | likely(3, 1) = BAD | likely(MIN, 1) = BAD | likely(MAX, 1) = BAD | likely(1, -1) = BAD
            likely(1, 2) = BAD | likely(1, MIN) = BAD | likely(1, MAX) = BAD | likely(0, 2) = BAD | likely(0, -1) = BAD
            likely(0, 0) = 1 | likely(1, 0) = 0 | likely(2, 0) = 0
            """);
        edges.hold("Promise 14", "THE TRUE TRACK: which was.", "truth(0) = 0 | truth(2) = 0 | truth(2) = 2 | "
            + "truth(1) = 2 | truth(0) = 1");
        edges.hold("Promise 14", "BAD.", "truth(-1) = BAD | truth(3) = BAD | truth(MIN) = BAD | truth(MAX) = BAD | "
            + "truth(2) = 0 | truth(3) = BAD | truth(-1) = BAD | truth(0) = 2");
    }

    private void newsRefused() throws ReflectiveOperationException {
        edges.hold("Promise 15", "NEWS: their number.", "news(0, 0, 1, 0, 0) = 0 | news(2, 60, 61, 99, 99) = 1 | "
            + "news(0, 0, 1, 100, 0) = BAD | news(1, 0, 61, 0, 0) = 2 | count(5) = 3");
        edges.hold("Promise 15", "BAD: TRACK, HOURS (NOW .. 60; to 61 at most, above from), WATER, WIND", """
            news(-1, 5, 6, 0, 0) = BAD | news(3, 5, 6, 0, 0) = BAD | news(MIN, 5, 6, 0, 0) = BAD
            news(MAX, 5, 6, 0, 0) = BAD | news(0, -1, 6, 0, 0) = BAD | news(0, 61, 61, 0, 0) = BAD
            news(0, 61, 62, 0, 0) = BAD | news(0, MIN, 6, 0, 0) = BAD | news(0, MAX, MIN, 0, 0) = BAD
            news(0, MAX, 61, 0, 0) = BAD | news(0, 60, 60, 0, 0) = BAD | news(0, 60, 62, 0, 0) = BAD
            news(0, 5, 62, 0, 0) = BAD | news(0, 5, 5, 0, 0) = BAD | news(0, 5, 4, 0, 0) = BAD
            news(0, 0, 0, 0, 0) = BAD | news(0, 5, MAX, 0, 0) = BAD | news(0, 5, MIN, 0, 0) = BAD
            news(0, 5, 6, -1, 0) = BAD | news(0, 5, 6, 100, 0) = BAD | news(0, 5, 6, MIN, 0) = BAD
            news(0, 5, 6, MAX, 0) = BAD | news(0, 5, 6, 0, -1) = BAD | news(0, 5, 6, 0, 100) = BAD
            news(0, 5, 6, 0, MIN) = BAD | news(0, 5, 6, 0, MAX) = BAD | count(5) = 0 | news(0, 0, 1, 0, 0) = 0
            news(2, 60, 61, 99, 99) = 1 | news(1, 0, 61, 99, 0) = 2 | news(1, 59, 60, 0, 99) = 3
            """, """
            pass(1) = 1 | news(0, 0, 61, 0, 0) = BAD | news(0, 0, 1, 0, 0) = BAD | news(0, 1, 2, 0, 0) = 0
            pass(29) = 30
            # beyond END, too
            news(0, 29, 61, 0, 0) = BAD | news(0, 30, 31, 0, 0) = 1 | news(0, 60, 61, 0, 0) = 2
            """);
        edges.hold("Promise 15", "; FULL.", Edges.rows(0, 38, "news(0, 0, 61, 1, 1) = @") + """
            news(0, 0, 61, 100, 1) = BAD | news(2, 0, 61, 2, 2) = 39 | news(0, 0, 61, 3, 3) = FULL
            news(1, 0, 61, 3, 3) = FULL | news(3, 0, 61, 3, 3) = BAD | news(0, 0, 0, 3, 3) = BAD
            news(0, 0, 61, 100, 3) = BAD | news(0, 0, 61, 3, 100) = BAD | count(5) = 40 | known(2, 60, 0, 0) = 2
            known(0, 60, 0, 0) = 1
            pass(1) = 1 | news(0, 1, 61, 3, 3) = FULL | news(0, 0, 61, 3, 3) = BAD
            """);
    }

    private void knownRefused() throws ReflectiveOperationException {
        edges.hold("Promise 16",
            "WATER (what 0), WIND (1) of a TRACK in an HOUR (0 .. 60), as KNOWN in another one (0 .. NOW).", """
            news(2, 0, 61, 8, 9) = 0 | known(2, 0, 0, 0) = 8 | known(2, 0, 0, 1) = 9 | known(2, 60, 0, 0) = 8
            known(2, 60, 0, 1) = 9 | known(2, 0, 1, 0) = BAD
            pass(1) = 1 | known(2, 0, 1, 0) = 8 | known(2, 0, 2, 0) = BAD | end(60) = 30
            pass(59) = 60 | known(2, 60, 60, 1) = 9 | known(2, 0, 60, 0) = 8 | known(2, 60, 61, 1) = BAD
            known(2, 60, 0, 1) = 9
            """);
        edges.hold("Promise 16", "BAD.", """
            pass(3) = 3 | known(-1, 0, 0, 0) = BAD | known(3, 0, 0, 0) = BAD | known(MIN, 0, 0, 0) = BAD
            known(MAX, 0, 0, 0) = BAD | known(0, -1, 0, 0) = BAD | known(0, 61, 0, 0) = BAD | known(0, MIN, 0, 0) = BAD
            known(0, MAX, 0, 0) = BAD | known(0, 0, -1, 0) = BAD | known(0, 0, 4, 0) = BAD | known(0, 0, MIN, 0) = BAD
            known(0, 0, MAX, 0) = BAD | known(0, 0, 0, -1) = BAD | known(0, 0, 0, 2) = BAD | known(0, 0, 0, MIN) = BAD
            known(0, 0, 0, MAX) = BAD | known(2, 60, 3, 1) = 0 | known(0, 0, 0, 0) = 0
            """);
    }
}
