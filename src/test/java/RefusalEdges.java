/**
 * ==== 1, "they change nothing": every refusal of every call, in cities in which everything is there to be changed;
 * calls that only tell change nothing either.
 */
final class RefusalEdges {
    /** Hour 3 of 50: some of all that there is, with room for more. */
    private static final String CITY = """
        zone(3, 50000, 999) = 0 | zone(9, 40000, 998) = 1 | zone(20, 30000, 997) = 2 | zone(40, 20000, 996) = 3
        zone(60, 10000, 995) = 4 | shelter(60000) = 0 | shelter(700) = 1 | road(0, 0, 1, 700) = 0
        road(1, 1, 10, 800) = 1 | road(2, 2, 20, 900) = 2 | road(3, 3, 20, 1000) = 3 | road(4, 4, 11, 50) = 4
        road(5, 0, 20, 1200) = 5 | road(1, 2, 10, 60) = 6 | use(5) = NONE | use(1) = NONE | use(2) = NONE
        use(3) = NONE | use(4) = NONE | bus(0, 0, 30, 2) = 0 | bus(2, 0, 40, 9) = 1 | bus(1, 1, 50, 4) = 2
        text "heed wind; stop 0;" = 1 | text "heed 20 + height - since; stop 90 < wind;" = 2 | force(1) = 0
        news(1, 0, 61, 2, 15) = 0 | news(0, 0, 61, 1, 11) = 1 | news(2, 5, 61, 10, 50) = 2 | news(1, 20, 40, 25, 35) = 3
        news(0, 30, 61, 45, 22) = 4 | news(1, 45, 61, 70, 12) = 5 | truth(1) = 0 | likely(2, 1) = 0 | end(50) = 30
        turn(3) = 0 | call(0) = 0 | call(1) = 0
        pass(2) = 2 | call(4) = 2 | turn(4) = 2
        pass(1) = 3 | best(12) | sheet(0, 0, 9) = 1 | sheet(1, 1, 6) = 1 | sheet(2, 2, 5) = 1 | cell(0, 0, 70) = 1
        cell(0, 8, 80) = 1 | cell(1, 0, 5) = 1 | cell(1, 1, 9) = 1 | cell(1, 2, 33) = 1 | cell(2, 4, 44) = 1
        feed "heed 31; stop 41;" = 17
        """;

    /** Hour 0: as many zones, shelters, roads, buses and texts as can be, and a full tape. */
    private static final String FULL_CITY = Edges.rows(0, 5, "zone(@, 20000, 90@) = @")
        + Edges.rows(0, 2, "shelter(3000@) = @") + Edges.rows(0, 12, "road(1, 0, 10, 3@) = @")
        + "road(1, 1, 20, 77) = 13 | use(3) = NONE | use(13) = NONE\n" + Edges.rows(0, 3, "bus(@, 1, 2@, 3) = @")
        + Edges.rows(0, 6, "news(1, @, 61, @, 2@) = @") + Edges.rows(1, 5, "text \"heed wind + @;stop @ = 0;\" = @") + """
        truth(1) = 0 | force(3) = 0 | likely(1, 1) = 0 | best(3) | call(2) = 0 | call(1) = 0 | turn(13) = 0
        sheet(0, 2, 4) = 1 | sheet(1, 1, 3) = 1 | cell(0, 1, 61) = 1
        """ + Edges.rows(1, 20, "feed(8, 32)");

    /** Hour 3: as many news as can be. */
    private static final String TOLD_CITY = CITY + Edges.rows(6, 39, "news(2, @, 61, @, 1) = @");

    private static final String WORDS = "Refusals, the first that the call's words name; they change nothing";

    private final Edges edges;

    RefusalEdges(Edges edges) {
        this.edges = edges;
    }

    void hold() throws ReflectiveOperationException {
        edges.holdUnchanged("==== 1", WORDS, CITY, """
            zone(0, 0, 0) = STATE | zone(-1, 0, 0) = BAD | zone(100, 0, 0) = BAD | zone(0, -1, 0) = BAD
            zone(0, 100000, 0) = BAD | zone(0, 0, -1) = BAD | zone(0, 0, 1000) = BAD | shelter(-1) = BAD
            shelter(100000) = BAD | road(-1, 0, 20, 1) = BAD | road(6, 0, 20, 1) = BAD | road(0, -1, 20, 1) = BAD
            road(0, 5, 20, 1) = BAD | road(0, 0, 0, 1) = BAD | road(0, 0, 5, 1) = BAD | road(0, 0, 12, 1) = BAD
            road(0, 0, 21, 1) = BAD | road(0, 0, 20, 0) = BAD | road(0, 0, 20, 10000) = BAD | use(-1) = BAD
            use(7) = BAD | turn(-1) = BAD | turn(7) = BAD | turn(3) = STATE | turn(4) = STATE | bus(-1, 0, 1, 1) = BAD
            bus(5, 0, 1, 1) = BAD | bus(0, -1, 1, 1) = BAD | bus(0, 2, 1, 1) = BAD | bus(0, 0, 0, 1) = BAD
            bus(0, 0, 100, 1) = BAD | bus(0, 0, 1, 0) = BAD | bus(0, 0, 1, 10) = BAD
            """);
        edges.holdUnchanged("==== 1", WORDS, CITY, """
            zoneTold(-1, 0) = BAD | zoneTold(5, 0) = BAD | zoneTold(0, -1) = BAD | zoneTold(0, 7) = BAD
            shelterTold(-1, 0) = BAD | shelterTold(2, 0) = BAD | shelterTold(0, -1) = BAD | shelterTold(0, 2) = BAD
            roadTold(-1, 0) = BAD | roadTold(7, 0) = BAD | roadTold(0, -1) = BAD | roadTold(0, 6) = BAD
            busTold(-1, 0) = BAD | busTold(3, 0) = BAD | busTold(0, -1) = BAD | busTold(0, 3) = BAD | end(0) = BAD
            end(61) = BAD | end(2) = BAD | likely(-1, 0) = BAD | likely(3, 0) = BAD | likely(0, -1) = BAD
            likely(0, 2) = BAD | truth(-1) = BAD | truth(3) = BAD | news(-1, 3, 4, 0, 0) = BAD
            news(3, 3, 4, 0, 0) = BAD | news(0, 2, 4, 0, 0) = BAD | news(0, 61, 62, 0, 0) = BAD
            news(0, 3, 3, 0, 0) = BAD | news(0, 3, 62, 0, 0) = BAD | news(0, 3, 61, -1, 0) = BAD
            news(0, 3, 61, 100, 0) = BAD | news(0, 3, 61, 0, -1) = BAD | news(0, 3, 61, 0, 100) = BAD
            known(-1, 0, 0, 0) = BAD | known(3, 0, 0, 0) = BAD | known(0, -1, 0, 0) = BAD | known(0, 61, 0, 0) = BAD
            known(0, 0, -1, 0) = BAD | known(0, 0, 4, 0) = BAD | known(0, 0, 0, -1) = BAD | known(0, 0, 0, 2) = BAD
            """);
        edges.holdUnchanged("==== 1", WORDS, CITY, """
            feed(0, 32) = BAD | feed(9, 32) = BAD | force(-1) = BAD | force(3) = BAD | says(-1, 0) = NO
            says(5, 0) = NO | says(0, -1) = NO | says(0, 2) = NO | call(-1) = BAD | call(5) = BAD | call(0) = STATE
            call(4) = STATE | good(-1) = BAD | good(5) = BAD | pass(0) = BAD | pass(-1) = BAD | pass(61) = BAD
            pass(48) = FULL | pass(60) = FULL | foresee(-1, 0) = NO | foresee(3, 0) = NO | foresee(0, 480000) = NO
            foresee(0, 48000000) = NO | foresee(0, 10000000000) = NO | foresee(0, -1) = NO | best(-1) = NO
            best(32) = NO | best(1) = NO | best(14) = NO | best(31) = NO | best(16) = NO | count(-1) = BAD
            count(16) = BAD
            """);
        edges.holdUnchanged("==== 1", WORDS, CITY, """
            sheet(-1, 0, 1) = BAD | sheet(4, 0, 1) = BAD | sheet(0, -2, 1) = BAD | sheet(0, 3, 1) = BAD
            sheet(0, 0, 41) = BAD | sheet(0, 0, -1) = -14 | cell(-1, 0, 0) = BAD | cell(4, 0, 0) = BAD
            cell(3, 0, 0) = -11 | cell(0, -1, 5) = -12 | cell(0, 9, 5) = -12 | copy(-1, 0, 1, 0, 1) = BAD
            copy(0, 0, 4, 0, 1) = BAD | copy(3, 0, 0, 0, 1) = -11 | copy(0, 0, 3, 0, 1) = -11
            copy(0, 0, 1, 0, 1) = -13 | copy(0, 0, 0, 1, 9) = -12 | copy(0, 8, 0, 0, 2) = -12
            copy(0, 0, 0, 0, -1) = -12 | copy(0, -1, 0, 0, 2) = -12 | copy(0, 0, 0, -1, 2) = -12
            copy(0, 0, 0, 8, 2) = -12 | newsRow(-1, 1, 1, 0, 1) = BAD | newsRow(3, 1, 1, 0, 1) = BAD
            newsRow(0, -1, 1, 0, 1) = BAD | newsRow(0, 4, 1, 0, 1) = BAD | newsRow(0, 1, 3, 0, 1) = BAD
            newsRow(0, 1, -1, 0, 1) = BAD | newsRow(0, 1, 1, 0, 11) = BAD | newsRow(0, 1, 1, 0, -1) = BAD
            newsRow(0, 1, 0, 0, 1) = -13 | newsRow(0, 3, 0, 0, 1) = -11 | newsRow(0, 1, 1, 3, 1) = -12
            newsRow(0, 1, 1, -1, 1) = -12 | taken(0, -1) = BAD | taken(0, 6) = BAD | taken(7, 0) = -11
            taken(-1, 0) = -11 | taken(0, 1) = -13
            """);
        fullAndEnded();
        telling();
    }

    private void fullAndEnded() throws ReflectiveOperationException {
        edges.holdUnchanged("==== 1", WORDS, FULL_CITY, """
            zone(0, 0, 0) = FULL | zone(100, 0, 0) = BAD | shelter(0) = FULL | shelter(-1) = BAD | road(0, 0, 20, 1) = FULL
            road(0, 0, 0, 1) = BAD | bus(0, 0, 1, 1) = FULL | bus(0, 0, 0, 1) = BAD | feed(1, 64) = FULL | feed(8, 64) = FULL
            feed(9, 64) = BAD | text() = FULL | force(6) = BAD | use(14) = BAD | turn(13) = STATE | call(6) = BAD
            call(1) = STATE | best(63) = NO | best(2) = NO | pass(31) = FULL
            """);
        edges.holdUnchanged("==== 1", WORDS, TOLD_CITY, """
            news(0, 3, 61, 1, 1) = FULL | news(1, 60, 61, 99, 99) = FULL | news(0, 3, 3, 1, 1) = BAD | news(0, 2, 61, 1, 1) = BAD
            newsRow(1, 1, 1, 0, 1) = 0
            """);
        edges.holdUnchanged("==== 1", WORDS, CITY + "end(3) = 50", """
            call(2) = STATE | call(3) = STATE | call(0) = STATE | pass(1) = FULL | pass(60) = FULL
            foresee(0, 10000) = NO | foresee(1, 1000000) = NO | end(2) = BAD | zone(0, 0, 0) = STATE
            """);
    }

    private void telling() throws ReflectiveOperationException {
        edges.holdUnchanged("==== 6", "All is as before then.", CITY, """
            foresee(0, 0) | foresee(1, 0) | foresee(2, 0) | foresee(1, 99999999) | foresee(1, 9999479999)
            foresee(0, 9903049999)
            """);
        edges.holdUnchanged("==== 6", "All is as before then.", FULL_CITY,
            "foresee(0, 0) | foresee(1, 0) | foresee(1, 999999999999) | foresee(2, 3030303030)");
        edges.holdUnchanged("Promise 22", "Whether a CALL is GOOD (1, 0). NONE: the ZONE wasn't CALLED", CITY,
            "good(0) | good(1) | good(2) = NONE | good(4) | inWater() | bestCall(2) | bestCall(9) = NONE");
        edges.holdUnchanged("Promise 20", "What a part (0 heed, 1 stop) of THE RULE comes to", CITY,
            "says(0, 0) = 15 | says(4, 1) = 0 | known(1, 60, 3, 0) = 70 | known(1, 60, 0, 0) = 70 | "
                + "known(0, 3, 2, 1) = 11");
        edges.holdUnchanged("Promise 8", "Of a ZONE:", CITY, Edges.rows(0, 6, "zoneTold(0, @)")
            + Edges.rows(0, 5, "roadTold(3, @)")
            + Edges.rows(0, 1, "shelterTold(0, @)") + Edges.rows(0, 2, "busTold(1, @)")
            + Edges.rows(0, 15, "count(@)") + "taken(0, 0) = 700");
        edges.holdUnchanged("Promise 31", "n numbers of a SHEET, from item i on", CITY,
            "copy(0, 0, 0, 9, 0) = 0 | copy(1, 2, 1, 2, 4) = 4 | newsRow(0, 1, 1, 0, 0) = 0 | "
                + "newsRow(1, 2, 2, 0, 1) = 0 | sheet(3, -1, 5) = 1");
    }
}
