/** The edges of ==== 6 and of promises 25 to 28. */
final class AheadEdges {
    /** Two zones of 400 that are called by text 0, each with a road of 60 out. */
    private static final String TWO = """
        zone(3, 400, 0) = 0 | zone(3, 400, 0) = 1 | road(0, 0, 20, 60) = 0 | road(0, 1, 20, 60) = 1 | use(0) = NONE
        use(1) = NONE
        """;

    private final Edges edges;

    AheadEdges(Edges edges) {
        this.edges = edges;
    }

    void hold() throws ReflectiveOperationException {
        foreseen();
        bestOfAllWays();
        leastOfTheGreatest();
        likeWays();
        allIsAsBefore();
        foresee();
        digits();
        best();
        bestCall();
        count();
    }

    private void foreseen() throws ReflectiveOperationException {
        edges.hold("==== 6", "FORESEEN: for a TRACK (taken for THE TRUE one, as it is told now)", TWO + """
            # its water and its wind, not those of the true track; news that come later change it
            news(1, 30, 31, 9, 0) = 0 | foresee(0, 0) = 0 | foresee(1, 9999) = 800 | foresee(2, 9999) = 0
            news(1, 0, 30, 0, 61) = 1 | foresee(1, 0) = 800 | news(0, 0, 61, 99, 99) = 2 | foresee(1, 0) = 800
            foresee(0, 0) = 800 | news(1, 0, 29, 0, 60) = 3 | foresee(1, 0) = 0 | news(1, 0, 61, 3, 0) = 4
            foresee(1, 9999) = 0 | truth(1) = 0 | foresee(0, 9999) = 800
            """);
        edges.hold("==== 6", "and told HOURS for CALLS of ZONES that have none", TWO + """
            end(3) = 30 | news(0, 3, 4, 9, 0) = 0
            # of 400: 80, 96, 89 set out, 60 an hour get out
            foresee(0, 9900) = 620 | foresee(0, 9901) = 680 | foresee(0, 9902) = 740 | foresee(0, 9903) = 800
            foresee(0, 9999) = 800 | foresee(0, 0) = 440 | foresee(0, 1) = 500 | foresee(0, 100) = 500
            foresee(0, 299) = 740 | foresee(0, 303) = 800 | call(0) = 0 | foresee(0, 9999) = 620
            foresee(0, 9903) = 620 | foresee(0, 0) = 440
            pass(1) = 1 | foresee(0, 9999) = 620 | foresee(0, 0) = 500 | foresee(0, 100) = 560 | foresee(0, 200) = 620
            """);
        edges.hold("==== 6", "what would be at END: how many are IN WATER then.", TWO + """
            # water ahead of END, at END, behind it; what dries up
            news(0, 5, 10, 9, 0) = 0 | end(10) = 30 | foresee(0, 9999) = 0 | end(9) = 10 | foresee(0, 9999) = 800
            end(5) = 9 | foresee(0, 9999) = 800 | end(4) = 5 | foresee(0, 9999) = 0
            """, TWO + """
            # at END itself nothing goes by
            news(0, 2, 3, 9, 0) = 0 | end(2) = 30
            pass(2) = 2 | foresee(0, 0) = 800 | foresee(0, 9999) = 800 | inWater() = 800 | end(60) = 2
            foresee(0, 9999) = 0 | news(0, 60, 61, 4, 0) = 1 | foresee(0, 9999) = 800 | foresee(0, 0) = 0
            """, """
            # all of a zone: at home, on the way, ill; wet is above its height; buses and shelters go on
            zone(5, 100, 20) = 0 | zone(6, 50, 4) = 1 | shelter(8) = 0 | bus(0, 0, 5, 2) = 0 | end(4) = 30
            news(0, 4, 5, 6, 0) = 0 | foresee(0, 9999) = 112 | foresee(0, 9900) = 112 | foresee(0, 9904) = 112
            news(0, 4, 5, 5, 0) = 1 | foresee(0, 9999) = 0 | news(0, 4, 5, 7, 0) = 2 | foresee(0, 9999) = 166
            foresee(0, 0) = 166
            """, """
            # a bus that is under way now is free when its trip is over, and has its room
            zone(5, 0, 20) = 0 | shelter(9) = 0 | bus(0, 0, 4, 3) = 0 | end(7) = 30 | news(0, 7, 8, 6, 0) = 0
            foresee(0, 99) = 11
            pass(1) = 1 | foresee(0, 99) = 11
            pass(1) = 2 | foresee(0, 99) = 11 | end(5) = 7 | news(0, 5, 6, 6, 0) = 1 | foresee(0, 99) = 12 | end(3) = 5
            news(0, 3, 4, 6, 0) = 2 | foresee(0, 99) = 16 | end(7) = 3
            pass(1) = 3 | foresee(0, 99) = 12 | news(0, 3, 4, 0, 0) = 3 | foresee(0, 99) = 11
            pass(4) = 7 | inWater() = 11
            """, """
            # a road that was turned goes through its empty hours
            zone(3, 400, 0) = 0 | road(3, 0, 20, 60) = 0 | use(0) = NONE | turn(0) = 0 | end(3) = 30
            news(0, 3, 4, 9, 0) = 0 | foresee(0, 0) = 280 | foresee(0, 1) = 280 | foresee(0, 99) = 400
            pass(1) = 1 | foresee(0, 0) = 280
            pass(1) = 2 | foresee(0, 0) = 320
            """, """
            # ahead of a call that is told, since is 0: buses go by it
            zone(3, 0, 9) = 0 | shelter(99) = 0 | bus(0, 0, 1, 1) = 0 | text "heed 0; stop since < 0;" = 1
            text "heed 0; stop 0 < since;" = 2 | force(1) = 0 | end(6) = 30 | news(0, 6, 7, 9, 0) = 0
            foresee(0, 4) = 3 | foresee(0, 99) = 3 | force(2) = 1 | foresee(0, 4) = 4 | foresee(0, 0) = 8
            foresee(0, 99) = 3 | foresee(0, 6) = 3
            """);
    }

    private void bestOfAllWays() throws ReflectiveOperationException {
        // A zone of 100 that heeds its call in that very hour alone, and then but in a wind of 8.
        String one = """
            zone(3, 100, 0) = 0 | text "heed 100 * (since = 0) * (wind = 8); stop 0;" = 1 | force(1) = 0
            road(0, 0, 20, 999) = 0 | use(0) = NONE | news(0, 20, 61, 9, 0) = 0
            """;
        String held = "BEST CALLS: of all ways to call each of those ZONES (4 at most, told as bits) NOW, 4 or 8 "
            + "HOURS later (as far as END), or not at all:";
        for (int hour = 0; hour <= 12; hour++) {
            boolean isWay = hour == 0 || hour == 4 || hour == 8;
            String told = "news(0, " + hour + ", " + (hour + 1) + ", 0, 8) = 1 | foresee(0, " + hour + ") = 0";
            edges.hold("==== 6", held, one + told + (isWay ? " | best(1) = 0 | bestCall(0) = " + hour
                : " | best(1) = 100 | bestCall(0) = NONE"));
        }
        edges.hold("==== 6", held, one + """
            # from NOW on
            news(0, 9, 10, 0, 8) = 1 | best(1) = 100 | bestCall(0) = NONE
            pass(1) = 1 | best(1) = 0 | bestCall(0) = 8
            pass(4) = 5 | best(1) = 0 | bestCall(0) = 4
            pass(1) = 6 | best(1) = 100 | bestCall(0) = NONE
            pass(3) = 9 | best(1) = 0 | bestCall(0) = 0
            """, one + """
            # 8 hours later as far as END, 4 as far as END
            news(0, 8, 9, 0, 8) = 1 | news(0, 9, 10, 9, 0) = 2 | end(9) = 30 | best(1) = 0 | bestCall(0) = 8
            news(0, 5, 61, 9, 0) = 3 | news(0, 4, 5, 0, 8) = 4 | end(8) = 9 | best(1) = 0 | bestCall(0) = 4 | end(7) = 8
            best(1) = 0 | bestCall(0) = 4 | end(5) = 7 | best(1) = 0 | bestCall(0) = 4 | news(0, 0, 61, 9, 8) = 5
            end(4) = 5 | best(1) = 100 | bestCall(0) = NONE | end(1) = 4 | best(1) = 100 | bestCall(0) = NONE
            """, TWO + "end(1) = 30 | news(0, 1, 2, 9, 0) = 0 | best(3) = 680 | bestCall(0) = 0 | bestCall(1) = 0 | "
                + "pass(1) = 1 | best(3) = 800 | bestCall(0) = NONE | bestCall(1) = NONE");
        edges.hold("==== 6", "(4 at most, told as bits)", Edges.rows(0, 5,
            "zone(3, 1@, 0) = @ | road(0, @, 20, 99) = @ | use(@) = NONE") + """
            text "heed 100; stop 0;" = 1 | force(1) = 0 | news(0, 30, 31, 9, 0) = 0 | best(63) = NO | best(31) = NO
            best(62) = NO | best(59) = NO | best(15) = 29 | best(60) = 21 | bestCall(0) = NONE | bestCall(1) = NONE
            bestCall(2) = 0 | bestCall(3) = 0 | bestCall(4) = 0 | bestCall(5) = 0 | best(51) = 25 | bestCall(2) = NONE
            bestCall(0) = 0 | bestCall(4) = 0 | best(32) = 60 | bestCall(5) = 0 | bestCall(4) = NONE | best(1) = 65
            bestCall(0) = 0 | best(0) = 75 | bestCall(0) = NONE
            """);
    }

    private void leastOfTheGreatest() throws ReflectiveOperationException {
        edges.hold("==== 6",
            "the one with the least of: the greatest number IN WATER at END of all LIKELY TRACKS (0, if none is);",
            TWO + """
            # the earlier the water, the worse: 12 hours out, 6, 3
            end(12) = 30 | news(0, 12, 61, 9, 0) = 0 | news(1, 6, 61, 9, 0) = 1 | news(2, 3, 61, 9, 0) = 2
            foresee(0, 0) = 0 | foresee(1, 0) = 80 | foresee(2, 0) = 440 | best(3) = 0 | likely(1, 1) = 0 | best(3) = 80
            likely(2, 1) = 0 | best(3) = 440 | likely(0, 0) = 1 | best(3) = 440 | likely(1, 0) = 1 | best(3) = 440
            likely(2, 0) = 1 | best(3) = 0 | bestCall(0) = NONE | bestCall(1) = NONE | truth(2) = 0 | best(3) = 0
            likely(1, 1) = 0 | best(3) = 80 | bestCall(0) = 0
            """, """
            # one that is in water counts: a second call for one
            zone(3, 9, 0) = 0 | zone(3, 1, 0) = 1 | text "heed 100; stop 0;" = 1 | force(1) = 0 | road(0, 0, 20, 9) = 0
            road(0, 1, 20, 9) = 1 | use(0) = NONE | use(1) = NONE | news(0, 30, 31, 9, 0) = 0 | best(3) = 0
            bestCall(0) = 0 | bestCall(1) = 0 | best(1) = 1 | bestCall(0) = 0 | best(2) = 9 | bestCall(0) = NONE
            bestCall(1) = 0
            """);
    }

    private void likeWays() throws ReflectiveOperationException {
        edges.hold("==== 6", "of like ones the fewest CALLS;", TWO + """
            # nobody is in water whatever is called; then a zone that has no way out
            best(3) = 0 | bestCall(0) = NONE | bestCall(1) = NONE
            """, """
            zone(3, 100, 0) = 0 | zone(3, 0, 0) = 1 | zone(3, 100, 0) = 2 | zone(99, 50, 0) = 3
            road(0, 2, 20, 999) = 0 | road(0, 3, 20, 999) = 1 | use(0) = NONE | use(1) = NONE
            news(0, 20, 61, 9, 0) = 0 | best(15) = 100 | bestCall(0) = NONE | bestCall(1) = NONE | bestCall(2) = 0
            bestCall(3) = NONE
            """, """
            # one call of the last zone is liked more than two of the first ones
            zone(3, 50, 0) = 0 | zone(3, 50, 0) = 1 | zone(3, 100, 0) = 2 | shelter(100) = 0
            text "heed 100; stop 0;" = 1 | force(1) = 0 | road(0, 0, 10, 999) = 0 | road(0, 1, 10, 999) = 1
            road(0, 2, 10, 999) = 2 | use(0) = NONE | use(1) = NONE | use(2) = NONE | news(0, 20, 61, 9, 0) = 0
            best(7) = 100 | bestCall(0) = NONE | bestCall(1) = NONE | bestCall(2) = 0 | best(3) = 100 | bestCall(0) = 0
            bestCall(1) = 0 | bestCall(2) = NONE
            """);
        String shared = """
            zone(3, 100, 0) = 0 | zone(3, 100, 0) = 1 | shelter(100) = 0 | road(0, 0, 10, 999) = 0
            road(0, 1, 10, 999) = 1 | use(0) = NONE | use(1) = NONE | news(0, 20, 61, 9, 0) = 0
            """;
        edges.hold("==== 6", "of like ones ZONE by ZONE the earlier CALL first (none last).", shared + """
            # either zone fills the shelter, at any hour: zone 0, now
            text "heed 100; stop 0;" = 1 | force(1) = 0 | best(3) = 100 | bestCall(0) = 0 | bestCall(1) = NONE
            best(2) = 100 | bestCall(0) = NONE | bestCall(1) = 0
            """, shared + """
            # zone 0 heeds in hour 8 alone, zone 1 in hour 0: a call of zone 0, though late, is ahead of none
            text "heed 100 * (since = 0) * ((zone = 0) * (wind = 8) + (zone = 1) * (wind = 9)); stop 0;" = 1
            force(1) = 0 | news(0, 0, 1, 0, 9) = 1 | news(0, 8, 9, 0, 8) = 2 | best(3) = 100 | bestCall(0) = 8
            bestCall(1) = NONE | best(2) = 100 | bestCall(1) = 0
            """, """
            # on each track another hour is heeded: hours 0, 4, 8 each once, zone by zone
            zone(3, 100, 0) = 0 | zone(3, 100, 0) = 1 | zone(3, 100, 0) = 2 | road(0, 0, 20, 999) = 0
            road(0, 1, 20, 999) = 1 | road(0, 2, 20, 999) = 2 | use(0) = NONE | use(1) = NONE | use(2) = NONE
            text "heed 100 * (since = 0) * (wind = 8); stop 0;" = 1 | force(1) = 0 | likely(1, 1) = 0 | likely(2, 1) = 0
            news(0, 20, 61, 9, 0) = 0 | news(1, 20, 61, 9, 0) = 1 | news(2, 20, 61, 9, 0) = 2 | news(0, 0, 1, 0, 8) = 3
            news(1, 4, 5, 0, 8) = 4 | news(2, 8, 9, 0, 8) = 5 | best(7) = 200 | bestCall(0) = 0 | bestCall(1) = 4
            bestCall(2) = 8 | best(3) = 300 | bestCall(0) = NONE | bestCall(1) = NONE | likely(2, 0) = 1 | best(3) = 200
            bestCall(0) = 0 | bestCall(1) = 4 | best(6) = 200 | bestCall(0) = NONE | bestCall(1) = 0 | bestCall(2) = 4
            """, """
            # four zones of which two calls are enough: the first two, now
            zone(3, 50, 0) = 0 | zone(3, 50, 0) = 1 | zone(3, 50, 0) = 2 | zone(3, 50, 0) = 3 | shelter(100) = 0
            text "heed 100; stop 0;" = 1 | force(1) = 0 | road(0, 0, 10, 999) = 0 | road(0, 1, 10, 999) = 1
            road(0, 2, 10, 999) = 2 | road(0, 3, 10, 999) = 3 | use(0) = NONE | use(1) = NONE | use(2) = NONE
            use(3) = NONE | news(0, 20, 61, 9, 0) = 0 | best(15) = 100 | bestCall(0) = 0 | bestCall(1) = 0
            bestCall(2) = NONE | bestCall(3) = NONE
            """);
    }

    private void allIsAsBefore() throws ReflectiveOperationException {
        // That nothing is changed is looked at behind every foresee and best of these tests.
        edges.hold("==== 6", "All is as before then.", TWO + """
            shelter(77) = 0 | bus(0, 0, 9, 2) = 0 | news(0, 9, 61, 9, 0) = 0 | call(1) = 0
            pass(3) = 3 | turn(0) = 3 | best(1) = 100 | foresee(1, 4) = 0 | count(0) = 3 | zoneTold(0, 4) = NONE
            zoneTold(1, 4) = 0 | zoneTold(0, 1) = 400 | truth(0) = 0 | best(1) = 100 | foresee(0, 9900) = 100
            foresee(0, 0) = 100
            """);
    }

    private void foresee() throws ReflectiveOperationException {
        edges.hold("Promise 25",
            "FORESEEN; calls: two digits to the base 100 for each ZONE, ZONE 0's the lowest: 99 for none, else "
                + "so many HOURS from NOW on",
            Edges.rows(0, 5, "zone(3, 1@, 0) = @ | road(0, @, 20, 99) = @ | use(@) = NONE") + """
            text "heed 100; stop 0;" = 1 | force(1) = 0 | news(0, 30, 31, 9, 0) = 0 | foresee(0, 999999999999) = 75
            foresee(0, 0) = 0 | foresee(0, 999999999900) = 65 | foresee(0, 999999990099) = 64
            foresee(0, 99999999) = 46 | foresee(0, 9999999999) = 60 | foresee(0, 309999999999) = 75
            foresee(0, 299999999999) = 60 | foresee(0, 999999999929) = 65 | foresee(0, 999999999930) = 75
            pass(10) = 10 | foresee(0, 999999999919) = 65 | foresee(0, 999999999920) = 75
            """);
        edges.hold("Promise 25", "(of ZONES that are CALLED they don't matter).", TWO + """
            end(3) = 30 | news(0, 3, 4, 9, 0) = 0 | call(0) = 0 | foresee(0, 9900) = 620 | foresee(0, 9904) = 620
            foresee(0, 9998) = 620 | foresee(0, 9999) = 620 | foresee(0, 98) = 440 | foresee(0, 9800) = NO
            foresee(0, 498) = NO | foresee(0, 398) = 620 | call(1) = 0 | foresee(0, 9898) = 440 | foresee(0, 0) = 440
            foresee(0, 10000) = NO
            """);
    }

    private void digits() throws ReflectiveOperationException {
        edges.hold("Promise 25", "NO: TRACK, digits (beyond END, digits of no ZONE that aren't 0).", TWO + """
            foresee(-1, 0) = NO | foresee(3, 0) = NO | foresee(MIN, 0) = NO | foresee(MAX, 0) = NO | foresee(2, 0) = 0
            end(12) = 30 | foresee(0, 12) = 0 | foresee(0, 13) = NO | foresee(0, 1200) = 0 | foresee(0, 1300) = NO
            foresee(0, 98) = NO | foresee(0, 9900) = 0 | foresee(0, 9800) = NO | foresee(0, 9999) = 0
            foresee(0, 10000) = NO | foresee(0, 19999) = NO | foresee(0, 990000) = NO | foresee(0, 10000000000) = NO
            foresee(0, 4294967296) = NO | foresee(0, -1) = NO | foresee(0, -100) = NO | foresee(0, LMIN) = NO
            foresee(0, LMAX) = NO
            pass(2) = 2 | foresee(0, 10) = 0 | foresee(0, 11) = NO | foresee(0, 1000) = 0 | foresee(0, 1100) = NO
            pass(10) = 12 | foresee(0, 0) = 0 | foresee(0, 1) = NO | foresee(0, 9999) = 0 | foresee(0, 100) = NO
            """, """
            foresee(0, 0) = 0 | foresee(2, 0) = 0 | foresee(0, 1) = NO | foresee(0, 99) = NO | foresee(0, 100) = NO
            foresee(3, 0) = NO | end(60) = 30 | zone(3, 7, 0) = 0 | foresee(0, 60) = 0 | foresee(0, 61) = NO
            foresee(0, 99) = 0 | foresee(0, 100) = NO
            """, Edges.rows(0, 5, "zone(3, 1, 0) = @") + """
            foresee(0, 999999999999) = 0 | foresee(0, 1000000000000) = NO | foresee(0, 1999999999999) = NO
            foresee(0, 300000000000) = 0 | foresee(0, 310000000000) = NO
            """);
    }

    private void best() throws ReflectiveOperationException {
        edges.hold("Promise 26", "BEST CALLS for ZONES (bits): the greatest number IN WATER.", TWO + """
            best(0) = 0 | news(0, 20, 61, 9, 0) = 0 | best(0) = 800 | bestCall(0) = NONE | best(1) = 400 | best(2) = 400
            best(3) = 0 | likely(1, 1) = 0 | best(3) = 0 | news(1, 0, 61, 9, 0) = 1 | best(3) = 800 | bestCall(0) = NONE
            best(0) = 800
            """, "best(0) = 0", Edges.rows(0, 5, "zone(0, 99999, 999) = @")
                + "news(0, 0, 61, 1, 0) = 0 | best(15) = 605988 | bestCall(0) = NONE | best(60) = 605988");
        edges.hold("Promise 26", "NO: bits, one that is CALLED, more than 4.",
            "best(1) = NO | best(32) = NO | best(-1) = NO | best(0) = 0",
            "zone(3, 1, 0) = 0 | best(1) = 0 | best(2) = NO | best(3) = NO | best(MIN) = NO",
            Edges.rows(0, 5, "zone(3, 1, 0) = @") + """
            best(-1) = NO | best(64) = NO | best(65) = NO | best(MIN) = NO | best(MAX) = NO | best(128) = NO
            best(63) = NO | best(31) = NO | best(47) = NO | best(15) = 0 | best(60) = 0 | best(32) = 0 | call(3) = 0
            best(8) = NO | best(9) = NO | best(15) = NO | best(63) = NO | best(7) = 0 | best(55) = NO | best(51) = 0
            call(0) = 0 | best(1) = NO | best(3) = NO | best(6) = 0 | call(5) = 0 | best(32) = NO | best(22) = 0
            best(0) = 0
            pass(2) = 2 | best(8) = NO | best(22) = 0
            """);
    }

    private void bestCall() throws ReflectiveOperationException {
        edges.hold("Promise 27", "The CALL of a ZONE by the latest best() that wasn't refused, as HOURS from then on.",
            TWO + """
            news(0, 20, 61, 9, 0) = 0 | best(3) = 0 | bestCall(0) = 0 | bestCall(1) = 0 | best(4) = NO | bestCall(0) = 0
            bestCall(1) = 0 | best(-1) = NO | bestCall(1) = 0
            pass(3) = 3 | bestCall(0) = 0 | call(1) = 3 | bestCall(1) = 0 | best(3) = NO | bestCall(0) = 0
            bestCall(1) = 0 | foresee(0, 9999) = 400 | bestCall(0) = 0 | best(1) = 0 | bestCall(0) = 0
            bestCall(1) = NONE | best(0) = 400 | bestCall(0) = NONE | bestCall(1) = NONE
            """, """
            # 8 hours from hour 2 on is told as 8
            zone(3, 100, 0) = 0 | text "heed 100 * (since = 0) * (wind = 8); stop 0;" = 1 | force(1) = 0
            road(0, 0, 20, 999) = 0 | use(0) = NONE | news(0, 20, 61, 9, 0) = 0 | news(0, 10, 11, 0, 8) = 1
            pass(2) = 2 | best(1) = 0 | bestCall(0) = 8
            pass(4) = 6 | bestCall(0) = 8 | best(1) = 0 | bestCall(0) = 4
            """);
        edges.hold("Promise 27", "NONE: none, not one of it.", "bestCall(0) = NONE | bestCall(-1) = NONE | "
            + "bestCall(6) = NONE", TWO + """
            bestCall(0) = NONE | bestCall(1) = NONE | news(0, 20, 61, 9, 0) = 0 | bestCall(0) = NONE | best(2) = 400
            bestCall(0) = NONE | bestCall(1) = 0 | bestCall(2) = NONE | bestCall(-1) = NONE | bestCall(5) = NONE
            bestCall(6) = NONE | bestCall(MIN) = NONE | bestCall(MAX) = NONE | news(0, 0, 61, 0, 0) = 1 | best(3) = 0
            bestCall(1) = NONE
            """);
    }

    private void count() throws ReflectiveOperationException {
        edges.hold("Promise 28",
            "How many: 0 NOW, 1 ZONES, 2 SHELTERS, 3 ROADS, 4 BUSES, 5 NEWS, 6 END, 7 AT HOME, 8 ON THE WAY, 9 "
                + "ILL, 10 IN BUSES, 11 in SHELTERS, 12 OUT, "
                + "13 TEXTS, 14 bytes of THE TAPE, 15 THE RULE.", """
            zone(9, 100, 20) = 0 | zone(9, 200, 30) = 1 | shelter(1000) = 0 | shelter(0) = 1 | shelter(7) = 2
            road(0, 0, 10, 5) = 0 | road(0, 1, 20, 7) = 1 | road(0, 1, 0, 7) = 2 | road(0, 0, 11, 5) = 3 | use(0) = NONE
            use(1) = NONE | bus(0, 0, 4, 3) = 0 | bus(1, 2, 6, 1) = 1 | news(0, 5, 6, 7, 8) = 0 | end(40) = 30
            call(0) = 0 | call(1) = 0 | text "heed 1; stop 0;" = 1 | text "heed 1; stop 0;" = 2
            pass(1) = 1 | force(2) = 0 | feed(3, 0) = 3 | count(0) = 1 | count(1) = 2 | count(2) = 3 | count(3) = 4
            count(4) = 2 | count(5) = 1 | count(6) = 40 | count(7) = 240 | count(8) = 48 | count(9) = 40 | count(10) = 4
            count(11) = 11 | count(12) = 7 | count(13) = 3 | count(14) = 3 | count(15) = 2
            """, Edges.rows(0, 5, "zone(99, 99999, 999) = @") + "count(7) = 599994 | count(9) = 5994 | "
                + "count(8) = 0 | count(1) = 6");
        edges.hold("Promise 28", "BAD.", "count(-1) = BAD | count(16) = BAD | count(MIN) = BAD | count(MAX) = BAD | "
            + "count(0) = 0 | count(15) = 0");
    }
}
