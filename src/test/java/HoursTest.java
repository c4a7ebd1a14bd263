/** Promises 21 to 24 and the hours of ==== 5: calls, whether they are good, hours that go by, in water. */
final class HoursTest {
    private static final int NONE = FloodCity.NONE, BAD = FloodCity.BAD, STATE = FloodCity.STATE, FULL = FloodCity.FULL;
    private static final Due due = new Due("HoursTest");

    public static void main(String[] args) {
        calls();
        goodByWhatWasKnown();
        goodWithinTwelveHours();
        passing();
        heeding();
        heedBounds();
        crowdAheadOfHeeding();
        allAtOnce();
        sheltersByRoadNumbers();
        busesByNumbers();
        allShelters();
        busesByTheRule();
        busStopBehindTheRoads();
        wetZonesStand();
        inWater();
        due.end();
    }

    private static void calls() {
        FloodCity c = new FloodCity();
        due.is("call none", c.call(0), BAD);
        c.zone(0, 0, 0);
        c.zone(0, 0, 0);
        due.is("call -1", c.call(-1), BAD);
        due.is("call 2", c.call(2), BAD);
        due.is("call 1", c.call(1), 0);
        due.is("call again", c.call(1), STATE);
        c.end(4);
        c.pass(3);
        due.is("call ahead of the end", c.call(0), 3);
        due.is("hour of the call", c.zoneTold(0, 4), 3);
        FloodCity late = new FloodCity();
        late.zone(0, 0, 0);
        late.end(2);
        late.pass(2);
        due.is("call at the end", late.call(0), STATE);
        due.is("no call", late.zoneTold(0, 4), NONE);
        due.is("call at the end, BAD first", late.call(1), BAD);
    }

    private static void goodByWhatWasKnown() {
        FloodCity c = new FloodCity();
        due.is("good of none", c.good(0), BAD);
        c.zone(5, 0, 0);
        due.is("good without a call", c.good(0), NONE);
        due.is("good -1", c.good(-1), BAD);
        due.is("good 1", c.good(1), BAD);
        c.pass(1);
        c.news(1, 4, 5, 6, 0);
        c.call(0);
        due.is("not good: track 1 isn't likely", c.good(0), 0);
        c.likely(1, 1);
        due.is("good: it is likely now", c.good(0), 1);
        c.news(1, 4, 5, 5, 0);
        due.is("not good: mended in the same hour", c.good(0), 0);
        c.pass(1);
        c.news(1, 4, 5, 9, 0);
        due.is("not good: told later", c.good(0), 0);

        FloodCity d = new FloodCity();
        d.zone(5, 0, 0);
        d.news(0, 8, 9, 6, 0);
        d.call(0);
        d.pass(1);
        d.news(0, 8, 9, 0, 0);
        due.is("good by what was known, though mended", d.good(0), 1);
        d.likely(0, 0);
        due.is("not good: none is likely now", d.good(0), 0);
        d.likely(0, 1);
        d.truth(2);
        due.is("good whatever is true", d.good(0), 1);
    }

    private static void goodWithinTwelveHours() {
        for (int hour = 2; hour <= 17; hour++) {
            FloodCity c = new FloodCity();
            c.zone(5, 0, 0);
            c.news(0, hour, hour + 1, 6, 0);
            c.pass(3);
            c.call(0);
            due.is("good by water of " + hour, c.good(0), hour >= 3 && hour <= 15 ? 1 : 0);
            c.end(8);
            due.is("good by water of " + hour + ", end 8", c.good(0), hour >= 3 && hour <= 8 ? 1 : 0);
        }
    }

    private static void passing() {
        FloodCity c = new FloodCity();
        due.is("pass 0", c.pass(0), BAD);
        due.is("pass -1", c.pass(-1), BAD);
        due.is("pass 61", c.pass(61), BAD);
        due.is("pass 31", c.pass(31), FULL);
        due.is("now", c.count(0), 0);
        due.is("pass 29", c.pass(29), 29);
        due.is("pass 2", c.pass(2), FULL);
        due.is("pass 1", c.pass(1), 30);
        due.is("pass beyond", c.pass(1), FULL);
        c.end(60);
        due.is("pass to the last", c.pass(30), 60);
        FloodCity d = new FloodCity();
        d.end(60);
        due.is("pass 60", d.pass(60), 60);
        due.is("pass huge", d.pass(Integer.MAX_VALUE), BAD);
    }

    private static void heeding() {
        FloodCity c = new FloodCity();
        c.zone(9, 999, 0);
        c.zone(9, 50, 0);
        c.call(0);
        c.pass(1);
        due.is("a fifth, cut", c.zoneTold(0, 1), 800);
        due.is("on the way", c.zoneTold(0, 2), 199);
        due.is("another zone isn't called", c.zoneTold(1, 1), 50);
        c.pass(1);
        due.is("three tenths of the rest", c.zoneTold(0, 1), 560);
        c.news(0, 2, 3, 0, 61);
        c.pass(1);
        due.is("stop by wind", c.zoneTold(0, 1), 560);
        c.news(0, 3, 4, 0, 60);
        c.pass(1);
        due.is("half, since 3", c.zoneTold(0, 1), 280);
        c.news(0, 4, 5, 10, 0);
        c.pass(1);
        due.is("wet", c.zoneTold(0, 1), 280);
        c.news(1, 5, 60, 10, 99);
        c.pass(1);
        due.is("another track does nothing", c.zoneTold(0, 1), 84);
    }

    private static void heedBounds() {
        FloodCity c = new FloodCity();
        c.zone(9, 100, 0);
        Due.textOf(c, "heed -5; stop 0;");
        Due.textOf(c, "heed 101; stop 0;");
        Due.textOf(c, "heed 9999 * 9999 * 99; stop -1;");
        c.call(0);
        c.force(1);
        due.is("says is not bounded", c.says(0, 0), -5);
        c.pass(1);
        due.is("below 0 is 0", c.zoneTold(0, 1), 100);
        c.force(3);
        c.pass(1);
        due.is("stop below 0 is not 0", c.zoneTold(0, 1), 100);
        c.force(2);
        c.pass(1);
        due.is("above 100 is 100", c.zoneTold(0, 1), 0);
        due.is("all on the way", c.zoneTold(0, 2), 100);
    }

    private static void crowdAheadOfHeeding() {
        FloodCity c = new FloodCity();
        c.zone(9, 100, 0);
        Due.textOf(c, "heed 10 + crowd; stop 20 < crowd;");
        c.force(1);
        c.call(0);
        c.pass(1);
        due.is("crowd 0", c.zoneTold(0, 2), 10);
        c.pass(1);
        due.is("crowd 10: a fifth of 90", c.zoneTold(0, 2), 28);
        c.pass(1);
        due.is("crowd 28: stop", c.zoneTold(0, 2), 28);
    }

    private static void allAtOnce() {
        FloodCity c = new FloodCity();
        c.zone(9, 1000, 0);
        c.zone(9, 1000, 0);
        c.zone(9, 1000, 0);
        c.road(0, 0, 1, 100);
        c.road(0, 1, 2, 50);
        c.road(0, 2, 0, 300);
        c.road(0, 0, 20, 999);
        c.use(0);
        c.use(1);
        c.use(2);
        c.call(0);
        c.call(2);
        c.pass(1);
        due.is("200 - 100 + 200", c.zoneTold(0, 2), 300);
        due.is("100, none of them ahead in this hour", c.zoneTold(1, 2), 100);
        due.is("200 - 200", c.zoneTold(2, 2), 0);
        due.is("a road that is no way takes none", c.count(12), 0);
        c.use(3);
        c.pass(1);
        due.is("300 + 240 out, 240 come", c.zoneTold(0, 2), 240);
        due.is("out", c.count(12), 540);
        due.is("100 - 50", c.zoneTold(1, 2), 50);
        due.is("240 - 240 + 50", c.zoneTold(2, 2), 50);
    }

    private static void sheltersByRoadNumbers() {
        FloodCity c = new FloodCity();
        c.zone(9, 1000, 0);
        c.zone(9, 1000, 0);
        c.shelter(250);
        c.shelter(10);
        c.road(0, 1, 10, 500);
        c.road(0, 0, 10, 500);
        c.use(1);
        c.use(0);
        c.call(0);
        c.call(1);
        c.pass(1);
        due.is("road 0 first", c.zoneTold(1, 2), 0);
        due.is("road 1 what is left", c.zoneTold(0, 2), 150);
        due.is("room", c.shelterTold(0, 0), 0);
        due.is("in it", c.shelterTold(0, 1), 250);
        c.pass(1);
        due.is("full", c.count(11), 250);
        c.road(0, 0, 11, 500);
        c.use(2);
        c.pass(1);
        due.is("another shelter", c.shelterTold(1, 1), 10);
        due.is("all in shelters", c.count(11), 260);
    }

    private static void busesByNumbers() {
        FloodCity c = new FloodCity();
        c.zone(9, 100, 50);
        c.shelter(45);
        c.bus(0, 0, 10, 1);
        c.bus(0, 0, 20, 2);
        c.road(0, 0, 10, 5);
        c.use(0);
        c.call(0);
        c.pass(1);
        due.is("bus 0 is free after an hour", c.busTold(0, 0), 1);
        due.is("bus 1 is not", c.busTold(1, 1), 20);
        due.is("ill", c.zoneTold(0, 3), 20);
        due.is("in the shelter", c.shelterTold(0, 1), 15);
        due.is("room less what is kept", c.shelterTold(0, 0), 10);
        due.is("in buses", c.count(10), 20);
        c.pass(1);
        due.is("roads come ahead of buses", c.shelterTold(0, 0), 0);
        due.is("five by road, five by bus, twenty by bus", c.shelterTold(0, 1), 45);
        due.is("ill left", c.count(9), 15);
        c.pass(1);
        due.is("no room: free", c.busTold(1, 0), 1);
        due.is("ill left for good", c.count(9), 15);
    }

    private static void allShelters() {
        FloodCity c = new FloodCity();
        for (int s = 0; s < 3; s++) {
            c.zone(9, 1000, 100);
            c.shelter(50 + s);
            c.road(0, s, 10 + s, 30 + s);
            c.use(s);
            c.bus(s, s, 10 + s, 1);
            c.call(s);
        }
        c.pass(1);
        for (int s = 0; s < 3; s++) {
            due.is("in shelter " + s, c.shelterTold(s, 1), 40 + 2 * s);
            due.is("room of shelter " + s, c.shelterTold(s, 0), 10 - s);
        }
        c.pass(1);
        for (int s = 0; s < 3; s++) {
            due.is("shelter " + s + " is full", c.shelterTold(s, 0), 0);
            due.is("shelter " + s + " has all", c.shelterTold(s, 1), 50 + s);
        }
    }

    private static void busesByTheRule() {
        FloodCity c = new FloodCity();
        c.zone(9, 0, 90);
        c.zone(9, 0, 90);
        c.shelter(999);
        c.bus(0, 0, 10, 1);
        c.bus(1, 0, 10, 1);
        Due.textOf(c, "heed 0; stop zone;");
        Due.textOf(c, "heed 0; stop since;");
        c.force(1);
        c.pass(1);
        due.is("stop is 0 for zone 0", c.zoneTold(0, 3), 80);
        due.is("stop is 1 for zone 1", c.zoneTold(1, 3), 90);
        c.force(2);
        c.call(0);
        c.pass(1);
        due.is("since 0 in the hour of the call", c.zoneTold(0, 3), 70);
        due.is("since 0 without a call", c.zoneTold(1, 3), 80);
        c.pass(1);
        due.is("since 1", c.zoneTold(0, 3), 70);
        due.is("since 0 still", c.zoneTold(1, 3), 70);
        c.news(0, 3, 4, 10, 0);
        c.pass(1);
        due.is("no bus while it is wet", c.zoneTold(1, 3), 70);
    }

    /** A bus goes by the state behind the roads: left and crowd as they are then. */
    private static void busStopBehindTheRoads() {
        FloodCity c = new FloodCity();
        c.zone(9, 100, 9);
        c.shelter(99);
        c.bus(0, 0, 1, 1);
        Due.textOf(c, "heed 50; stop left < 60;");
        c.force(1);
        c.call(0);
        c.pass(1);
        due.is("folk set out", c.zoneTold(0, 1), 50);
        due.is("then the bus is stopped", c.zoneTold(0, 3), 9);
    }

    private static void wetZonesStand() {
        FloodCity c = new FloodCity();
        c.zone(2, 100, 9);
        c.zone(8, 100, 9);
        c.shelter(99);
        c.road(0, 0, 10, 30);
        c.road(0, 1, 0, 30);
        c.use(0);
        c.use(1);
        c.bus(0, 0, 2, 1);
        c.bus(1, 0, 2, 1);
        c.call(0);
        c.call(1);
        c.news(0, 1, 2, 3, 0);
        c.pass(1);
        due.is("dry: 20 go, 20 come", c.zoneTold(0, 2), 20);
        c.pass(1);
        due.is("wet: nobody goes or comes", c.zoneTold(0, 2), 20);
        due.is("wet: nobody sets out", c.zoneTold(0, 1), 80);
        due.is("wet: no bus", c.zoneTold(0, 3), 7);
        due.is("the other one waits", c.zoneTold(1, 2), 24);
        due.is("the other one's bus goes", c.zoneTold(1, 3), 5);
        c.pass(1);
        due.is("dry again: 20 + 32 - 30 + 30", c.zoneTold(0, 2), 20 + 32 - 30 + 30);
    }

    private static void inWater() {
        FloodCity c = new FloodCity();
        c.zone(3, 100, 7);
        c.zone(5, 1000, 70);
        due.is("dry", c.inWater(), 0);
        c.call(0);
        c.pass(1);
        c.news(0, 1, 9, 3, 0);
        due.is("not above", c.inWater(), 0);
        c.news(0, 1, 9, 4, 0);
        due.is("one of them", c.inWater(), 107);
        c.news(0, 1, 9, 6, 0);
        due.is("both", c.inWater(), 1177);
        c.pass(8);
        due.is("dry again", c.inWater(), 0);
    }
}
