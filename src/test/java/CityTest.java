/** Promises 1 to 11: a new object, zones, shelters, roads, ways, turning, buses, and what is told of them. */
final class CityTest {
    private static final int NONE = FloodCity.NONE, BAD = FloodCity.BAD, STATE = FloodCity.STATE, FULL = FloodCity.FULL;
    private static final Due due = new Due("CityTest");

    public static void main(String[] args) {
        aNewObject();
        zones();
        shelters();
        roads();
        ways();
        turning();
        buses();
        zoneTold();
        shelterTold();
        roadTold();
        canTakeOfKinds();
        shutByWater();
        busTold();
        due.end();
    }

    private static void aNewObject() {
        FloodCity c = new FloodCity();
        int[] first = {0, 0, 0, 0, 0, 0, 30, 0, 0, 0, 0, 0, 0, 1, 0, 0};
        for (int what = 0; what < first.length; what++) {
            due.is("new: count(" + what + ")", c.count(what), first[what]);
        }
        due.is("new: inWater", c.inWater(), 0);
        due.is("new: zoneTold", c.zoneTold(0, 0), BAD);
        due.is("new: likely 0", c.likely(0, 1), 1);
        due.is("new: likely 1", c.likely(1, 1), 0);
        due.is("new: likely 2", c.likely(2, 1), 0);
        due.is("new: truth", c.truth(0), 0);
    }

    private static void zones() {
        FloodCity c = new FloodCity();
        due.is("zone height -1", c.zone(-1, 0, 0), BAD);
        due.is("zone height 100", c.zone(100, 0, 0), BAD);
        due.is("zone home -1", c.zone(0, -1, 0), BAD);
        due.is("zone home 100000", c.zone(0, 100000, 0), BAD);
        due.is("zone ill -1", c.zone(0, 0, -1), BAD);
        due.is("zone ill 1000", c.zone(0, 0, 1000), BAD);
        due.is("zones after refusals", c.count(1), 0);
        due.is("zone least", c.zone(0, 0, 0), 0);
        due.is("zone most", c.zone(99, 99999, 999), 1);
        for (int i = 2; i < 6; i++) {
            due.is("zone " + i, c.zone(i, i, i), i);
        }
        due.is("zone 7th", c.zone(1, 1, 1), FULL);
        due.is("zone 7th, BAD first", c.zone(100, 1, 1), BAD);
        due.is("zones", c.count(1), 6);
        c.pass(1);
        due.is("zone late and full", c.zone(1, 1, 1), STATE);
        due.is("zone late, BAD first", c.zone(1, 1, 1000), BAD);
        FloodCity late = new FloodCity();
        late.pass(1);
        due.is("zone late", late.zone(1, 1, 1), STATE);
    }

    private static void shelters() {
        FloodCity c = new FloodCity();
        due.is("shelter -1", c.shelter(-1), BAD);
        due.is("shelter 100000", c.shelter(100000), BAD);
        due.is("shelter 0", c.shelter(0), 0);
        due.is("shelter 99999", c.shelter(99999), 1);
        c.pass(1);
        due.is("shelter late", c.shelter(5), 2);
        due.is("shelter full", c.shelter(5), FULL);
        due.is("shelter full, BAD first", c.shelter(-5), BAD);
        due.is("shelters", c.count(2), 3);
    }

    private static void roads() {
        FloodCity c = new FloodCity();
        due.is("road without zones", c.road(0, 0, 20, 5), BAD);
        c.zone(0, 0, 0);
        c.zone(0, 0, 0);
        c.shelter(1);
        int[][] bad = {{-1, 0, 20, 5}, {6, 0, 20, 5}, {0, -1, 20, 5}, {0, 2, 20, 5}, {0, 0, 0, 5}, {0, 0, 2, 5},
            {0, 0, 5, 5}, {0, 0, 6, 5}, {0, 0, 9, 5}, {0, 0, 11, 5}, {0, 0, 13, 5}, {0, 0, 19, 5}, {0, 0, 21, 5},
            {0, 0, -1, 5}, {0, 0, 20, 0}, {0, 0, 20, 10000}, {0, 20, 0, 5}, {0, 10, 0, 5}};
        for (int[] b : bad) {
            due.is("road(" + b[0] + ", " + b[1] + ", " + b[2] + ", " + b[3] + ")", c.road(b[0], b[1], b[2], b[3]), BAD);
        }
        due.is("road to a zone", c.road(0, 0, 1, 1), 0);
        due.is("road to a shelter", c.road(5, 1, 10, 9999), 1);
        due.is("road out", c.road(4, 1, 20, 7), 2);
        for (int i = 3; i < 14; i++) {
            due.is("road " + i, c.road(i % 6, 0, 20, i), i);
        }
        due.is("road 15th", c.road(0, 0, 20, 5), FULL);
        due.is("road 15th, BAD first", c.road(0, 0, 0, 5), BAD);
        due.is("roads", c.count(3), 14);
    }

    private static void ways() {
        FloodCity c = new FloodCity();
        due.is("use none", c.use(0), BAD);
        c.zone(0, 0, 0);
        c.zone(0, 0, 0);
        c.road(0, 0, 20, 1);
        c.road(0, 0, 1, 1);
        c.road(0, 1, 20, 1);
        due.is("use -1", c.use(-1), BAD);
        due.is("use 3", c.use(3), BAD);
        due.is("use first", c.use(1), NONE);
        due.is("use same", c.use(1), 1);
        due.is("use other", c.use(0), 1);
        due.is("use of another zone", c.use(2), NONE);
        due.is("way of 0", c.zoneTold(0, 5), 0);
        due.is("way of 1", c.zoneTold(1, 5), 2);
    }

    private static void turning() {
        FloodCity c = new FloodCity();
        due.is("turn none", c.turn(0), BAD);
        c.zone(0, 0, 0);
        c.road(0, 0, 20, 8);
        c.road(0, 0, 20, 8);
        due.is("turn -1", c.turn(-1), BAD);
        due.is("turn at 0", c.turn(0), 0);
        due.is("turn again", c.turn(0), STATE);
        c.pass(5);
        due.is("turn at 5", c.turn(1), 5);
        due.is("turn again later", c.turn(1), STATE);
        due.is("turned 0", c.roadTold(0, 4), 0);
        due.is("turned 1", c.roadTold(1, 4), 5);
    }

    private static void buses() {
        FloodCity c = new FloodCity();
        due.is("bus without a zone", c.bus(0, 0, 1, 1), BAD);
        c.zone(0, 0, 0);
        due.is("bus without a shelter", c.bus(0, 0, 1, 1), BAD);
        c.shelter(5);
        int[][] bad = {{-1, 0, 1, 1}, {1, 0, 1, 1}, {0, -1, 1, 1}, {0, 1, 1, 1}, {0, 0, 0, 1}, {0, 0, 100, 1},
            {0, 0, 1, 0}, {0, 0, 1, 10}};
        for (int[] b : bad) {
            due.is("bus(" + b[0] + ", " + b[1] + ", " + b[2] + ", " + b[3] + ")", c.bus(b[0], b[1], b[2], b[3]), BAD);
        }
        due.is("bus least", c.bus(0, 0, 1, 1), 0);
        due.is("bus most", c.bus(0, 0, 99, 9), 1);
        c.pass(1);
        due.is("bus late", c.bus(0, 0, 5, 5), 2);
        due.is("bus late is free", c.busTold(2, 0), 1);
        due.is("bus 4th", c.bus(0, 0, 5, 5), 3);
        due.is("bus 5th", c.bus(0, 0, 5, 5), FULL);
        due.is("bus 5th, BAD first", c.bus(0, 0, 5, 0), BAD);
        due.is("buses", c.count(4), 4);
    }

    private static void zoneTold() {
        FloodCity c = new FloodCity();
        c.zone(7, 100, 9);
        int[] first = {7, 100, 0, 9, NONE, NONE, 0};
        for (int what = 0; what < first.length; what++) {
            due.is("zoneTold(0, " + what + ")", c.zoneTold(0, what), first[what]);
        }
        due.is("zoneTold(0, -1)", c.zoneTold(0, -1), BAD);
        due.is("zoneTold(0, 7)", c.zoneTold(0, 7), BAD);
        due.is("zoneTold(1, 0)", c.zoneTold(1, 0), BAD);
        due.is("zoneTold(-1, 0)", c.zoneTold(-1, 0), BAD);
        c.news(0, 0, 1, 7, 0);
        due.is("water as high as the zone", c.zoneTold(0, 6), 0);
        c.news(0, 0, 1, 8, 0);
        due.is("water above the zone", c.zoneTold(0, 6), 1);
        c.truth(1);
        due.is("wet by the true track alone", c.zoneTold(0, 6), 0);
        c.pass(3);
        c.call(0);
        c.pass(1);
        due.is("hour of the call", c.zoneTold(0, 4), 3);
        due.is("at home", c.zoneTold(0, 1), 80);
        due.is("on the way", c.zoneTold(0, 2), 20);
    }

    private static void shelterTold() {
        FloodCity c = new FloodCity();
        c.zone(9, 100, 30);
        c.shelter(25);
        due.is("room at first", c.shelterTold(0, 0), 25);
        due.is("in it at first", c.shelterTold(0, 1), 0);
        due.is("shelterTold(0, 2)", c.shelterTold(0, 2), BAD);
        due.is("shelterTold(0, -1)", c.shelterTold(0, -1), BAD);
        due.is("shelterTold(1, 0)", c.shelterTold(1, 0), BAD);
        due.is("shelterTold(-1, 0)", c.shelterTold(-1, 0), BAD);
        c.bus(0, 0, 10, 2);
        c.road(0, 0, 10, 9);
        c.use(0);
        c.call(0);
        c.pass(1);
        due.is("room less what is kept", c.shelterTold(0, 0), 6);
        due.is("those by road are in", c.shelterTold(0, 1), 9);
        c.pass(1);
        due.is("a road fills it up", c.shelterTold(0, 0), 0);
        due.is("those by bus are in, too", c.shelterTold(0, 1), 25);
    }

    private static void roadTold() {
        FloodCity c = new FloodCity();
        c.zone(0, 0, 0);
        c.zone(0, 0, 0);
        c.shelter(3);
        c.road(3, 1, 10, 44);
        int[] first = {3, 1, 10, 44, NONE, 44};
        for (int what = 0; what < first.length; what++) {
            due.is("roadTold(0, " + what + ")", c.roadTold(0, what), first[what]);
        }
        due.is("roadTold(0, 6)", c.roadTold(0, 6), BAD);
        due.is("roadTold(0, -1)", c.roadTold(0, -1), BAD);
        due.is("roadTold(1, 0)", c.roadTold(1, 0), BAD);
        due.is("roadTold(-1, 0)", c.roadTold(-1, 0), BAD);
    }

    /** What each kind takes: by wind 0, 20, 21, 40, 41; then turned, in that hour, the next one, the one behind that. */
    private static void canTakeOfKinds() {
        int[][] want = {
            {11, 11, 11, 11, 11, 0, 11, 11},
            {11, 11, 11, 11, 11, 0, 22, 22},
            {11, 11, 11, 11, 0, 0, 11, 11},
            {11, 11, 11, 11, 11, 0, 0, 22},
            {11, 11, 5, 5, 0, 0, 11, 11},
            {3, 3, 3, 3, 3, 0, 3, 3}};
        int[] winds = {0, 20, 21, 40, 41};
        for (int kind = 0; kind < 6; kind++) {
            FloodCity c = new FloodCity();
            c.zone(0, 0, 0);
            c.road(kind, 0, 20, 11);
            for (int w = 0; w < winds.length; w++) {
                c.news(0, 0, 61, 0, winds[w]);
                due.is("kind " + kind + " wind " + winds[w], c.roadTold(0, 5), want[kind][w]);
            }
            c.news(0, 0, 61, 0, 0);
            c.pass(2);
            c.turn(0);
            for (int h = 0; h < 3; h++) {
                due.is("kind " + kind + " turned " + h + " hours ago", c.roadTold(0, 5), want[kind][5 + h]);
                c.pass(1);
            }
            c.news(0, 5, 61, 0, 30);
            due.is("kind " + kind + " turned, wind 30", c.roadTold(0, 5), kind == 4 ? 5 : want[kind][7]);
            c.news(0, 5, 61, 0, 99);
            due.is("kind " + kind + " turned, wind 99", c.roadTold(0, 5), kind == 2 || kind == 4 ? 0 : want[kind][7]);
        }
    }

    private static void shutByWater() {
        FloodCity c = new FloodCity();
        c.zone(5, 0, 0);
        c.zone(9, 0, 0);
        c.shelter(3);
        c.road(0, 0, 1, 10);
        c.road(0, 1, 0, 10);
        c.road(0, 1, 10, 10);
        c.road(0, 0, 20, 10);
        int[] waters = {5, 6, 9, 10};
        int[][] want = {{10, 10, 10, 10}, {0, 0, 10, 0}, {0, 0, 10, 0}, {0, 0, 0, 0}};
        for (int w = 0; w < waters.length; w++) {
            c.news(0, 0, 9, waters[w], 0);
            for (int road = 0; road < 4; road++) {
                due.is("road " + road + " water " + waters[w], c.roadTold(road, 5), want[w][road]);
            }
        }
        c.truth(2);
        due.is("not shut by another track", c.roadTold(0, 5), 10);
    }

    private static void busTold() {
        FloodCity c = new FloodCity();
        due.is("busTold of none", c.busTold(0, 0), BAD);
        c.zone(9, 0, 15);
        c.shelter(100);
        c.bus(0, 0, 10, 3);
        due.is("free", c.busTold(0, 0), 1);
        due.is("in it", c.busTold(0, 1), 0);
        due.is("over", c.busTold(0, 2), NONE);
        due.is("busTold(0, 3)", c.busTold(0, 3), BAD);
        due.is("busTold(0, -1)", c.busTold(0, -1), BAD);
        due.is("busTold(1, 0)", c.busTold(1, 0), BAD);
        due.is("busTold(-1, 0)", c.busTold(-1, 0), BAD);
        c.pass(1);
        due.is("not free", c.busTold(0, 0), 0);
        due.is("ten in it", c.busTold(0, 1), 10);
        due.is("over at 3", c.busTold(0, 2), 3);
        c.pass(1);
        due.is("still not free", c.busTold(0, 0), 0);
        c.pass(1);
        due.is("free at 3", c.busTold(0, 0), 1);
        due.is("nobody in it", c.busTold(0, 1), 0);
        due.is("free, so NONE", c.busTold(0, 2), NONE);
        due.is("they are in the shelter", c.shelterTold(0, 1), 10);
        c.pass(1);
        due.is("the rest", c.busTold(0, 1), 5);
        due.is("over at 6", c.busTold(0, 2), 6);
    }
}
