/** Promises 25 to 28: foreseen, best calls, counts. */
final class AheadTest {
    private static final int NONE = FloodCity.NONE, BAD = FloodCity.BAD;
    private static final long NO = FloodCity.NO;
    private static final Due due = new Due("AheadTest");

    public static void main(String[] args) {
        foreseeRefused();
        foreseeAtTheEnd();
        foreseeIsWhatComes();
        foreseeOfCalledZones();
        foreseeWaterThatGoes();
        foreseeBusesUnderWay();
        bestRefused();
        bestWithoutLikelyTracks();
        bestPrefersFewCalls();
        bestPrefersEarlyCalls();
        bestCallsLater();
        bestIsExact();
        bestOfTheWorstTrack();
        bestCallStays();
        allIsAsBefore();
        counts();
        due.end();
    }

    private static FloodCity twoZones() {
        FloodCity c = new FloodCity();
        c.zone(3, 400, 0);
        c.zone(3, 400, 0);
        c.road(0, 0, 20, 60);
        c.road(0, 1, 20, 60);
        c.use(0);
        c.use(1);
        return c;
    }

    private static void foreseeRefused() {
        FloodCity c = twoZones();
        c.end(12);
        due.is("track -1", c.foresee(-1, 0), NO);
        due.is("track 3", c.foresee(3, 0), NO);
        due.is("at the end", c.foresee(0, 12), 0);
        due.is("beyond the end", c.foresee(0, 13), NO);
        due.is("zone 1 at the end", c.foresee(0, 1200), 0);
        due.is("zone 1 beyond the end", c.foresee(0, 1300), NO);
        due.is("98 is no 99", c.foresee(0, 98), NO);
        due.is("none", c.foresee(0, 9999), 0);
        due.is("digits of no zone", c.foresee(0, 10000), NO);
        due.is("99 of no zone", c.foresee(0, 990000), NO);
        due.is("negative", c.foresee(0, -1), NO);
        due.is("most negative", c.foresee(0, Long.MIN_VALUE), NO);
        due.is("most", c.foresee(0, Long.MAX_VALUE), NO);
        c.pass(2);
        due.is("10 hours later is the end", c.foresee(0, 10), 0);
        due.is("11 hours later is beyond", c.foresee(0, 11), NO);
        c.call(0);
        due.is("of a called zone no matter", c.foresee(0, 9998), 0);
        due.is("of a called zone no matter, but of the other", c.foresee(0, 9898), NO);
        FloodCity none = new FloodCity();
        due.is("no zones", none.foresee(2, 0), 0);
        due.is("no zones, a digit", none.foresee(2, 99), NO);
    }

    private static void foreseeAtTheEnd() {
        FloodCity c = twoZones();
        c.end(3);
        c.news(1, 3, 4, 9, 0);
        c.pass(3);
        due.is("now is the end, track 0", c.foresee(0, 9999), 0);
        due.is("now is the end, track 1", c.foresee(1, 9999), 800);
        due.is("0 hours is the end", c.foresee(1, 0), 800);
        due.is("1 hour is beyond", c.foresee(1, 9901), NO);
    }

    /** Whatever is foreseen comes if the calls are made as told. */
    private static void foreseeIsWhatComes() {
        for (int delay = 0; delay <= 12; delay++) {
            FloodCity c = twoZones();
            c.news(2, 9, 61, 9, 30);
            c.truth(2);
            c.end(15);
            c.pass(1);
            long foreseen = c.foresee(2, 9900 + delay);
            for (int i = 0; i < 14; i++) {
                if (i == delay) {
                    c.call(0);
                }
                c.pass(1);
            }
            due.is("foreseen for " + delay, foreseen, c.inWater());
        }
    }

    private static void foreseeOfCalledZones() {
        FloodCity c = twoZones();
        c.news(0, 9, 61, 9, 0);
        c.end(12);
        long bothNow = c.foresee(0, 0);
        c.call(0);
        due.is("zone 0 goes by its call", c.foresee(0, 99), bothNow);
        due.is("zone 0 goes by its call, whatever is told", c.foresee(0, 50), bothNow);
        due.is("zone 1 isn't called", c.foresee(0, 9900), 400 + (bothNow / 2));
    }

    /** Ill ones, riders, room and buses under way are foreseen as they are now. */
    private static void foreseeBusesUnderWay() {
        for (int ahead = 0; ahead < 6; ahead++) {
            FloodCity c = new FloodCity();
            c.zone(3, 100, 200);
            c.zone(9, 100, 200);
            c.shelter(5);
            c.shelter(150);
            c.bus(0, 0, 3, 2);
            c.bus(0, 1, 30, 3);
            c.road(0, 0, 11, 4);
            c.use(0);
            c.call(0);
            c.news(0, 9, 61, 6, 0);
            c.end(12);
            for (int i = 0; i < ahead; i++) {
                c.pass(1);
            }
            long foreseen = c.foresee(0, 9900);
            c.pass(12 - ahead);
            due.is("foreseen in hour " + ahead, foreseen, c.inWater());
            due.is("in water", c.inWater(), 300 - 5 - 36 - 90);
        }
    }

    /** Zones that dry up and get wet again, so that hours between matter. */
    private static void foreseeWaterThatGoes() {
        FloodCity c = twoZones();
        c.news(0, 2, 5, 9, 0);
        c.news(0, 8, 9, 9, 0);
        c.news(0, 12, 13, 9, 0);
        c.end(12);
        long foreseen = c.foresee(0, 0);
        c.call(0);
        c.call(1);
        c.pass(12);
        due.is("foreseen", foreseen, c.inWater());
        due.holds("some are out", c.count(12) > 0);
        FloodCity d = twoZones();
        d.news(0, 2, 12, 9, 0);
        d.end(12);
        due.is("dry at the end", d.foresee(0, 9999), 0);
    }

    private static void bestRefused() {
        FloodCity c = new FloodCity();
        due.is("best of a zone that isn't", c.best(1), NO);
        for (int i = 0; i < 6; i++) {
            c.zone(5, 10, 0);
        }
        due.is("best -1", c.best(-1), NO);
        due.is("best 64", c.best(64), NO);
        due.is("best of five", c.best(31), NO);
        due.is("best of six", c.best(63), NO);
        due.is("best of four", c.best(60), 0);
        due.is("best of none", c.best(0), 0);
        c.call(3);
        due.is("best of a called one", c.best(8), NO);
        due.is("best of a called one among others", c.best(15), NO);
        due.is("best of others", c.best(7), 0);
        c.call(0);
        due.is("best of zone 0, called", c.best(1), NO);
        due.is("best least int", c.best(Integer.MIN_VALUE), NO);
    }

    private static void bestWithoutLikelyTracks() {
        FloodCity c = twoZones();
        c.news(0, 5, 61, 9, 0);
        due.holds("some in water", c.best(3) > 0);
        due.is("a call", c.bestCall(0), 0);
        c.likely(0, 0);
        due.is("no track is likely", c.best(3), 0);
        due.is("so no call", c.bestCall(0), NONE);
    }

    private static void bestPrefersFewCalls() {
        FloodCity c = twoZones();
        c.news(0, 25, 61, 9, 0);
        due.is("all can go", c.best(3), 0);
        due.is("now", c.bestCall(0), 0);
        due.is("now", c.bestCall(1), 0);
        FloodCity d = new FloodCity();
        d.zone(3, 100, 0);
        d.zone(3, 0, 0);
        d.zone(3, 100, 0);
        d.road(0, 2, 20, 999);
        d.use(0);
        d.news(0, 20, 61, 9, 0);
        due.is("only zone 2 can go", d.best(7), 100);
        due.is("zone 0 has no way", d.bestCall(0), NONE);
        due.is("zone 1 has nobody", d.bestCall(1), NONE);
        due.is("zone 2 is called", d.bestCall(2), 0);
    }

    /** Either zone alone fills the shelter: the one of zone 0 is called, at the earliest hour. */
    private static void bestPrefersEarlyCalls() {
        FloodCity c = new FloodCity();
        c.zone(3, 100, 0);
        c.zone(3, 100, 0);
        c.shelter(50);
        c.road(0, 0, 10, 100);
        c.road(0, 1, 10, 100);
        c.use(0);
        c.use(1);
        c.news(0, 20, 61, 9, 0);
        due.is("best", c.best(3), 150);
        due.is("zone 0", c.bestCall(0), 0);
        due.is("zone 1", c.bestCall(1), NONE);
        due.is("best of zone 1", c.best(2), 150);
        due.is("zone 0 is not one of it", c.bestCall(0), NONE);
        due.is("zone 1 then", c.bestCall(1), 0);
    }

    /** A rule by which a call is heeded in its own hour alone, and a road that opens late. */
    private static void bestCallsLater() {
        FloodCity c = new FloodCity();
        c.zone(3, 100, 0);
        Due.textOf(c, "heed 100 * (since = 0) * (wind = 8); stop 0;");
        c.force(1);
        c.road(0, 0, 20, 999);
        c.use(0);
        c.news(0, 0, 61, 0, 0);
        c.news(0, 8, 9, 0, 8);
        c.news(0, 30, 61, 9, 0);
        due.is("8 hours later", c.best(1), 0);
        due.is("at 8", c.bestCall(0), 8);
        c.news(0, 4, 5, 0, 8);
        due.is("4 hours later", c.best(1), 0);
        due.is("at 4", c.bestCall(0), 4);
        c.end(7);
        c.news(0, 7, 8, 9, 0);
        c.news(0, 4, 5, 0, 0);
        due.is("8 hours later is beyond the end", c.best(1), 100);
        due.is("so none", c.bestCall(0), NONE);
        c.end(30);
        c.pass(4);
        due.is("4 hours from now on", c.best(1), 0);
        due.is("as hours from then on", c.bestCall(0), 4);
    }

    /** One in water is more than none, so a second call is worth it. */
    private static void bestIsExact() {
        FloodCity c = new FloodCity();
        c.zone(3, 9, 0);
        c.zone(3, 1, 0);
        Due.textOf(c, "heed 100; stop 0;");
        c.force(1);
        c.road(0, 0, 20, 9);
        c.road(0, 1, 20, 9);
        c.use(0);
        c.use(1);
        c.news(0, 30, 31, 9, 0);
        due.is("with both calls nobody", c.best(3), 0);
        due.is("zone 0", c.bestCall(0), 0);
        due.is("zone 1", c.bestCall(1), 0);
        due.is("with one of them one", c.best(1), 1);
    }

    private static void bestOfTheWorstTrack() {
        FloodCity c = twoZones();
        c.end(12);
        c.news(0, 9, 61, 9, 0);
        c.news(1, 6, 61, 9, 0);
        c.news(2, 3, 61, 9, 0);
        long[] of = {c.foresee(0, 0), c.foresee(1, 0), c.foresee(2, 0)};
        due.holds("the earlier, the worse", of[0] < of[1] && of[1] < of[2]);
        due.is("track 0", c.best(3), of[0]);
        c.likely(1, 1);
        due.is("track 1", c.best(3), of[1]);
        c.likely(2, 1);
        due.is("track 2", c.best(3), of[2]);
        c.likely(2, 0);
        c.likely(1, 0);
        c.truth(2);
        due.is("the true track alone does not matter", c.best(3), of[0]);
    }

    private static void bestCallStays() {
        FloodCity c = twoZones();
        due.is("ahead of any best", c.bestCall(0), NONE);
        c.news(0, 9, 61, 9, 0);
        c.best(3);
        due.is("best", c.bestCall(0), 0);
        due.is("a refused one", c.best(4), NO);
        due.is("changes nothing", c.bestCall(0), 0);
        c.foresee(0, 9999);
        due.is("foresee changes nothing", c.bestCall(1), 0);
        c.pass(2);
        c.call(0);
        due.is("time changes nothing", c.bestCall(0), 0);
        due.is("bestCall -1", c.bestCall(-1), NONE);
        due.is("bestCall 2", c.bestCall(2), NONE);
        due.is("bestCall 99", c.bestCall(99), NONE);
        due.is("best of none", c.best(0), c.foresee(0, 9900));
        due.is("then none", c.bestCall(0), NONE);
        due.is("then none", c.bestCall(1), NONE);
    }

    private static void allIsAsBefore() {
        FloodCity c = twoZones();
        c.shelter(77);
        c.bus(0, 0, 9, 2);
        c.news(0, 9, 61, 9, 0);
        c.call(1);
        c.pass(3);
        String before = all(c);
        c.best(1);
        c.foresee(1, 4);
        due.holds("all is as before", before.equals(all(c)));
    }

    private static String all(FloodCity c) {
        StringBuilder told = new StringBuilder();
        for (int what = 0; what < 16; what++) {
            told.append(c.count(what)).append(' ');
            told.append(c.zoneTold(0, what)).append(' ').append(c.zoneTold(1, what)).append(' ');
            told.append(c.roadTold(0, what)).append(' ').append(c.roadTold(1, what)).append(' ');
            told.append(c.busTold(0, what)).append(' ').append(c.shelterTold(0, what)).append(' ');
        }
        return told.toString();
    }

    private static void counts() {
        FloodCity c = new FloodCity();
        c.zone(9, 100, 20);
        c.zone(9, 200, 30);
        c.shelter(1000);
        c.road(0, 0, 10, 5);
        c.road(0, 1, 20, 7);
        c.road(0, 1, 0, 7);
        c.use(0);
        c.use(1);
        c.bus(0, 0, 4, 3);
        c.news(0, 5, 6, 7, 8);
        c.end(40);
        c.call(0);
        c.call(1);
        c.pass(1);
        Due.textOf(c, "heed 1; stop 0;");
        c.force(1);
        c.feed(3, 0);
        int[] want = {1, 2, 1, 3, 1, 1, 40, 240, 15 + 33, 46, 4, 5, 7, 2, 3, 1};
        for (int what = 0; what < want.length; what++) {
            due.is("count(" + what + ")", c.count(what), want[what]);
        }
        due.is("count(16)", c.count(16), BAD);
        due.is("count(-1)", c.count(-1), BAD);
    }
}
