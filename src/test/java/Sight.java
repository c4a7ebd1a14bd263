import java.util.ArrayList;
import java.util.List;

/**
 * All that can be seen of a city, from several sides: what calls answer that look at it, change its settings or let
 * hours go by. Each side takes a city of its own, since some of them change it.
 */
final class Sight {
    /** How many calls an object is used for, and how many of them a side takes that can't do with fewer. */
    static final int MOST_CALLS = 512, MOST_TO_SEE = 220;

    /** What is told; tracks; settings and some hours; each sheet; the hours to the last one on each track. */
    static final int SIDES = 10, WITHOUT_SHEETS = 3, WITHOUT_HOURS = 7;

    private final FloodCity c;
    private final int calls;
    private final List<Long> seen = new ArrayList<>();

    private Sight(FloodCity city, int callsSoFar) {
        c = city;
        calls = callsSoFar;
    }

    /** What is seen from one side of a city that has had so many calls; bestCall is left out for best() itself. */
    static List<Long> of(FloodCity city, int side, int callsSoFar, boolean isBest) {
        Sight sight = new Sight(city, callsSoFar);
        switch (side) {
            case 0: sight.told(isBest); break;
            case 1: sight.tracks(); break;
            case 2: sight.settings(); break;
            case 3: case 4: case 5: case 6: sight.sheet(side - WITHOUT_SHEETS); break;
            default: sight.hours(side - WITHOUT_HOURS); break;
        }
        return sight.seen;
    }

    private void see(long answer) {
        seen.add(answer);
    }

    private void told(boolean isBest) {
        for (int what = 0; what < 16; what++) {
            see(c.count(what));
        }
        see(c.inWater());
        for (int z = c.count(1) - 1; z >= 0; z--) {
            for (int what = 0; what < 7; what++) {
                see(c.zoneTold(z, what));
            }
            see(c.good(z));
            see(c.says(z, 0));
            see(c.says(z, 1));
            see(isBest ? 0 : c.bestCall(z));
        }
        for (int shelter = c.count(2) - 1; shelter >= 0; shelter--) {
            see(c.shelterTold(shelter, 0));
            see(c.shelterTold(shelter, 1));
        }
        for (int road = c.count(3) - 1; road >= 0; road--) {
            for (int what = 0; what < 6; what++) {
                see(c.roadTold(road, what));
            }
        }
        for (int bus = c.count(4) - 1; bus >= 0; bus--) {
            for (int what = 0; what < 3; what++) {
                see(c.busTold(bus, what));
            }
        }
    }

    /** As known now; only as many hours as there is room for. */
    private void tracks() {
        int now = c.count(0);
        int step = 1 + 6 * 61 / Math.max(1, MOST_CALLS - calls - 1);
        for (int track = 0; track < 3; track++) {
            for (int hour = 60; hour >= 0; hour -= step) {
                see(c.known(track, hour, now, 0));
                see(c.known(track, hour, now, 1));
            }
        }
    }

    /** Settings are told by the calls that change them, texts by what they say; then some hours go by. */
    private void settings() {
        see(c.text());
        int rule = c.count(15);
        for (int text = c.count(13) - 1; text >= 0; text--) {
            see(c.force(text));
            see(c.says(0, 0));
            see(c.says(0, 1));
        }
        c.force(rule);
        long none = 0;
        for (int z = c.count(1); z > 0; z--) {
            none = none * 100 + 99;
        }
        for (int track = 0; track < 3; track++) {
            see(c.foresee(track, 0));
            see(c.foresee(track, none));
            int was = c.likely(track, 0);
            see(was);
            c.likely(track, was);
        }
        see(c.truth(0));
        for (int turn = 1; turn <= 5; turn++) {
            for (int z = c.count(1) - 1; z >= 0; z--) {
                see(c.zoneTold(z, 1));
                see(c.zoneTold(z, 2));
            }
            for (int what = 7; what < 13; what++) {
                see(c.count(what));
            }
            see(c.pass(turn));
            c.end(60);
        }
    }

    /**
     * A sheet's sort, what its first items are, as news that another sheet brings, and how many it has: that comes last,
     * since it is told by a copy that is refused, which must not hide what a refusal changed.
     */
    private void sheet(int sheet) {
        int its = -1;
        for (int sort = 0; sort < 3 && its < 0; sort++) {
            its = c.newsRow(0, sheet, sort, 0, 0) == 0 ? sort : -1;
        }
        see(its);
        int other = (sheet + 1) % 4;
        int now = c.count(0);
        c.sheet(other, its, 4);
        c.cell(other, 0, now);
        c.cell(other, 1, 61);
        for (int i = 0; i < 16 && c.copy(sheet, i, other, 2, 1) == 1; i++) {
            see(c.newsRow(0, other, its, 0, 1));
            see(c.known(0, 60, now, 0));
        }
        int size = 0;
        while (size <= 40 && c.copy(sheet, 0, sheet, 0, size + 1) >= 0) {
            size++;
        }
        see(size);
    }

    /** What happens to the last hour if a track is the true one. */
    private void hours(int track) {
        c.truth(track);
        c.end(60);
        int most = c.count(0) + (MOST_CALLS - calls - 4) / 6;
        for (int hour = c.count(0); hour <= 60 && hour < most; hour++) {
            see(c.says(0, 0));
            see(c.inWater());
            see(c.count(8));
            see(c.count(10));
            see(c.count(11));
            see(c.pass(1));
        }
    }
}
