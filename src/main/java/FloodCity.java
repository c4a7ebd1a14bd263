import java.util.Arrays;

/** A coast city that is emptied ahead of a storm, hour by hour; the document's promises say what each call answers. */
public final class FloodCity {
    public static final int NONE = -1, BAD = -2, STATE = -3, FULL = -4;
    public static final long NO = -4611686018427387904L;

    private static final int NOTHING_THERE = -11, PLACE_OUTSIDE = -12, OTHER_SORT = -13, SIZE_BELOW_0 = -14;
    private static final int FAULT_BASE = -100;

    private static final int MOST_ZONES = 6, MOST_SHELTERS = 3, MOST_ROADS = 14, MOST_BUSES = 4;
    private static final int MOST_FOLK = 99999, MOST_ILL = 999, MOST_FLOW = 9999, MOST_SEATS = 99, MOST_TRIP = 9;
    private static final int TRACKS = 3, LAST_HOUR = 60, FIRST_END = 30, MOST_NEWS = 40, TOP_LEVEL = 99;
    private static final int GOOD_AHEAD = 12, ABOVE_ALL_FOLK = 1000000;
    private static final int KINDS = 6, WIDE = 1, BRIDGE = 2, MAIN = 3, SPAN = 4, PATH = 5;
    private static final int TO_SHELTER = 10, TO_OUT = 20;
    private static final int MOST_TEXTS = 6, MOST_TAPE = 160, MOST_OPEN = 5, MOST_DIGITS = 4;
    private static final int HEED = 0, STOP = 1, NAMES = 6;
    private static final int CALL_STEP = 4, CALL_STEPS = 3, MOST_SOUGHT = 4, NO_CALL_DIGITS = 99;
    private static final int SHEETS = 4, SORTS = 3, MOST_ITEMS = 40, NEWS_ITEMS = 4, MOST_NEWS_ROW = 10;
    private static final String FIRST_TEXT = "heed 20 + since * 10 ; stop 60 < wind ;";

    /** Under which kind each kind stands. */
    private static final int[] KIND_ABOVE = {NONE, 0, 0, WIDE, BRIDGE, 0};

    private final Town town;
    private final Roads roads;
    private final Buses buses;
    private final Storm storm;
    private final Book book;
    private final Folk folk;
    private final Hours hours;
    private final Forecast forecast;
    private final Sheets sheets;

    public FloodCity() {
        town = new Town();
        roads = new Roads();
        buses = new Buses();
        storm = new Storm();
        book = new Book();
        book.write(FIRST_TEXT);
        book.learn();
        folk = new Folk();
        hours = new Hours(town, roads, buses, storm, book);
        forecast = new Forecast(town, storm, folk, hours);
        sheets = new Sheets();
    }

    // ---- the city

    public int zone(int height, int home, int ill) {
        if (isOutside(height, 0, TOP_LEVEL) || isOutside(home, 0, MOST_FOLK) || isOutside(ill, 0, MOST_ILL)) {
            return BAD;
        }
        if (folk.now > 0) {
            return STATE;
        }
        if (town.zones >= MOST_ZONES) {
            return FULL;
        }
        int zone = town.zones++;
        town.height[zone] = height;
        folk.home[zone] = home;
        folk.ill[zone] = ill;
        return zone;
    }

    public int shelter(int room) {
        if (isOutside(room, 0, MOST_FOLK)) {
            return BAD;
        }
        if (town.shelters >= MOST_SHELTERS) {
            return FULL;
        }
        int shelter = town.shelters++;
        folk.room[shelter] = room;
        return shelter;
    }

    public int road(int kind, int from, int to, int flow) {
        if (isOutside(kind, 0, KINDS - 1) || isNoZone(from) || isNoGoal(to) || to == from || isOutside(flow, 1, MOST_FLOW)) {
            return BAD;
        }
        if (roads.count >= MOST_ROADS) {
            return FULL;
        }
        return roads.build(kind, from, to, flow);
    }

    public int use(int road) {
        if (isNoRoad(road)) {
            return BAD;
        }
        int zone = roads.from[road];
        int before = town.way[zone];
        town.way[zone] = road;
        return before;
    }

    public int turn(int road) {
        if (isNoRoad(road)) {
            return BAD;
        }
        if (roads.turned[road] != NONE) {
            return STATE;
        }
        roads.turned[road] = folk.now;
        return folk.now;
    }

    public int bus(int zone, int shelter, int seats, int trip) {
        if (isNoZone(zone) || isNoShelter(shelter) || isOutside(seats, 1, MOST_SEATS) || isOutside(trip, 1, MOST_TRIP)) {
            return BAD;
        }
        if (buses.count >= MOST_BUSES) {
            return FULL;
        }
        return buses.hire(zone, shelter, seats, trip);
    }

    public int zoneTold(int zone, int what) {
        if (isNoZone(zone)) {
            return BAD;
        }
        switch (what) {
            case 0: return town.height[zone];
            case 1: return folk.home[zone];
            case 2: return folk.crowd[zone];
            case 3: return folk.ill[zone];
            case 4: return folk.call[zone];
            case 5: return town.way[zone];
            case 6: return hours.isWet(zone, storm.truth, folk.now) ? 1 : 0;
            default: return BAD;
        }
    }

    public int shelterTold(int shelter, int what) {
        if (isNoShelter(shelter)) {
            return BAD;
        }
        switch (what) {
            case 0: return folk.room[shelter];
            case 1: return folk.sheltered[shelter];
            default: return BAD;
        }
    }

    public int roadTold(int road, int what) {
        if (isNoRoad(road)) {
            return BAD;
        }
        switch (what) {
            case 0: return roads.kind[road];
            case 1: return roads.from[road];
            case 2: return roads.to[road];
            case 3: return roads.flow[road];
            case 4: return roads.turned[road];
            case 5: return hours.openFlow(road, storm.truth, folk.now);
            default: return BAD;
        }
    }

    public int busTold(int bus, int what) {
        if (isOutside(bus, 0, buses.count - 1)) {
            return BAD;
        }
        switch (what) {
            case 0: return folk.tripOver[bus] == NONE ? 1 : 0;
            case 1: return folk.riders[bus];
            case 2: return folk.tripOver[bus];
            default: return BAD;
        }
    }

    // ---- the storm

    public int end(int hour) {
        if (isOutside(hour, 1, LAST_HOUR) || hour < folk.now) {
            return BAD;
        }
        int before = storm.lastHour;
        storm.lastHour = hour;
        return before;
    }

    public int likely(int track, int is) {
        if (isNoTrack(track) || isOutside(is, 0, 1)) {
            return BAD;
        }
        int before = storm.isLikely[track] ? 1 : 0;
        storm.isLikely[track] = is == 1;
        return before;
    }

    public int truth(int track) {
        if (isNoTrack(track)) {
            return BAD;
        }
        int before = storm.truth;
        storm.truth = track;
        return before;
    }

    public int news(int track, int from, int to, int water, int wind) {
        return storm.hear(folk.now, track, from, to, water, wind);
    }

    public int known(int track, int hour, int in, int what) {
        if (isNoTrack(track) || isOutside(hour, 0, LAST_HOUR) || isOutside(in, 0, folk.now) || isOutside(what, 0, 1)) {
            return BAD;
        }
        return what == 0 ? storm.waterKnown(track, hour, in) : storm.windKnown(track, hour, in);
    }

    // ---- texts

    public int feed(int n, long bytes) {
        if (isOutside(n, 1, 8)) {
            return BAD;
        }
        return book.append(n, bytes);
    }

    public int text() {
        return book.learn();
    }

    public int force(int text) {
        if (isOutside(text, 0, book.count - 1)) {
            return BAD;
        }
        int before = book.rule;
        book.rule = text;
        return before;
    }

    public long says(int zone, int part) {
        if (isNoZone(zone) || isOutside(part, HEED, STOP)) {
            return NO;
        }
        hours.gather(folk, zone, storm.truth);
        return book.worth(part, hours.facts);
    }

    // ---- calls, hours

    public int call(int zone) {
        if (isNoZone(zone)) {
            return BAD;
        }
        if (folk.call[zone] != NONE || folk.now >= storm.lastHour) {
            return STATE;
        }
        folk.call[zone] = folk.now;
        return folk.now;
    }

    public int good(int zone) {
        if (isNoZone(zone)) {
            return BAD;
        }
        int called = folk.call[zone];
        if (called == NONE) {
            return NONE;
        }
        return storm.wasDanger(town.height[zone], called) ? 1 : 0;
    }

    public int pass(int n) {
        if (isOutside(n, 1, LAST_HOUR)) {
            return BAD;
        }
        if (folk.now + n > storm.lastHour) {
            return FULL;
        }
        for (int i = 0; i < n; i++) {
            hours.goBy(folk, storm.truth);
        }
        return folk.now;
    }

    public int inWater() {
        return hours.standInWater(folk, storm.truth, folk.now);
    }

    // ---- ahead

    public long foresee(int track, long calls) {
        if (isNoTrack(track) || calls < 0) {
            return NO;
        }
        long rest = calls;
        for (int zone = 0; zone < town.zones; zone++) {
            int digits = (int) (rest % 100);
            rest = rest / 100;
            boolean isNone = digits == NO_CALL_DIGITS;
            if (folk.call[zone] == NONE && !isNone && folk.now + digits > storm.lastHour) {
                return NO;
            }
            forecast.delay[zone] = isNone ? NONE : digits;
        }
        return rest == 0 ? forecast.foreseen(track) : NO;
    }

    public long best(int zones) {
        if (isOutside(zones, 0, (1 << town.zones) - 1) || Integer.bitCount(zones) > MOST_SOUGHT) {
            return NO;
        }
        for (int zone = 0; zone < town.zones; zone++) {
            if ((zones >> zone & 1) == 1 && folk.call[zone] != NONE) {
                return NO;
            }
        }
        return forecast.search(zones);
    }

    public int bestCall(int zone) {
        return isNoZone(zone) ? NONE : forecast.bestDelay[zone];
    }

    public int count(int what) {
        switch (what) {
            case 0: return folk.now;
            case 1: return town.zones;
            case 2: return town.shelters;
            case 3: return roads.count;
            case 4: return buses.count;
            case 5: return storm.count;
            case 6: return storm.lastHour;
            case 7: return sum(folk.home);
            case 8: return sum(folk.crowd);
            case 9: return sum(folk.ill);
            case 10: return sum(folk.riders);
            case 11: return sum(folk.sheltered);
            case 12: return folk.out;
            case 13: return book.count;
            case 14: return book.tapeSize;
            case 15: return book.rule;
            default: return BAD;
        }
    }

    // ---- the host

    public int sheet(int sheet, int sort, int n) {
        if (isNoSheet(sheet) || isOutside(sort, NONE, SORTS - 1)) {
            return BAD;
        }
        if (sort == NONE) {
            sheets.sort[sheet] = NONE;
            return 1;
        }
        if (n > MOST_ITEMS) {
            return BAD;
        }
        if (n < 0) {
            return SIZE_BELOW_0;
        }
        sheets.lay(sheet, sort, n);
        return 1;
    }

    public int cell(int sheet, int i, int v) {
        if (isNoSheet(sheet)) {
            return BAD;
        }
        if (sheets.sort[sheet] == NONE) {
            return NOTHING_THERE;
        }
        if (isOutside(i, 0, sheets.size[sheet] - 1)) {
            return PLACE_OUTSIDE;
        }
        sheets.write(sheet, i, v);
        return 1;
    }

    public int copy(int sheet, int i, int other, int j, int n) {
        if (isNoSheet(sheet) || isNoSheet(other)) {
            return BAD;
        }
        if (sheets.sort[sheet] == NONE || sheets.sort[other] == NONE) {
            return NOTHING_THERE;
        }
        if (sheets.sort[sheet] != sheets.sort[other]) {
            return OTHER_SORT;
        }
        if (n < 0 || !sheets.holds(sheet, i, n) || !sheets.holds(other, j, n)) {
            return PLACE_OUTSIDE;
        }
        System.arraycopy(sheets.items[sheet], i, sheets.items[other], j, n);
        return n;
    }

    public int newsRow(int track, int sheet, int sort, int from, int n) {
        if (isNoTrack(track) || isNoSheet(sheet) || isOutside(sort, 0, SORTS - 1) || isOutside(n, 0, MOST_NEWS_ROW)) {
            return BAD;
        }
        if (sheets.sort[sheet] == NONE) {
            return NOTHING_THERE;
        }
        if (sheets.sort[sheet] != sort) {
            return OTHER_SORT;
        }
        int came = 0;
        for (int k = 0; k < n; k++) {
            int at = from + k * NEWS_ITEMS;
            if (!sheets.holds(sheet, at, NEWS_ITEMS)) {
                return PLACE_OUTSIDE;
            }
            int[] row = sheets.items[sheet];
            if (storm.hear(folk.now, track, row[at], row[at + 1], row[at + 2], row[at + 3]) >= 0) {
                came++;
            }
        }
        return came;
    }

    public int taken(int road, int k) {
        if (isOutside(k, 0, KINDS - 1)) {
            return BAD;
        }
        if (isNoRoad(road)) {
            return NOTHING_THERE;
        }
        return roads.isOfKind(road, k) ? roads.flow[road] : OTHER_SORT;
    }

    // ---- what is such a number

    private static boolean isOutside(int number, int least, int most) {
        return number < least || number > most;
    }

    private static boolean isNoTrack(int track) {
        return isOutside(track, 0, TRACKS - 1);
    }

    private static boolean isNoSheet(int sheet) {
        return isOutside(sheet, 0, SHEETS - 1);
    }

    private boolean isNoZone(int zone) {
        return isOutside(zone, 0, town.zones - 1);
    }

    private boolean isNoShelter(int shelter) {
        return isOutside(shelter, 0, town.shelters - 1);
    }

    private boolean isNoRoad(int road) {
        return isOutside(road, 0, roads.count - 1);
    }

    private boolean isNoGoal(int to) {
        return isNoZone(to) && isOutside(to, TO_SHELTER, TO_SHELTER + town.shelters - 1) && to != TO_OUT;
    }

    private static int sum(int[] row) {
        int sum = 0;
        for (int number : row) {
            sum += number;
        }
        return sum;
    }

    /** Where things stand and which way folk go; how many they are is told by Folk. */
    private static final class Town {
        final int[] height = new int[MOST_ZONES];
        final int[] way = new int[MOST_ZONES];
        int zones;
        int shelters;

        Town() {
            Arrays.fill(way, NONE);
        }
    }

    private static final class Roads {
        final int[] kind = new int[MOST_ROADS];
        final int[] from = new int[MOST_ROADS];
        final int[] to = new int[MOST_ROADS];
        final int[] flow = new int[MOST_ROADS];
        final int[] turned = new int[MOST_ROADS];
        int count;

        int build(int newKind, int newFrom, int newTo, int newFlow) {
            int road = count++;
            kind[road] = newKind;
            from[road] = newFrom;
            to[road] = newTo;
            flow[road] = newFlow;
            turned[road] = NONE;
            return road;
        }

        boolean isOfKind(int road, int wanted) {
            int above = kind[road];
            for (int i = 0; i < KINDS && above != NONE; i++) {
                if (above == wanted) {
                    return true;
                }
                above = KIND_ABOVE[above];
            }
            return false;
        }

        /** What the lanes carry if no zone at either end is wet. */
        int canTake(int road, int hour, int wind) {
            boolean isTurned = turned[road] != NONE;
            int emptyHours = kind[road] == MAIN ? 2 : 1;
            if (isTurned && hour < turned[road] + emptyHours) {
                return 0;
            }
            int plain = flow[road];
            switch (kind[road]) {
                case WIDE:
                case MAIN: return isTurned ? plain * 2 : plain;
                case BRIDGE: return wind > 40 ? 0 : plain;
                case SPAN: return wind > 40 ? 0 : wind > 20 ? plain / 2 : plain;
                case PATH: return plain / 3;
                default: return plain;
            }
        }
    }

    private static final class Buses {
        final int[] zone = new int[MOST_BUSES];
        final int[] shelter = new int[MOST_BUSES];
        final int[] seats = new int[MOST_BUSES];
        final int[] trip = new int[MOST_BUSES];
        int count;

        int hire(int itsZone, int itsShelter, int itsSeats, int itsTrip) {
            int bus = count++;
            zone[bus] = itsZone;
            shelter[bus] = itsShelter;
            seats[bus] = itsSeats;
            trip[bus] = itsTrip;
            return bus;
        }
    }

    /** The tracks: as they are told by now, for the hours that go by, and all news, for what was known earlier. */
    private static final class Storm {
        final boolean[] isLikely = new boolean[TRACKS];
        final int[][] water = new int[TRACKS][LAST_HOUR + 1];
        final int[][] wind = new int[TRACKS][LAST_HOUR + 1];
        final int[] newsTrack = new int[MOST_NEWS];
        final int[] newsFrom = new int[MOST_NEWS];
        final int[] newsTo = new int[MOST_NEWS];
        final int[] newsWater = new int[MOST_NEWS];
        final int[] newsWind = new int[MOST_NEWS];
        final int[] newsHour = new int[MOST_NEWS];
        int count;
        int truth;
        int lastHour = FIRST_END;

        Storm() {
            isLikely[0] = true;
        }

        int hear(int now, int track, int from, int to, int newWater, int newWind) {
            if (isNoTrack(track) || isOutside(from, now, LAST_HOUR) || isOutside(to, from + 1, LAST_HOUR + 1)
                    || isOutside(newWater, 0, TOP_LEVEL) || isOutside(newWind, 0, TOP_LEVEL)) {
                return BAD;
            }
            if (count >= MOST_NEWS) {
                return FULL;
            }
            newsTrack[count] = track;
            newsFrom[count] = from;
            newsTo[count] = to;
            newsWater[count] = newWater;
            newsWind[count] = newWind;
            newsHour[count] = now;
            for (int hour = from; hour < to; hour++) {
                water[track][hour] = newWater;
                wind[track][hour] = newWind;
            }
            return count++;
        }

        int waterKnown(int track, int hour, int in) {
            int teller = teller(track, hour, in);
            return teller == NONE ? 0 : newsWater[teller];
        }

        int windKnown(int track, int hour, int in) {
            int teller = teller(track, hour, in);
            return teller == NONE ? 0 : newsWind[teller];
        }

        /** Whether some track that is likely now was known, in the hour of a call, to bring water above a height. */
        boolean wasDanger(int height, int called) {
            int until = Math.min(called + GOOD_AHEAD, lastHour);
            for (int track = 0; track < TRACKS; track++) {
                for (int hour = called; isLikely[track] && hour <= until; hour++) {
                    if (waterKnown(track, hour, called) > height) {
                        return true;
                    }
                }
            }
            return false;
        }

        /** The latest news, of those told by the end of an hour, that tell of another one. */
        private int teller(int track, int hour, int in) {
            for (int i = count - 1; i >= 0; i--) {
                if (newsTrack[i] == track && newsHour[i] <= in && newsFrom[i] <= hour && hour < newsTo[i]) {
                    return i;
                }
            }
            return NONE;
        }
    }

    /** How many folk are where, and the hour for which that holds; apart from the rest so that it can be tried ahead. */
    private static final class Folk {
        final int[] home = new int[MOST_ZONES];
        final int[] crowd = new int[MOST_ZONES];
        final int[] ill = new int[MOST_ZONES];
        final int[] call = new int[MOST_ZONES];
        final int[] room = new int[MOST_SHELTERS];
        final int[] sheltered = new int[MOST_SHELTERS];
        final int[] riders = new int[MOST_BUSES];
        final int[] tripOver = new int[MOST_BUSES];
        int out;
        int now;

        Folk() {
            Arrays.fill(call, NONE);
            Arrays.fill(tripOver, NONE);
        }

        void become(Folk other) {
            System.arraycopy(other.home, 0, home, 0, MOST_ZONES);
            System.arraycopy(other.crowd, 0, crowd, 0, MOST_ZONES);
            System.arraycopy(other.ill, 0, ill, 0, MOST_ZONES);
            System.arraycopy(other.call, 0, call, 0, MOST_ZONES);
            System.arraycopy(other.room, 0, room, 0, MOST_SHELTERS);
            System.arraycopy(other.sheltered, 0, sheltered, 0, MOST_SHELTERS);
            System.arraycopy(other.riders, 0, riders, 0, MOST_BUSES);
            System.arraycopy(other.tripOver, 0, tripOver, 0, MOST_BUSES);
            out = other.out;
            now = other.now;
        }

        boolean isCalled(int zone) {
            // A forecast sets calls of hours still to come.
            return call[zone] != NONE && call[zone] <= now;
        }
    }

    /** Lets hours go by, under any track that is taken for the true one. */
    private static final class Hours {
        final Town town;
        final Roads roads;
        final Buses buses;
        final Storm storm;
        final Book book;
        final int[] facts = new int[NAMES];
        final int[] moving = new int[MOST_ROADS];

        Hours(Town town, Roads roads, Buses buses, Storm storm, Book book) {
            this.town = town;
            this.roads = roads;
            this.buses = buses;
            this.storm = storm;
            this.book = book;
        }

        boolean isWet(int zone, int track, int hour) {
            return storm.water[track][hour] > town.height[zone];
        }

        int openFlow(int road, int track, int hour) {
            int goal = roads.to[road];
            if (isWet(roads.from[road], track, hour) || goal < MOST_ZONES && isWet(goal, track, hour)) {
                return 0;
            }
            return roads.canTake(road, hour, storm.wind[track][hour]);
        }

        int standInWater(Folk folk, int track, int hour) {
            int sum = 0;
            for (int zone = 0; zone < town.zones; zone++) {
                if (isWet(zone, track, hour)) {
                    sum += folk.home[zone] + folk.crowd[zone] + folk.ill[zone];
                }
            }
            return sum;
        }

        /** What the names of a text stand for, in their order: since height wind left crowd zone. */
        void gather(Folk folk, int zone, int track) {
            facts[0] = folk.isCalled(zone) ? folk.now - folk.call[zone] : 0;
            facts[1] = town.height[zone];
            facts[2] = storm.wind[track][folk.now];
            facts[3] = folk.home[zone];
            facts[4] = folk.crowd[zone];
            facts[5] = zone;
        }

        void goBy(Folk folk, int track) {
            setOut(folk, track);
            chooseMoving(folk, track);
            move(folk);
            board(folk, track);
            folk.now++;
            freeBuses(folk);
        }

        private void setOut(Folk folk, int track) {
            for (int zone = 0; zone < town.zones; zone++) {
                if (folk.home[zone] == 0 || !folk.isCalled(zone) || isWet(zone, track, folk.now)) {
                    continue;
                }
                gather(folk, zone, track);
                if (book.worth(STOP, facts) == 0) {
                    int hundredths = Math.max(0, Math.min(100, book.worth(HEED, facts)));
                    int heeding = folk.home[zone] * hundredths / 100;
                    folk.home[zone] -= heeding;
                    folk.crowd[zone] += heeding;
                }
            }
        }

        /** All roads choose before anybody comes, so that nobody takes two roads in an hour. */
        private void chooseMoving(Folk folk, int track) {
            for (int road = 0; road < roads.count; road++) {
                int zone = roads.from[road];
                int many = town.way[zone] == road ? Math.min(folk.crowd[zone], openFlow(road, track, folk.now)) : 0;
                int shelter = roads.to[road] - TO_SHELTER;
                if (!isOutside(shelter, 0, MOST_SHELTERS - 1)) {
                    many = Math.min(many, folk.room[shelter]);
                    folk.room[shelter] -= many;
                }
                moving[road] = many;
            }
        }

        private void move(Folk folk) {
            for (int road = 0; road < roads.count; road++) {
                int many = moving[road];
                int to = roads.to[road];
                folk.crowd[roads.from[road]] -= many;
                if (to < MOST_ZONES) {
                    folk.crowd[to] += many;
                } else if (to < TO_OUT) {
                    folk.sheltered[to - TO_SHELTER] += many;
                } else {
                    folk.out += many;
                }
            }
        }

        private void board(Folk folk, int track) {
            for (int bus = 0; bus < buses.count; bus++) {
                int zone = buses.zone[bus];
                int shelter = buses.shelter[bus];
                int many = Math.min(buses.seats[bus], Math.min(folk.ill[zone], folk.room[shelter]));
                if (many == 0 || folk.tripOver[bus] != NONE || isWet(zone, track, folk.now)) {
                    continue;
                }
                gather(folk, zone, track);
                if (book.worth(STOP, facts) == 0) {
                    folk.ill[zone] -= many;
                    folk.room[shelter] -= many;
                    folk.riders[bus] = many;
                    folk.tripOver[bus] = folk.now + buses.trip[bus];
                }
            }
        }

        private void freeBuses(Folk folk) {
            for (int bus = 0; bus < buses.count; bus++) {
                if (folk.tripOver[bus] == folk.now) {
                    folk.sheltered[buses.shelter[bus]] += folk.riders[bus];
                    folk.riders[bus] = 0;
                    folk.tripOver[bus] = NONE;
                }
            }
        }
    }

    /** Tries calls on a second Folk, so that all is as before then. */
    private static final class Forecast {
        final Town town;
        final Storm storm;
        final Folk folk;
        final Hours hours;
        final Folk trial = new Folk();
        final int[] delay = new int[MOST_ZONES];
        final int[] bestDelay = new int[MOST_ZONES];
        final int[] sought = new int[MOST_SOUGHT];

        Forecast(Town town, Storm storm, Folk folk, Hours hours) {
            this.town = town;
            this.storm = storm;
            this.folk = folk;
            this.hours = hours;
            Arrays.fill(bestDelay, NONE);
        }

        /** In water at the end, if the zones that have no call are called after their delays. */
        int foreseen(int track) {
            trial.become(folk);
            for (int zone = 0; zone < town.zones; zone++) {
                if (folk.call[zone] == NONE && delay[zone] != NONE) {
                    trial.call[zone] = folk.now + delay[zone];
                }
            }
            int until = settled(track);
            for (int hour = folk.now; hour < until; hour++) {
                hours.goBy(trial, track);
            }
            return hours.standInWater(trial, track, storm.lastHour);
        }

        /**
         * The hour from which on nothing that counts can change: nobody comes to a wet zone or leaves it, so only
         * hours in which a zone that is wet at the end is still dry matter.
         */
        private int settled(int track) {
            int until = folk.now;
            for (int zone = 0; zone < town.zones; zone++) {
                if (hours.isWet(zone, track, storm.lastHour)) {
                    int wetFrom = storm.lastHour;
                    while (wetFrom > until && hours.isWet(zone, track, wetFrom - 1)) {
                        wetFrom--;
                    }
                    until = Math.max(until, wetFrom);
                }
            }
            return until;
        }

        /** Goes through all ways from the most liked on (fewest calls, then earliest), so that only a lesser number wins. */
        long search(int zones) {
            int many = 0;
            for (int zone = 0; zone < town.zones; zone++) {
                if ((zones >> zone & 1) == 1 && many < MOST_SOUGHT) {
                    sought[many++] = zone;
                }
            }
            int least = ABOVE_ALL_FOLK;
            for (int calls = 0; calls <= many; calls++) {
                for (int way = 0; way < 1 << 2 * many && least > 0; way++) {
                    if (plan(way, many) != calls) {
                        continue;
                    }
                    int worst = worst(least);
                    if (worst < least) {
                        least = worst;
                        System.arraycopy(delay, 0, bestDelay, 0, MOST_ZONES);
                    }
                }
            }
            return least;
        }

        /** Sets the delays of a way (two bits for each zone sought): how many calls it has, NONE if one is too late. */
        private int plan(int way, int many) {
            Arrays.fill(delay, NONE);
            int calls = 0;
            for (int i = 0; i < many; i++) {
                int step = way >> 2 * (many - 1 - i) & 3;
                if (step < CALL_STEPS) {
                    if (folk.now + step * CALL_STEP > storm.lastHour) {
                        return NONE;
                    }
                    delay[sought[i]] = step * CALL_STEP;
                    calls++;
                }
            }
            return calls;
        }

        /** The greatest number of all likely tracks; it may stop where that is no longer below the least one so far. */
        private int worst(int least) {
            int worst = 0;
            for (int track = 0; track < TRACKS && worst < least; track++) {
                if (storm.isLikely[track]) {
                    worst = Math.max(worst, foreseen(track));
                }
            }
            return worst;
        }
    }

    /** The tape, the texts in the order in which they are reckoned, and which of them is the rule. */
    private static final class Book {
        final byte[] tape = new byte[MOST_TAPE];
        final int[][] codes = new int[MOST_TEXTS][MOST_TAPE];
        final int[] heedEnd = new int[MOST_TEXTS];
        final int[] stopEnd = new int[MOST_TEXTS];
        final int[] stack = new int[MOST_TAPE];
        final Reader reader = new Reader(tape);
        int tapeSize;
        int count;
        int rule;

        void write(String text) {
            for (int i = 0; i < text.length() && tapeSize < MOST_TAPE; i++) {
                tape[tapeSize++] = (byte) text.charAt(i);
            }
        }

        int append(int n, long bytes) {
            if (tapeSize + n > MOST_TAPE) {
                return FULL;
            }
            for (int i = 0; i < n; i++) {
                tape[tapeSize++] = (byte) (bytes >> 8 * i);
            }
            return tapeSize;
        }

        int learn() {
            if (count >= MOST_TEXTS) {
                return FULL;
            }
            int fault = reader.read(tapeSize, codes[count]);
            tapeSize = 0;
            if (fault != NONE) {
                return FAULT_BASE - fault;
            }
            heedEnd[count] = reader.heedEnd;
            stopEnd[count] = reader.length;
            return count++;
        }

        /** What a part of the rule comes to; the facts are the values of the names. */
        int worth(int part, int[] facts) {
            int[] code = codes[rule];
            int from = part == HEED ? 0 : heedEnd[rule];
            int to = part == HEED ? heedEnd[rule] : stopEnd[rule];
            int top = 0;
            for (int i = from; i < to && top < MOST_TAPE; i++) {
                int c = code[i];
                if (c >= 0) {
                    stack[top++] = c;
                } else if (c >= Reader.LAST_NAME) {
                    stack[top++] = facts[Reader.FIRST_NAME - c];
                } else if (c == -Reader.KEY_NOT && top > 0) {
                    stack[top - 1] = stack[top - 1] == 0 ? 1 : 0;
                } else if (c == Reader.DO_NEGATE && top > 0) {
                    stack[top - 1] = -stack[top - 1];
                } else if (top > 1) {
                    top--;
                    stack[top - 1] = joined(c, stack[top - 1], stack[top]);
                }
            }
            return stack[0];
        }

        private static int joined(int c, int a, int b) {
            switch (c) {
                case -Reader.KEY_OR: return a != 0 || b != 0 ? 1 : 0;
                case -Reader.KEY_AND: return a != 0 && b != 0 ? 1 : 0;
                case -'<': return a < b ? 1 : 0;
                case -'=': return a == b ? 1 : 0;
                case -'+': return a + b;
                case -'-': return a - b;
                default: return a * b;
            }
        }
    }

    /**
     * Reads a text into codes, each behind those that it joins: a number is itself, a name FIRST_NAME or below, what
     * joins two its token below 0.
     */
    private static final class Reader {
        static final int FIRST_NAME = -1, LAST_NAME = FIRST_NAME - NAMES + 1, DO_NEGATE = -9;

        /** Tokens; a sign is its own byte. No rule takes FAULTY, so a faulty token is where the reading ends. */
        static final int FAULTY = 10, ENDED = 11, NUMBER = 12, NAME = 13;
        static final int KEY_HEED = 14, KEY_STOP = 15, KEY_OR = 16, KEY_AND = 17, KEY_NOT = 18;

        /** The grammar's E, AND, NOT, SUM, TERM, ONE. */
        private static final int LEVEL_E = 0, LEVEL_AND = 1, LEVEL_NOT = 2, LEVEL_SUM = 3, LEVEL_TERM = 4, LEVEL_ONE = 5;

        private final byte[] tape;
        private int[] codes;
        int length;
        int heedEnd;
        private int size;
        private int place;
        private int behind;
        private int token;
        private int value;
        private int fault;

        Reader(byte[] tape) {
            this.tape = tape;
            codes = new int[0];
        }

        /** The place of the fault, or NONE. */
        int read(int textSize, int[] into) {
            size = textSize;
            codes = into;
            length = 0;
            behind = 0;
            fault = NONE;
            nextToken();
            expect(KEY_HEED);
            readLevel(LEVEL_E, 0);
            expect(';');
            heedEnd = length;
            expect(KEY_STOP);
            readLevel(LEVEL_E, 0);
            expect(';');
            if (token != ENDED) {
                fail();
            }
            return fault;
        }

        private void expect(int wanted) {
            if (token == wanted) {
                nextToken();
            } else {
                fail();
            }
        }

        private void fail() {
            if (fault == NONE) {
                fault = place;
            }
            token = FAULTY;
        }

        private void put(int code) {
            if (length < codes.length) {
                codes[length++] = code;
            }
        }

        /** Reads what a level of the grammar takes, while so many ( not - are open. */
        private void readLevel(int level, int open) {
            boolean isOpening = level == LEVEL_NOT && token == KEY_NOT
                || level == LEVEL_ONE && (token == '-' || token == '(');
            if (isOpening && open >= MOST_OPEN) {
                fail();
            } else if (isOpening) {
                readOpened(level, open);
            } else if (level >= LEVEL_ONE) {
                readLeaf();
            } else {
                readLevel(level + 1, open);
                int most = level == LEVEL_NOT ? 1 : MOST_TAPE;
                for (int i = 0; i < most && level == joinLevel(token); i++) {
                    int code = -token;
                    nextToken();
                    readLevel(level + 1, open);
                    put(code);
                }
            }
        }

        private void readOpened(int level, int open) {
            int opener = token;
            nextToken();
            readLevel(opener == '(' ? LEVEL_E : level, open + 1);
            if (opener == '(') {
                expect(')');
            } else {
                put(opener == KEY_NOT ? -KEY_NOT : DO_NEGATE);
            }
        }

        private void readLeaf() {
            if (token == NUMBER || token == NAME) {
                put(token == NUMBER ? value : FIRST_NAME - value);
                nextToken();
            } else {
                fail();
            }
        }

        /** The level whose parts a token joins. */
        private static int joinLevel(int token) {
            switch (token) {
                case KEY_OR: return LEVEL_E;
                case KEY_AND: return LEVEL_AND;
                case '<':
                case '=': return LEVEL_NOT;
                case '+':
                case '-': return LEVEL_SUM;
                case '*': return LEVEL_TERM;
                default: return NONE;
            }
        }

        private void nextToken() {
            while (behind < size && (tape[behind] == 32 || tape[behind] == 10)) {
                behind++;
            }
            place = behind;
            if (behind >= size) {
                token = ENDED;
            } else if (isLetter(tape[behind])) {
                takeWord();
            } else if (isDigit(tape[behind])) {
                takeNumber();
            } else {
                token = isSign(tape[behind]) ? tape[behind] : FAULTY;
                behind++;
            }
        }

        private void takeWord() {
            while (behind < size && isLetter(tape[behind])) {
                behind++;
            }
            value = spells("since") ? 0 : spells("height") ? 1 : spells("wind") ? 2
                : spells("left") ? 3 : spells("crowd") ? 4 : spells("zone") ? 5 : NONE;
            if (value != NONE) {
                token = NAME;
                return;
            }
            token = spells("heed") ? KEY_HEED : spells("stop") ? KEY_STOP : spells("or") ? KEY_OR
                : spells("and") ? KEY_AND : spells("not") ? KEY_NOT : FAULTY;
        }

        private boolean spells(String word) {
            if (behind - place != word.length()) {
                return false;
            }
            for (int i = 0; i < word.length(); i++) {
                if (tape[place + i] != word.charAt(i)) {
                    return false;
                }
            }
            return true;
        }

        private void takeNumber() {
            value = 0;
            while (behind < size && isDigit(tape[behind])) {
                value = value * 10 + tape[behind] - '0';
                behind++;
            }
            token = behind - place > MOST_DIGITS ? FAULTY : NUMBER;
        }

        private static boolean isLetter(int sign) {
            return sign >= 'a' && sign <= 'z';
        }

        private static boolean isDigit(int sign) {
            return sign >= '0' && sign <= '9';
        }

        private static boolean isSign(int sign) {
            return sign >= '(' && sign <= '+' || sign == '-' || sign == ';' || sign == '<' || sign == '=';
        }
    }

    /** Rows of the host: a sheet that is missing has the sort NONE. */
    private static final class Sheets {
        final int[][] items = new int[SHEETS][MOST_ITEMS];
        final int[] sort = new int[SHEETS];
        final int[] size = new int[SHEETS];

        Sheets() {
            Arrays.fill(sort, NONE);
        }

        void lay(int sheet, int newSort, int n) {
            sort[sheet] = newSort;
            size[sheet] = n;
            Arrays.fill(items[sheet], 0);
        }

        void write(int sheet, int i, int v) {
            items[sheet][i] = sort[sheet] == 0 ? (byte) v : sort[sheet] == 1 ? (short) v : v;
        }

        boolean holds(int sheet, int at, int n) {
            return at >= 0 && at <= size[sheet] - n;
        }
    }
}
