import java.util.Random;

/** Runs of calls by fixed seeds, each answer beside the Model's: cities that make sense, and calls with any numbers. */
final class ModelTest {
    private static final Due due = new Due("ModelTest");
    private static final int[] ODD = {Integer.MIN_VALUE, Integer.MAX_VALUE, -1, -2, 6, 7, 41, 61, 62, 99, 100, 1000};

    private final Random random;
    private final FloodCity city = new FloodCity();
    private final Model model = new Model();
    private final String run;
    /** One number in so many is an odd one. */
    private final int oddness;
    private int calls;
    /** Which hours best calls had. */
    private static final boolean[] hasSeen = new boolean[9];

    private ModelTest(int seed, int oddness) {
        random = new Random(seed);
        run = "seed " + seed + " oddness " + oddness;
        this.oddness = oddness;
    }

    public static void main(String[] args) {
        int seeds = args.length > 0 ? Integer.parseInt(args[0]) : 400;
        for (int seed = 0; seed < seeds; seed++) {
            new ModelTest(seed, seed % 4 == 0 ? 6 : 60).go();
            new ModelTest(seed, 1000000).goPlanned();
        }
        due.holds("best calls of all hours were among them", hasSeen[0] && hasSeen[4] && hasSeen[8]);
        due.end();
    }

    private void go() {
        build();
        int most = 60 + random.nextInt(380);
        for (int i = 0; i < most && calls < 500; i++) {
            any(random.nextInt(42));
        }
        tellAll();
    }

    /** A city that floods at the end on every track, with a rule by which the hour of a call matters. */
    private void goPlanned() {
        int zones = 1 + random.nextInt(5);
        for (int z = 0; z < zones; z++) {
            any(0);
        }
        any(1);
        for (int z = 0; z < zones; z++) {
            int to = random.nextInt(3) == 0 ? (z + 1) % zones : random.nextInt(3) == 0 ? 10 : 20;
            int kind = up(0, 5), flow = up(20, 300);
            is("road", city.road(kind, z, to, flow), model.road(kind, z, to, flow));
            any(3);
        }
        for (int road = 0; road < model.roads.size(); road++) {
            is("use", city.use(road), model.use(road));
        }
        any(5);
        any(5);
        int end = up(4, 30);
        is("end", city.end(end), model.end(end));
        for (int track = 0; track < 3; track++) {
            int is = up(0, 3) == 0 ? 0 : 1;
            is("likely", city.likely(track, is), model.likely(track, is));
            floodOn(track, end);
        }
        plannedRule();
        for (int i = 0; i < 12; i++) {
            any(28);
            any(31);
            any(random.nextInt(4) == 0 ? 24 : random.nextInt(4) == 0 ? 21 : 12);
        }
        tellAll();
    }

    private void floodOn(int track, int end) {
        for (int i = 0; i < 4; i++) {
            int from = up(0, end - 1), water = i < 2 ? up(0, 5) : up(0, 30), wind = up(0, 70);
            is("news", city.news(track, from, from + 5, water, wind), model.news(track, from, from + 5, water, wind));
        }
        int last = up(Math.max(0, end - 6), end), high = up(15, 99);
        is("news", city.news(track, last, 61, high, 0), model.news(track, last, 61, high, 0));
    }

    private void plannedRule() {
        String[] rules = {"heed 100 * (since < 2); stop 40 < wind;", "heed wind * 2; stop 0;",
            "heed 90 - since * 30; stop 60 < wind;",
            "heed 50 - crowd; stop 0;", "heed 100 * (since = 0) * (20 < wind); stop 0;",
            "heed since * 20; stop since = 1 or 70 < wind;"};
        feedAndTake(rules[random.nextInt(rules.length)]);
        is("force", city.force(1), model.force(1));
    }

    private int up(int least, int most) {
        if (random.nextInt(oddness) == 0) {
            return random.nextInt(3) == 0 ? ODD[random.nextInt(ODD.length)] : least - 2 + random.nextInt(most - least + 5);
        }
        return least + random.nextInt(most - least + 1);
    }

    private void is(String call, long got, long want) {
        calls++;
        due.is(run + " call " + calls + ": " + call, got, want);
    }

    private void build() {
        int zones = 1 + random.nextInt(6);
        for (int i = 0; i < zones; i++) {
            any(0);
        }
        for (int i = random.nextInt(4); i > 0; i--) {
            any(1);
        }
        for (int i = random.nextInt(14); i > 0; i--) {
            any(2);
        }
        for (int i = random.nextInt(8); i > 0; i--) {
            any(3);
        }
        for (int i = random.nextInt(5); i > 0; i--) {
            any(5);
        }
        for (int i = random.nextInt(6); i > 0; i--) {
            any(12);
        }
    }

    private int zoneNumber() {
        return up(0, Math.max(0, model.zones.size() - 1));
    }

    private int goal() {
        int kind = random.nextInt(4);
        return kind == 0 ? 20 : kind == 1 ? 10 + up(0, 2) : zoneNumber();
    }

    private void any(int which) {
        switch (which) {
            case 0: case 1: case 2: case 3: case 4: case 5: buildOne(which); break;
            case 6: case 7: case 8: case 9: tell(random.nextInt(4)); break;
            case 10: case 11: case 12: case 13: case 14: case 15: storm(which); break;
            case 16: case 17: texts(); break;
            case 18: forceOne(); break;
            case 19: case 20: sayOne(); break;
            case 21: case 22: callOne(); break;
            case 23: goodOne(); break;
            case 24: case 25: case 26: passSome(); break;
            case 27: is("inWater", city.inWater(), model.inWater()); break;
            case 28: case 29: case 30: foreseeOne(); break;
            case 31: bestOne(); break;
            case 32: case 33: countOne(); break;
            case 34: case 35: case 36: case 37: case 38: sheets(which); break;
            case 39: rows(); break;
            case 40: takenOne(); break;
            default: garbage(); break;
        }
    }

    private void buildOne(int which) {
        int a = which == 0 ? up(0, 30) : zoneNumber();
        int road = up(0, Math.max(0, model.roads.size() - 1));
        if (which == 0) {
            int home = random.nextInt(4) == 0 ? up(0, 99999) : up(0, 900);
            int ill = random.nextInt(4) == 0 ? up(0, 999) : up(0, 60);
            is("zone(" + a + ", " + home + ", " + ill + ")", city.zone(a, home, ill), model.zone(a, home, ill));
        } else if (which == 1) {
            int room = random.nextInt(3) == 0 ? up(0, 99999) : up(0, 400);
            is("shelter(" + room + ")", city.shelter(room), model.shelter(room));
        } else if (which == 2) {
            int kind = up(0, 5), to = goal(), flow = random.nextInt(4) == 0 ? up(1, 9999) : up(1, 120);
            is("road(" + kind + ", " + a + ", " + to + ", " + flow + ")", city.road(kind, a, to, flow),
                model.road(kind, a, to, flow));
        } else if (which == 3) {
            is("use(" + road + ")", city.use(road), model.use(road));
        } else if (which == 4) {
            is("turn(" + road + ")", city.turn(road), model.turn(road));
        } else {
            int shelter = up(0, 2), seats = up(1, 99), trip = up(1, 9);
            is("bus(" + a + ", " + shelter + ", " + seats + ", " + trip + ")", city.bus(a, shelter, seats, trip),
                model.bus(a, shelter, seats, trip));
        }
    }

    private void tell(int which) {
        int what = up(0, 6), z = zoneNumber(), s = up(0, 2), r = up(0, 13), b = up(0, 3);
        if (which == 0) {
            is("zoneTold(" + z + ", " + what + ")", city.zoneTold(z, what), model.zoneTold(z, what));
        } else if (which == 1) {
            is("shelterTold(" + s + ", " + what + ")", city.shelterTold(s, what), model.shelterTold(s, what));
        } else if (which == 2) {
            is("roadTold(" + r + ", " + what + ")", city.roadTold(r, what), model.roadTold(r, what));
        } else {
            is("busTold(" + b + ", " + what + ")", city.busTold(b, what), model.busTold(b, what));
        }
    }

    private void storm(int which) {
        int track = up(0, 2);
        if (which == 10) {
            int hour = up(1, 60);
            is("end(" + hour + ")", city.end(hour), model.end(hour));
        } else if (which == 11) {
            int is = up(0, 1);
            is("likely(" + track + ", " + is + ")", city.likely(track, is), model.likely(track, is));
        } else if (which == 15) {
            is("truth(" + track + ")", city.truth(track), model.truth(track));
        } else if (which == 14) {
            int hour = up(0, 60), in = up(0, model.now), what = up(0, 1);
            is("known(" + track + ", " + hour + ", " + in + ", " + what + ")", city.known(track, hour, in, what),
                model.known(track, hour, in, what));
        } else {
            int from = up(model.now, 60), to = up(Math.max(0, Math.min(from, 60)) + 1, 61);
            if (random.nextBoolean()) {
                to = from + up(1, 6);
            }
            int water = random.nextBoolean() ? up(0, 40) : up(0, 99), wind = up(0, 99);
            is("news(" + track + ", " + from + ", " + to + ", " + water + ", " + wind + ")",
                city.news(track, from, to, water, wind), model.news(track, from, to, water, wind));
        }
    }

    private String expression(int depth) {
        String[] names = {"since", "height", "wind", "left", "crowd", "zone"};
        String[] joins = {" + ", " - ", " * ", " < ", " = ", " or ", " and ", "-", "<"};
        int which = random.nextInt(depth > 0 ? 8 : 3);
        if (which == 0) {
            return "" + random.nextInt(random.nextBoolean() ? 100 : 11000);
        }
        if (which < 3) {
            return names[random.nextInt(6)];
        }
        if (which == 3) {
            return "(" + expression(depth - 1) + ")";
        }
        if (which == 4) {
            return (random.nextBoolean() ? "-" : "not ") + expression(depth - 1);
        }
        return expression(depth - 1) + joins[random.nextInt(joins.length)] + expression(depth - 1);
    }

    private void texts() {
        StringBuilder text = new StringBuilder("heed " + expression(3) + "; stop " + expression(random.nextInt(4)) + ";");
        if (random.nextInt(3) == 0) {
            int place = random.nextInt(text.length());
            String signs = "()<=+-*;az09 \n@A{/:\t";
            text.setCharAt(place, signs.charAt(random.nextInt(signs.length())));
        }
        feedAndTake(text.toString());
    }

    private void feedAndTake(String text) {
        for (int i = 0; i < text.length() && calls < 480; i += 8) {
            int n = Math.min(8, text.length() - i);
            long bytes = random.nextLong() << 1 << 8 * n - 1;
            for (int k = 0; k < n; k++) {
                bytes |= (long) text.charAt(i + k) << 8 * k;
            }
            is("feed(" + n + ", " + bytes + ")", city.feed(n, bytes), model.feed(n, bytes));
        }
        is("text() of " + text, city.text(), model.text());
    }

    private void forceOne() {
        int text = up(0, model.texts.size() - 1);
        is("force(" + text + ")", city.force(text), model.force(text));
    }

    private void sayOne() {
        int z = zoneNumber(), part = up(0, 1);
        is("says(" + z + ", " + part + ")", city.says(z, part), model.says(z, part));
    }

    private void callOne() {
        int z = zoneNumber();
        is("call(" + z + ")", city.call(z), model.call(z));
    }

    private void goodOne() {
        int z = zoneNumber();
        is("good(" + z + ")", city.good(z), model.good(z));
    }

    private void passSome() {
        int n = random.nextInt(6) == 0 ? up(1, 60) : up(1, 3);
        is("pass(" + n + ")", city.pass(n), model.pass(n));
    }

    private void foreseeOne() {
        int track = up(0, 2);
        long told = 0;
        for (int z = model.zones.size() - 1; z >= 0; z--) {
            int digits = random.nextInt(3) == 0 ? 99 : random.nextInt(Math.max(1, model.end - model.now + 1));
            told = told * 100 + (random.nextInt(oddness) == 0 ? random.nextInt(100) : digits);
        }
        if (random.nextInt(oddness) == 0) {
            told += random.nextLong();
        }
        is("foresee(" + track + ", " + told + ")", city.foresee(track, told), model.foresee(track, told));
    }

    private void bestOne() {
        int zones = 0;
        for (int z = 0; z < model.zones.size(); z++) {
            int most = random.nextInt(9) == 0 ? 4 : 3;
            if (model.zones.get(z).called == null && random.nextInt(3) != 0 && Integer.bitCount(zones) < most) {
                zones |= 1 << z;
            }
        }
        if (random.nextInt(oddness) == 0) {
            zones = up(0, 63);
        }
        is("best(" + zones + ")", city.best(zones), model.best(zones));
        for (int z = -1; z <= 6; z++) {
            int call = city.bestCall(z);
            is("bestCall(" + z + ")", call, model.bestCall(z));
            if (call >= 0 && call < hasSeen.length) {
                hasSeen[call] = true;
            }
        }
    }

    private void countOne() {
        int what = up(0, 15);
        is("count(" + what + ")", city.count(what), model.count(what));
    }

    private void sheets(int which) {
        int sheet = up(0, 3), sort = up(-1, 2), n = up(0, 40), i = up(0, 20);
        if (which == 34) {
            is("sheet(" + sheet + ", " + sort + ", " + n + ")", city.sheet(sheet, sort, n), model.sheet(sheet, sort, n));
        } else if (which == 35) {
            int other = up(0, 3), j = up(0, 20);
            is("copy(" + sheet + ", " + i + ", " + other + ", " + j + ", " + n + ")", city.copy(sheet, i, other, j, n),
                model.copy(sheet, i, other, j, n));
        } else {
            int v = random.nextInt(4) == 0 ? random.nextInt() : up(0, 60);
            is("cell(" + sheet + ", " + i + ", " + v + ")", city.cell(sheet, i, v), model.cell(sheet, i, v));
        }
    }

    /** A row whose cells are mostly news, then news by it. */
    private void rows() {
        int sheet = random.nextInt(4), sort = random.nextInt(3), n = random.nextInt(4), from = random.nextInt(3);
        is("sheet", city.sheet(sheet, sort, 12), model.sheet(sheet, sort, 12));
        for (int i = from; i < 12; i++) {
            int part = (i - from) % 4;
            int v = part == 0 ? model.now + up(0, 5) : part == 1 ? model.now + up(4, 12) : up(0, 60);
            v += random.nextInt(6) == 0 ? 256 : random.nextInt(6) == 0 ? 65536 : 0;
            is("cell", city.cell(sheet, i, v), model.cell(sheet, i, v));
        }
        int track = up(0, 2), asSort = random.nextInt(5) == 0 ? up(0, 2) : sort;
        is("newsRow(" + track + ", " + sheet + ", " + asSort + ", " + from + ", " + n + ")",
            city.newsRow(track, sheet, asSort, from, n), model.newsRow(track, sheet, asSort, from, n));
        is("count(5)", city.count(5), model.count(5));
    }

    private void takenOne() {
        int road = up(0, 13), k = up(0, 5);
        is("taken(" + road + ", " + k + ")", city.taken(road, k), model.taken(road, k));
    }

    private int wild() {
        int which = random.nextInt(9);
        return which < 3 ? random.nextInt() : which < 5 ? ODD[random.nextInt(ODD.length)] : random.nextInt(9) - 2;
    }

    private void garbage() {
        int a = wild(), b = wild(), c = wild(), d = wild(), e = wild();
        is("copy", city.copy(a, b, c, d, e), model.copy(a, b, c, d, e));
        is("newsRow", city.newsRow(a, b, c, d, e), model.newsRow(a, b, c, d, e));
        is("news", city.news(a, b, c, d, e), model.news(a, b, c, d, e));
        is("known", city.known(a, b, c, d), model.known(a, b, c, d));
        is("road", city.road(a, b, c, d), model.road(a, b, c, d));
        is("bus", city.bus(a, b, c, d), model.bus(a, b, c, d));
        is("sheet", city.sheet(a, b, c), model.sheet(a, b, c));
        is("cell", city.cell(a, b, c), model.cell(a, b, c));
        is("foresee", city.foresee(a, (long) b * c), model.foresee(a, (long) b * c));
    }

    private void tellAll() {
        for (int what = 0; what < 16; what++) {
            is("count(" + what + ") at last", city.count(what), model.count(what));
        }
        for (int z = 0; z < 6; z++) {
            for (int what = 0; what < 7; what++) {
                is("zoneTold(" + z + ", " + what + ") at last", city.zoneTold(z, what), model.zoneTold(z, what));
            }
        }
        int all = city.count(7) + city.count(8) + city.count(9) + city.count(10) + city.count(11) + city.count(12);
        due.is(run + ": all folk", all, model.count(7) + model.count(8) + model.count(9) + model.count(10)
            + model.count(11) + model.count(12));
    }
}
