import java.util.ArrayList;
import java.util.HashMap;
import java.util.List;
import java.util.Map;
import java.util.TreeMap;

/**
 * The document once more, as plainly as can be and with the Java library: nothing is kept ready, nothing is cut short.
 * ModelTest lets it answer beside FloodCity.
 */
final class Model {
    private static final int NONE = -1, BAD = -2, STATE = -3, FULL = -4;
    private static final long NO = -4611686018427387904L;

    static final class Zone { int number, height, home, way, ill; Road road; Integer called; }
    static final class Shelter { int room, in; }
    static final class Road { int number, kind, to, flow; Zone from; Integer turned; }
    static final class Bus { Zone zone; Shelter shelter; int seats, trip, in; Integer over; }
    record News(int track, int from, int to, int water, int wind, int told) { }
    record Text(Node heed, Node stop) { }

    interface Node { int worth(Map<String, Integer> names); }

    List<Zone> zones = new ArrayList<>();
    List<Shelter> shelters = new ArrayList<>();
    List<Road> roads = new ArrayList<>();
    List<Bus> buses = new ArrayList<>();
    List<News> news = new ArrayList<>();
    List<Text> texts = new ArrayList<>();
    boolean[] isLikely = {true, false, false};
    int now, end = 30, truth, rule, out;
    String tape = "";
    Map<Integer, Integer> bestCalls = new HashMap<>();
    long[][] sheets = new long[4][];
    int[] sorts = new int[4];

    Model() {
        texts.add((Text) new Parser("heed 20 + since * 10 ; stop 60 < wind ;").parse());
    }

    private static boolean in(long x, long a, long b) {
        return a <= x && x <= b;
    }

    private static <T> T at(List<T> list, int i) {
        return in(i, 0, list.size() - 1) ? list.get(i) : null;
    }

    int zone(int height, int home, int ill) {
        if (!in(height, 0, 99) || !in(home, 0, 99999) || !in(ill, 0, 999)) return BAD;
        if (now > 0) return STATE;
        if (zones.size() == 6) return FULL;
        Zone z = new Zone();
        z.number = zones.size();
        z.height = height;
        z.home = home;
        z.ill = ill;
        zones.add(z);
        return z.number;
    }

    int shelter(int room) {
        if (!in(room, 0, 99999)) return BAD;
        if (shelters.size() == 3) return FULL;
        Shelter s = new Shelter();
        s.room = room;
        shelters.add(s);
        return shelters.size() - 1;
    }

    private boolean isGoal(int to) {
        return to == 20 || in(to, 0, 5) && at(zones, to) != null || in(to, 10, 12) && at(shelters, to - 10) != null;
    }

    int road(int kind, int from, int to, int flow) {
        if (!in(kind, 0, 5) || at(zones, from) == null || !isGoal(to) || from == to || !in(flow, 1, 9999)) return BAD;
        if (roads.size() == 14) return FULL;
        Road r = new Road();
        r.number = roads.size();
        r.kind = kind;
        r.from = zones.get(from);
        r.to = to;
        r.flow = flow;
        roads.add(r);
        return r.number;
    }

    int use(int road) {
        Road r = at(roads, road);
        if (r == null) return BAD;
        Road was = r.from.road;
        r.from.road = r;
        return was == null ? NONE : was.number;
    }

    int turn(int road) {
        Road r = at(roads, road);
        if (r == null) return BAD;
        if (r.turned != null) return STATE;
        r.turned = now;
        return now;
    }

    int bus(int zone, int shelter, int seats, int trip) {
        if (at(zones, zone) == null || at(shelters, shelter) == null || !in(seats, 1, 99) || !in(trip, 1, 9)) return BAD;
        if (buses.size() == 4) return FULL;
        Bus b = new Bus();
        b.zone = zones.get(zone);
        b.shelter = shelters.get(shelter);
        b.seats = seats;
        b.trip = trip;
        buses.add(b);
        return buses.size() - 1;
    }

    private int told(int track, int hour, int in, boolean isWind) {
        int told = 0;
        for (News n : news) {
            if (n.track == track && n.told <= in && n.from <= hour && hour < n.to) told = isWind ? n.wind : n.water;
        }
        return told;
    }

    private boolean isWet(Zone z) {
        return told(truth, now, now, false) > z.height;
    }

    private int wind() {
        return told(truth, now, now, true);
    }

    private int asRoad(Road r) {
        return r.turned != null && r.turned == now ? 0 : r.flow;
    }

    private int asWide(Road r) {
        return r.turned != null ? 2 * asRoad(r) : asRoad(r);
    }

    private int asBridge(Road r) {
        return wind() > 40 ? 0 : asRoad(r);
    }

    private int takes(Road r) {
        if (isWet(r.from) || r.to < 6 && isWet(zones.get(r.to))) return 0;
        if (r.kind == 0) return asRoad(r);
        if (r.kind == 1) return asWide(r);
        if (r.kind == 2) return asBridge(r);
        if (r.kind == 3) return r.turned != null && now - r.turned <= 1 ? 0 : asWide(r);
        if (r.kind == 4) return wind() > 20 ? asBridge(r) / 2 : asBridge(r);
        return asRoad(r) / 3;
    }

    int zoneTold(int zone, int what) {
        Zone z = at(zones, zone);
        if (z == null || !in(what, 0, 6)) return BAD;
        int[] told = {z.height, z.home, z.way, z.ill, z.called == null ? NONE : z.called,
            z.road == null ? NONE : z.road.number, isWet(z) ? 1 : 0};
        return told[what];
    }

    int shelterTold(int shelter, int what) {
        Shelter s = at(shelters, shelter);
        if (s == null || !in(what, 0, 1)) return BAD;
        if (what == 1) return s.in;
        int kept = 0;
        for (Bus b : buses) if (b.shelter == s) kept += b.in;
        return s.room - s.in - kept;
    }

    int roadTold(int road, int what) {
        Road r = at(roads, road);
        if (r == null || !in(what, 0, 5)) return BAD;
        int[] told = {r.kind, r.from.number, r.to, r.flow, r.turned == null ? NONE : r.turned, takes(r)};
        return told[what];
    }

    int busTold(int bus, int what) {
        Bus b = at(buses, bus);
        if (b == null || !in(what, 0, 2)) return BAD;
        int[] told = {b.over == null ? 1 : 0, b.in, b.over == null ? NONE : b.over};
        return told[what];
    }

    int end(int hour) {
        if (!in(hour, 1, 60) || hour < now) return BAD;
        int was = end;
        end = hour;
        return was;
    }

    int likely(int track, int is) {
        if (!in(track, 0, 2) || !in(is, 0, 1)) return BAD;
        int was = isLikely[track] ? 1 : 0;
        isLikely[track] = is == 1;
        return was;
    }

    int truth(int track) {
        if (!in(track, 0, 2)) return BAD;
        int was = truth;
        truth = track;
        return was;
    }

    int news(int track, int from, int to, int water, int wind) {
        if (!in(track, 0, 2) || !in(from, now, 60) || to > 61 || to <= from || !in(water, 0, 99) || !in(wind, 0, 99)) {
            return BAD;
        }
        if (news.size() == 40) return FULL;
        news.add(new News(track, from, to, water, wind, now));
        return news.size() - 1;
    }

    int known(int track, int hour, int in, int what) {
        if (!in(track, 0, 2) || !in(hour, 0, 60) || !in(in, 0, now) || !in(what, 0, 1)) return BAD;
        return told(track, hour, in, what == 1);
    }

    int feed(int n, long bytes) {
        if (!in(n, 1, 8)) return BAD;
        if (tape.length() + n > 160) return FULL;
        for (int i = 0; i < n; i++) tape += (char) (bytes >>> 8 * i & 255);
        return tape.length();
    }

    int text() {
        if (texts.size() == 6) return FULL;
        Object parsed = new Parser(tape).parse();
        tape = "";
        if (parsed instanceof Integer fault) return -100 - fault;
        texts.add((Text) parsed);
        return texts.size() - 1;
    }

    int force(int text) {
        if (at(texts, text) == null) return BAD;
        int was = rule;
        rule = text;
        return was;
    }

    private int rule(Zone z, boolean isStop) {
        Map<String, Integer> names = new HashMap<>();
        names.put("since", z.called == null || z.called > now ? 0 : now - z.called);
        names.put("height", z.height);
        names.put("wind", wind());
        names.put("left", z.home);
        names.put("crowd", z.way);
        names.put("zone", z.number);
        Text t = texts.get(rule);
        return (isStop ? t.stop : t.heed).worth(names);
    }

    long says(int zone, int part) {
        Zone z = at(zones, zone);
        return z == null || !in(part, 0, 1) ? NO : rule(z, part == 1);
    }

    int call(int zone) {
        Zone z = at(zones, zone);
        if (z == null) return BAD;
        if (z.called != null || now == end) return STATE;
        z.called = now;
        return now;
    }

    int good(int zone) {
        Zone z = at(zones, zone);
        if (z == null) return BAD;
        if (z.called == null) return NONE;
        for (int h = z.called; h <= z.called + 12 && h <= end; h++) {
            for (int t = 0; t < 3; t++) {
                if (isLikely[t] && told(t, h, z.called, false) > z.height) return 1;
            }
        }
        return 0;
    }

    int pass(int n) {
        if (!in(n, 1, 60)) return BAD;
        if (now + n > end) return FULL;
        for (int i = 0; i < n; i++) hour();
        return now;
    }

    private void hour() {
        for (Zone z : zones) {
            if (z.called != null && z.called <= now && !isWet(z) && rule(z, true) == 0) {
                int heed = rule(z, false);
                int go = (int) ((long) z.home * (heed < 0 ? 0 : heed > 100 ? 100 : heed) / 100);
                z.home -= go;
                z.way += go;
            }
        }
        Map<Road, Integer> took = new HashMap<>();
        for (Road r : roads) {
            if (r.from.road != r) continue;
            int n = Math.min(takes(r), r.from.way);
            if (in(r.to, 10, 12)) {
                int room = shelterTold(r.to - 10, 0);
                for (Map.Entry<Road, Integer> e : took.entrySet()) if (e.getKey().to == r.to) room -= e.getValue();
                n = Math.min(n, room);
            }
            took.put(r, n);
        }
        for (Map.Entry<Road, Integer> e : took.entrySet()) {
            int to = e.getKey().to;
            e.getKey().from.way -= e.getValue();
            if (to == 20) out += e.getValue();
            else if (to >= 10) shelters.get(to - 10).in += e.getValue();
            else zones.get(to).way += e.getValue();
        }
        for (Bus b : buses) {
            if (b.over == null && !isWet(b.zone) && rule(b.zone, true) == 0) {
                int n = Math.min(b.seats, Math.min(b.zone.ill, shelterTold(shelters.indexOf(b.shelter), 0)));
                if (n > 0) {
                    b.zone.ill -= n;
                    b.in = n;
                    b.over = now + b.trip;
                }
            }
        }
        now++;
        for (Bus b : buses) {
            if (b.over != null && b.over == now) {
                b.shelter.in += b.in;
                b.in = 0;
                b.over = null;
            }
        }
    }

    int inWater() {
        int sum = 0;
        for (Zone z : zones) if (isWet(z)) sum += z.home + z.way + z.ill;
        return sum;
    }

    /** A whole other city in the same state. */
    private Model twin() {
        Model m = new Model();
        for (Zone z : zones) {
            m.zone(z.height, 0, 0);
            Zone o = m.zones.get(z.number);
            o.home = z.home;
            o.way = z.way;
            o.ill = z.ill;
            o.called = z.called;
        }
        for (Shelter s : shelters) {
            m.shelter(s.room);
            m.shelters.get(m.shelters.size() - 1).in = s.in;
        }
        for (Road r : roads) {
            m.road(r.kind, r.from.number, r.to, r.flow);
            m.roads.get(r.number).turned = r.turned;
        }
        for (Zone z : zones) if (z.road != null) m.use(z.road.number);
        for (Bus b : buses) {
            m.bus(b.zone.number, shelters.indexOf(b.shelter), b.seats, b.trip);
            Bus o = m.buses.get(m.buses.size() - 1);
            o.in = b.in;
            o.over = b.over;
        }
        m.news = news;
        m.texts = texts;
        m.rule = rule;
        m.now = now;
        m.end = end;
        m.out = out;
        return m;
    }

    private long foreseen(int track, Map<Integer, Integer> calls) {
        Model m = twin();
        m.truth = track;
        for (Map.Entry<Integer, Integer> e : calls.entrySet()) {
            Zone z = m.zones.get(e.getKey());
            if (z.called == null) z.called = now + e.getValue();
        }
        while (m.now < end) m.hour();
        return m.inWater();
    }

    long foresee(int track, long calls) {
        if (!in(track, 0, 2) || calls < 0) return NO;
        String digits = String.format("%020d", calls);
        Map<Integer, Integer> told = new TreeMap<>();
        for (int z = 0; z < 10; z++) {
            int d = Integer.parseInt(digits.substring(18 - 2 * z, 20 - 2 * z));
            if (z >= zones.size()) {
                if (d != 0) return NO;
            } else if (zones.get(z).called == null && d != 99) {
                if (now + d > end) return NO;
                told.put(z, d);
            }
        }
        return foreseen(track, told);
    }

    long best(int bits) {
        List<Integer> sought = new ArrayList<>();
        for (int z = 0; z < 32; z++) {
            if ((bits >>> z & 1) == 0) continue;
            if (z >= zones.size() || zones.get(z).called != null) return NO;
            sought.add(z);
        }
        if (sought.size() > 4) return NO;
        long least = Long.MAX_VALUE;
        String leastRank = "";
        Map<Integer, Integer> leastCalls = null;
        for (int way = 0; way < Math.pow(4, sought.size()); way++) {
            Map<Integer, Integer> calls = new TreeMap<>();
            String rank = "";
            boolean isLate = false;
            for (int i = 0, rest = way; i < sought.size(); i++, rest /= 4) {
                int d = rest % 4 * 4;
                rank += rest % 4;
                if (d < 12) {
                    calls.put(sought.get(i), d);
                    isLate |= now + d > end;
                }
            }
            if (isLate) continue;
            rank = calls.size() + rank;
            long worst = 0;
            for (int t = 0; t < 3; t++) if (isLikely[t]) worst = Math.max(worst, foreseen(t, calls));
            if (worst < least || worst == least && rank.compareTo(leastRank) < 0) {
                least = worst;
                leastRank = rank;
                leastCalls = calls;
            }
        }
        bestCalls = leastCalls;
        return least;
    }

    int bestCall(int zone) {
        return bestCalls.getOrDefault(zone, NONE);
    }

    int count(int what) {
        if (!in(what, 0, 15)) return BAD;
        int home = 0, way = 0, ill = 0, riding = 0, sheltered = 0;
        for (Zone z : zones) {
            home += z.home;
            way += z.way;
            ill += z.ill;
        }
        for (Bus b : buses) riding += b.in;
        for (Shelter s : shelters) sheltered += s.in;
        int[] counts = {now, zones.size(), shelters.size(), roads.size(), buses.size(), news.size(), end, home, way, ill,
            riding, sheltered, out, texts.size(), tape.length(), rule};
        return counts[what];
    }

    int sheet(int sheet, int sort, int n) {
        if (!in(sheet, 0, 3) || !in(sort, -1, 2) || sort >= 0 && n > 40) return BAD;
        if (sort >= 0 && n < 0) return -14;
        sheets[sheet] = sort < 0 ? null : new long[n];
        sorts[sheet] = sort;
        return 1;
    }

    int cell(int sheet, int i, int v) {
        if (!in(sheet, 0, 3)) return BAD;
        if (sheets[sheet] == null) return -11;
        if (!in(i, 0, sheets[sheet].length - 1)) return -12;
        sheets[sheet][i] = sorts[sheet] == 0 ? v & 0xff : sorts[sheet] == 1 ? v & 0xffff : v;
        return 1;
    }

    int copy(int sheet, int i, int other, int j, int n) {
        if (!in(sheet, 0, 3) || !in(other, 0, 3)) return BAD;
        if (sheets[sheet] == null || sheets[other] == null) return -11;
        if (sorts[sheet] != sorts[other]) return -13;
        if (n < 0 || i < 0 || j < 0 || (long) i + n > sheets[sheet].length || (long) j + n > sheets[other].length) return -12;
        long[] were = sheets[sheet].clone();
        for (int k = 0; k < n; k++) sheets[other][j + k] = were[i + k];
        return n;
    }

    int newsRow(int track, int sheet, int sort, int from, int n) {
        if (!in(track, 0, 2) || !in(sheet, 0, 3) || !in(sort, 0, 2) || !in(n, 0, 10)) return BAD;
        if (sheets[sheet] != null && sorts[sheet] != sort) return -13;
        if (sheets[sheet] == null) return -11;
        int came = 0;
        for (int k = 0; k < n; k++) {
            int[] four = new int[4];
            for (int q = 0; q < 4; q++) {
                long place = (long) from + 4 * k + q;
                if (!in(place, 0, sheets[sheet].length - 1)) return -12;
                four[q] = (int) sheets[sheet][(int) place];
            }
            if (news(track, four[0], four[1], four[2], four[3]) >= 0) came++;
        }
        return came;
    }

    int taken(int road, int k) {
        if (!in(k, 0, 5)) return BAD;
        Road r = at(roads, road);
        if (r == null) return -11;
        boolean is = k == 0 || k == r.kind || k == 1 && r.kind == 3 || k == 2 && r.kind == 4;
        return is ? r.flow : -13;
    }

    /** Splits a text into tokens first, then goes by the grammar; a fault is an exception here. */
    private static final class Parser {
        private static final class Fault extends RuntimeException {
            final int place;

            Fault(int place) {
                this.place = place;
            }
        }

        final List<String> tokens = new ArrayList<>();
        final List<Integer> places = new ArrayList<>();
        final int size;
        int at;

        Parser(String text) {
            size = text.length();
            java.util.regex.Matcher m = java.util.regex.Pattern
                .compile("[ \n]+|[a-z]+|[0-9]+|.", java.util.regex.Pattern.DOTALL).matcher(text);
            while (m.find()) {
                if (m.group().charAt(0) != ' ' && m.group().charAt(0) != '\n') {
                    tokens.add(m.group());
                    places.add(m.start());
                }
            }
            tokens.add("");
            places.add(size);
        }

        Object parse() {
            try {
                eat("heed");
                Node heed = e(0);
                eat(";");
                eat("stop");
                Node stop = e(0);
                eat(";");
                eat("");
                return new Text(heed, stop);
            } catch (Fault f) {
                return f.place;
            }
        }

        private boolean is(String token) {
            return tokens.get(at).equals(token);
        }

        private void eat(String token) {
            if (!is(token)) throw new Fault(places.get(at));
            at++;
        }

        private int deeper(int open) {
            if (open == 5) throw new Fault(places.get(at));
            at++;
            return open + 1;
        }

        private Node e(int open) {
            Node left = and(open);
            while (is("or")) {
                at++;
                Node a = left, b = and(open);
                left = n -> a.worth(n) != 0 | b.worth(n) != 0 ? 1 : 0;
            }
            return left;
        }

        private Node and(int open) {
            Node left = not(open);
            while (is("and")) {
                at++;
                Node a = left, b = not(open);
                left = n -> a.worth(n) != 0 & b.worth(n) != 0 ? 1 : 0;
            }
            return left;
        }

        private Node not(int open) {
            if (is("not")) {
                Node a = not(deeper(open));
                return n -> a.worth(n) == 0 ? 1 : 0;
            }
            Node a = sum(open);
            if (is("<")) {
                at++;
                Node b = sum(open);
                return n -> a.worth(n) < b.worth(n) ? 1 : 0;
            }
            if (is("=")) {
                at++;
                Node b = sum(open);
                return n -> a.worth(n) == b.worth(n) ? 1 : 0;
            }
            return a;
        }

        private Node sum(int open) {
            Node left = term(open);
            while (is("+") || is("-")) {
                boolean isPlus = is("+");
                at++;
                Node a = left, b = term(open);
                left = n -> isPlus ? a.worth(n) + b.worth(n) : a.worth(n) - b.worth(n);
            }
            return left;
        }

        private Node term(int open) {
            Node left = one(open);
            while (is("*")) {
                at++;
                Node a = left, b = one(open);
                left = n -> a.worth(n) * b.worth(n);
            }
            return left;
        }

        private Node one(int open) {
            String token = tokens.get(at);
            if (token.matches("[0-9]{1,4}")) {
                at++;
                int value = Integer.parseInt(token);
                return n -> value;
            }
            if (List.of("since", "height", "wind", "left", "crowd", "zone").contains(token)) {
                at++;
                return n -> n.get(token);
            }
            if (token.equals("-")) {
                Node a = one(deeper(open));
                return n -> -a.worth(n);
            }
            if (!token.equals("(")) throw new Fault(places.get(at));
            Node inside = e(deeper(open));
            eat(")");
            return inside;
        }
    }
}
