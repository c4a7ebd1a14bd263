import java.util.ArrayList;
import java.util.List;

/**
 * Holds sentences of the document by runs of written calls (see Call), each on a new object: on FloodCity, and on Model,
 * so that the second writing is held as well. Behind every refusal, and behind what only looks ahead, all that can be
 * seen is as it is without that call.
 */
final class Edges {
    private static final int MOST_CALLS = 512, VIEWS = 7, HOST_VIEW = 3;

    private final Due due;
    private final Document document;

    Edges(Due due) throws java.io.IOException {
        this.due = due;
        document = new Document(due);
    }

    /** The words of a promise or a term hold if all runs answer as is due. */
    void hold(String where, String words, String... runs) throws ReflectiveOperationException {
        document.hold(where, words);
        String held = where + " \"" + words + "\", ";
        for (String run : runs) {
            List<Call> calls = Call.read(run);
            go(held, calls, new FloodCity());
            go(held + "Model, ", calls, new Model());
            for (int i = 0; i < calls.size(); i++) {
                boolean isAhead = calls.get(i).name().equals("foresee") || calls.get(i).name().equals("best");
                if (calls.get(i).isRefused() || isAhead) {
                    changesNothing(held, calls.subList(0, i), calls.get(i));
                }
            }
        }
    }

    void end() {
        document.end();
    }

    /** The same row for the numbers from one to another, which stand where @ stands. */
    static String rows(int from, int to, String row) {
        StringBuilder rows = new StringBuilder();
        for (int i = from; i <= to; i++) {
            rows.append(row.replace("@", "" + i)).append('\n');
        }
        return rows.toString();
    }

    private void go(String held, List<Call> calls, Object city) throws ReflectiveOperationException {
        due.holds(held + "at most 512 calls", calls.size() <= MOST_CALLS);
        for (int i = 0; i < calls.size(); i++) {
            Call call = calls.get(i);
            long answer = call.on(city);
            if (!call.isAsDue(answer)) {
                due.is(held + "call " + (i + 1) + ", " + call, answer, call.want() == null ? 0 : call.want());
            } else {
                due.is(held, 0, 0);
            }
        }
    }

    private void changesNothing(String held, List<Call> ahead, Call call) throws ReflectiveOperationException {
        boolean isOfHost = call.name().equals("cell") || call.name().equals("copy") || call.name().equals("sheet");
        for (int view = 0; view < (isOfHost ? VIEWS : HOST_VIEW); view++) {
            FloodCity with = new FloodCity();
            FloodCity without = new FloodCity();
            for (Call c : ahead) {
                c.on(with);
                c.on(without);
            }
            call.on(with);
            int room = MOST_CALLS - ahead.size() - 1;
            boolean isBest = call.name().equals("best") && !call.isRefused();
            due.holds(held + call + " changes nothing (view " + view + ")",
                seen(with, view, room, isBest).equals(seen(without, view, room, isBest)));
        }
    }

    /** What calls answer that look at a city from one side; only as many as there is room for. */
    private static List<Long> seen(FloodCity c, int view, int room, boolean isBest) {
        List<Long> seen = new ArrayList<>();
        switch (view) {
            case 0: told(c, seen, isBest); break;
            case 1: tracks(c, seen, room); break;
            case 2: whatComes(c, seen); break;
            default: sheet(c, seen, view - HOST_VIEW); break;
        }
        return seen;
    }

    private static void told(FloodCity c, List<Long> seen, boolean isBest) {
        for (int what = 0; what < 16; what++) {
            seen.add((long) c.count(what));
        }
        seen.add((long) c.inWater());
        for (int z = 0; z < 6; z++) {
            for (int what = 0; what < 7; what++) {
                seen.add((long) c.zoneTold(z, what));
            }
            seen.add((long) c.good(z));
            seen.add(c.says(z, 0));
            seen.add(c.says(z, 1));
            seen.add(isBest ? 0L : c.bestCall(z));
        }
        for (int road = 0; road < 14; road++) {
            for (int what = 0; what < 6; what++) {
                seen.add((long) c.roadTold(road, what));
            }
        }
        for (int b = 0; b < 4; b++) {
            for (int what = 0; what < 3; what++) {
                seen.add((long) c.busTold(b, what));
            }
            seen.add((long) c.shelterTold(b, 0));
            seen.add((long) c.shelterTold(b, 1));
        }
    }

    private static void tracks(FloodCity c, List<Long> seen, int room) {
        int now = c.count(0);
        int step = 1 + 6 * 61 / Math.max(1, room - 1);
        for (int track = 0; track < 3; track++) {
            for (int hour = 60; hour >= 0; hour -= step) {
                seen.add((long) c.known(track, hour, now, 0));
                seen.add((long) c.known(track, hour, now, 1));
            }
        }
    }

    /** Settings are told by what changes them; then hours go by. */
    private static void whatComes(FloodCity c, List<Long> seen) {
        seen.add((long) c.text());
        long none = 0;
        for (int z = 0; z < c.count(1); z++) {
            none = none * 100 + 99;
        }
        for (int track = 0; track < 3; track++) {
            seen.add(c.foresee(track, 0));
            seen.add(c.foresee(track, none));
            int was = c.likely(track, 0);
            seen.add((long) was);
            c.likely(track, was);
        }
        int truth = c.truth(0);
        seen.add((long) truth);
        c.truth(truth);
        int rule = c.count(15);
        seen.add((long) c.force(rule));
        for (int turn = 0; turn < 5; turn++) {
            for (int z = 0; z < 6; z++) {
                seen.add((long) c.zoneTold(z, 1));
                seen.add((long) c.zoneTold(z, 2));
            }
            for (int what = 7; what < 13; what++) {
                seen.add((long) c.count(what));
            }
            seen.add((long) c.pass(turn + 1));
            c.end(60);
        }
    }

    /** A sheet's sort, how many items it has, and what the first ones are, as news that are brought by another sheet. */
    private static void sheet(FloodCity c, List<Long> seen, int sheet) {
        int its = -1;
        for (int sort = 0; sort < 3; sort++) {
            its = c.newsRow(0, sheet, sort, 0, 0) == 0 ? sort : its;
        }
        int size = 0;
        while (size <= 40 && c.copy(sheet, 0, sheet, 0, size + 1) >= 0) {
            size++;
        }
        seen.add((long) its);
        seen.add((long) size);
        int other = (sheet + 1) % 4;
        int now = c.count(0);
        c.sheet(other, its, 4);
        c.cell(other, 0, now);
        c.cell(other, 1, 61);
        for (int i = 0; i < size && i < 16; i++) {
            seen.add((long) c.copy(sheet, i, other, 2, 1));
            seen.add((long) c.newsRow(0, other, its, 0, 1));
            seen.add((long) c.known(0, 60, now, 0));
        }
    }
}
