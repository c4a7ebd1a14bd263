import java.util.ArrayList;
import java.util.List;

/**
 * Holds sentences of the document by runs of written calls (see Call), each on a new object: on FloodCity, and on
 * Model, so that the second writing is held as well. Behind every refusal, and behind what only looks ahead, all that
 * can be seen (see Sight) is as it is without that call.
 */
final class Edges {
    private final Due due;
    private final Document document;

    Edges(Due due) throws java.io.IOException {
        this.due = due;
        document = new Document(due);
    }

    /** The words of a promise or a term hold if all runs answer as is due. */
    void hold(String where, String words, String... runs) throws ReflectiveOperationException {
        document.hold(where, words);
        String held = where + " \"" + words + "\", ";
        for (String run : runs) {
            List<Call> calls = Call.read(run);
            due.holds(held + "at most 512 calls", calls.size() <= Sight.MOST_CALLS);
            answer(held, calls, new FloodCity());
            answer(held + "Model, ", calls, new Model());
            for (int i = 0; i < calls.size() && i < Sight.MOST_CALLS - Sight.MOST_TO_SEE; i++) {
                boolean isAhead = calls.get(i).name().equals("foresee") || calls.get(i).name().equals("best");
                if (calls.get(i).isRefused() || isAhead) {
                    List<Call> ahead = calls.subList(0, i);
                    int sides = calls.get(i).isOfHost() ? Sight.WITHOUT_HOURS : Sight.WITHOUT_SHEETS;
                    changesNothing(held, ahead, calls.get(i), sidesOf(ahead, sides, calls.get(i)));
                }
            }
        }
    }

    /** The words hold if each of some calls answers as is due and changes nothing, each in a city of its own. */
    void holdUnchanged(String where, String words, String city, String calls) throws ReflectiveOperationException {
        document.hold(where, words);
        String held = where + " \"" + words + "\", ";
        List<Call> ahead = Call.read(city);
        answer(held, ahead, new FloodCity());
        List<List<Long>> sides = sidesOf(ahead, Sight.SIDES, null);
        for (Call call : Call.read(calls)) {
            answer(held, List.of(call), after(ahead, new FloodCity()));
            answer(held + "Model, ", List.of(call), after(ahead, new Model()));
            changesNothing(held, ahead, call, sides);
        }
    }

    void end() {
        document.end();
    }

    /** The same row for the numbers from one to another, which stand where @ stands. */
    static String rows(int from, int to, String row) {
        StringBuilder rows = new StringBuilder();
        for (int i = from; i <= to; i++) {
            rows.append(row.replace("@", "" + i)).append('\n');
        }
        return rows.toString();
    }

    private void answer(String held, List<Call> calls, Object city) throws ReflectiveOperationException {
        for (int i = 0; i < calls.size(); i++) {
            Call call = calls.get(i);
            long answer = call.on(city);
            long want = call.want() == null ? Math.max(answer, FloodCity.NONE) : call.want();
            due.is(held + "call " + (i + 1) + ", " + call, answer, want);
        }
    }

    private static <T> T after(List<Call> calls, T city) throws ReflectiveOperationException {
        for (Call call : calls) {
            call.on(city);
        }
        return city;
    }

    /** The sides of a city behind some calls, as they are to be seen behind another one, too. */
    private static List<List<Long>> sidesOf(List<Call> calls, int many, Call other)
            throws ReflectiveOperationException {
        List<List<Long>> sides = new ArrayList<>();
        for (int side = 0; side < many; side++) {
            sides.add(Sight.of(after(calls, new FloodCity()), side, calls.size() + 1, isBest(other)));
        }
        return sides;
    }

    private static boolean isBest(Call call) {
        return call != null && call.name().equals("best") && !call.isRefused();
    }

    private void changesNothing(String held, List<Call> ahead, Call call, List<List<Long>> sides)
            throws ReflectiveOperationException {
        for (int side = 0; side < sides.size(); side++) {
            FloodCity city = after(ahead, new FloodCity());
            call.on(city);
            List<Long> seen = Sight.of(city, side, ahead.size() + 1, isBest(call));
            due.holds(held + call + " changes nothing (side " + side + ")", seen.equals(sides.get(side)));
        }
    }
}
