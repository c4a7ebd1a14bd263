import java.lang.reflect.Method;
import java.nio.charset.StandardCharsets;
import java.util.ArrayList;
import java.util.HashMap;
import java.util.List;
import java.util.Map;
import java.util.Set;
import java.util.regex.Matcher;
import java.util.regex.Pattern;

/**
 * One written call with the answer that is due (null: any but a refusal). How calls are written: a line is one call or
 * some with | between; "zone(5, 10, 0) = 0"; numbers may be MIN, MAX (int), LMIN, LMAX (long), answers NONE, BAD,
 * STATE, FULL, NO. text "heed 1; stop 0;" = 1 feeds all bytes and takes the text (%0A is byte 10); feed "..." feeds
 * alone; fault "heed ^+ 1;" is a text whose fault is due where ^ stands (which is no byte of it). # begins a remark.
 */
record Call(String name, long[] args, Long want, boolean isRefused) {
    private static final Pattern PLAIN = Pattern.compile("(\\w+)\\(([^)]*)\\)(?: = (-?\\w+))?");
    private static final Pattern TEXT = Pattern.compile("(text|feed|fault) \"([^\"]*)\"(?: = (-?\\w+))?");
    private static final Set<String> REFUSALS = Set.of("BAD", "STATE", "FULL", "NO");
    private static final Set<String> OF_HOST = Set.of("sheet", "cell", "copy", "newsRow", "taken");
    private static final Map<String, Long> NAMED = Map.of("NONE", -1L, "BAD", -2L, "STATE", -3L, "FULL", -4L,
        "NO", -4611686018427387904L, "MIN", (long) Integer.MIN_VALUE, "MAX", (long) Integer.MAX_VALUE,
        "LMIN", Long.MIN_VALUE, "LMAX", Long.MAX_VALUE);
    private static final Map<Class<?>, Map<String, Method>> METHODS = new HashMap<>();

    static List<Call> read(String run) {
        List<Call> calls = new ArrayList<>();
        for (String line : run.split("\n")) {
            if (!line.trim().startsWith("#")) {
                for (String call : line.split("\\|")) {
                    if (!call.isBlank()) {
                        readOne(call.trim(), calls);
                    }
                }
            }
        }
        return calls;
    }

    private static void readOne(String call, List<Call> calls) {
        Matcher plain = PLAIN.matcher(call);
        Matcher text = TEXT.matcher(call);
        if (plain.matches()) {
            String[] words = plain.group(2).isBlank() ? new String[0] : plain.group(2).trim().split(", *");
            long[] args = new long[words.length];
            for (int i = 0; i < args.length; i++) {
                args[i] = number(words[i]);
            }
            calls.add(of(plain.group(1), args, plain.group(3)));
        } else if (text.matches()) {
            readText(text.group(1), text.group(2), text.group(3), calls);
        } else {
            throw new IllegalArgumentException("no call: " + call);
        }
    }

    private static void readText(String how, String written, String answer, List<Call> calls) {
        byte[] bytes = bytes(written.replace("^", ""));
        for (int i = 0; i < bytes.length; i += 8) {
            int n = Math.min(8, bytes.length - i);
            // Bytes above the n lowest are no part of a feed: here they are all ones.
            long packed = n == 8 ? 0 : -1L << 8 * n;
            for (int k = 0; k < n; k++) {
                packed |= (bytes[i + k] & 255L) << 8 * k;
            }
            boolean isLast = how.equals("feed") && i + n == bytes.length;
            calls.add(of("feed", new long[] {n, packed}, isLast ? answer : null));
        }
        if (how.equals("text")) {
            calls.add(of("text", new long[0], answer));
        } else if (how.equals("fault")) {
            int place = bytes(written.substring(0, written.indexOf('^'))).length;
            calls.add(of("text", new long[0], "" + (-100 - place)));
        }
    }

    private static byte[] bytes(String written) {
        StringBuilder text = new StringBuilder();
        for (int i = 0; i < written.length(); i++) {
            boolean isByNumber = written.charAt(i) == '%';
            text.append(isByNumber ? (char) Integer.parseInt(written.substring(i + 1, i + 3), 16) : written.charAt(i));
            i += isByNumber ? 2 : 0;
        }
        return text.toString().getBytes(StandardCharsets.ISO_8859_1);
    }

    private static long number(String word) {
        return NAMED.containsKey(word) ? NAMED.get(word) : Long.parseLong(word);
    }

    private static Call of(String name, long[] args, String answer) {
        Long want = answer == null ? null : (Long) number(answer);
        // newsRow's -12 may come behind news that came.
        boolean isHostsRefusal = want != null && OF_HOST.contains(name) && want <= -11 && !(name.equals("newsRow") && want == -12);
        boolean isRefused = answer != null && REFUSALS.contains(answer) || isHostsRefusal;
        return new Call(name, args, want, isRefused);
    }

    /** What the call answers on a FloodCity or a Model. */
    long on(Object city) throws ReflectiveOperationException {
        Method method = METHODS.computeIfAbsent(city.getClass(), Call::methods).get(name);
        if (method == null || method.getParameterCount() != args.length) {
            throw new IllegalArgumentException("no such call: " + this);
        }
        Object[] given = new Object[args.length];
        for (int i = 0; i < given.length; i++) {
            if (method.getParameterTypes()[i] == int.class) {
                given[i] = Math.toIntExact(args[i]);
            } else {
                given[i] = args[i];
            }
        }
        return ((Number) method.invoke(city, given)).longValue();
    }

    private static Map<String, Method> methods(Class<?> type) {
        Map<String, Method> methods = new HashMap<>();
        for (Method face : FloodCity.class.getDeclaredMethods()) {
            for (Method method : type.getDeclaredMethods()) {
                boolean isSame = method.getName().equals(face.getName())
                    && java.util.Arrays.equals(method.getParameterTypes(), face.getParameterTypes());
                if (isSame && java.lang.reflect.Modifier.isPublic(face.getModifiers())) {
                    methods.put(method.getName(), method);
                }
            }
        }
        return methods;
    }

    boolean isOfHost() {
        return OF_HOST.contains(name);
    }

    @Override
    public String toString() {
        return name + java.util.Arrays.toString(args).replace('[', '(').replace(']', ')');
    }
}
