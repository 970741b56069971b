import java.nio.charset.StandardCharsets;
import java.util.ArrayList;
import java.util.List;

/**
 * Tests one sentence of the document after another. The calls that make an object are kept: to see
 * whether a refused call changes something, two objects are made by the same calls, one gets the
 * refused call too, and all that can be seen of both must be alike.
 */
abstract class Bench {
    static final int RUN = 0, ROPE = 1, CARRY = 2, HALF = 3, EASED = 4, TRACK = 5;
    static final int FALL = 0, ROCKS = 1, BANK = 2, LOOKED = 3, WATER = 4, DEEP = 5, BOATS = 6, LOAD = 7, SNOW = 8;
    static final int BYTES = 0, SHORTS = 1, INTS = 2;
    static final long FAR = Integer.MAX_VALUE, DEEPEST = Integer.MIN_VALUE;
    static final long NONE = -1, BAD = -2, STATE = -3, FULL = -4, NO = -4611686018427387904L;
    static final long NOTHING = -11, OUTSIDE = -12, OTHER_SORT = -13, BELOW_ZERO = -14;
    static final long ALL = 1000000000L;
    private static final int MOST_CALLS = 512;

    final Checks checks;
    private final Document document;
    private final List<Call> steps = new ArrayList<>();
    private RiverDown x = new RiverDown();
    private int calls = 0;
    /** What is seen of an object made by the steps; null: a step came since. */
    private String seen = null;

    Bench(Checks checks, Document document) {
        this.checks = checks;
        this.document = document;
    }

    abstract void all();

    /** What follows, on a new object, tests these words of a section. */
    void sentence(String section, String words) {
        checks.begin(section + ", '" + words + "'");
        if (document != null) {
            checks.due("these words stand in that section", document.quote(section, words), 1);
        }
        fresh();
    }

    void fresh() {
        x = new RiverDown();
        steps.clear();
        calls = 0;
        seen = null;
    }

    private long asked(Call call) {
        calls++;
        checks.holds("the test keeps to " + MOST_CALLS + " calls", calls <= MOST_CALLS);
        return call.on(x);
    }

    long does(String name, long... args) {
        Call call = new Call(name, args);
        steps.add(call);
        seen = null;
        return asked(call);
    }

    void answers(long due, String name, long... args) {
        checks.due(new Call(name, args).toString(), does(name, args), due);
    }

    /** A call that answers what is due and changes nothing. */
    void refuses(long due, String name, long... args) {
        Call call = new Call(name, args);
        checks.due(call.toString(), asked(call), due);
        if (seen == null) {
            seen = Probe.of(steps);
        }
        List<Call> more = new ArrayList<>(steps);
        more.add(call);
        String then = Probe.of(more);
        if (!then.equals(seen)) {
            checks.holds(call + " changes nothing: " + seen + "\n->" + then, false);
        }
    }

    /** The call with each of the numbers in the place of one argument. */
    void refusesEach(long due, int argument, long[] numbers, String name, long... args) {
        for (long number : numbers) {
            long[] changed = args.clone();
            changed[argument] = number;
            refuses(due, name, changed);
        }
    }

    /** The numbers next to the bounds, outside, and the farthest ones. */
    static long[] outside(long least, long most) {
        return new long[] {least - 1, most + 1, FAR, DEEPEST};
    }

    void feeds(String s) {
        byte[] bytes = s.getBytes(StandardCharsets.ISO_8859_1);
        for (int at = 0; at < bytes.length; at += 8) {
            int n = Math.min(8, bytes.length - at);
            long number = 0;
            for (int i = n - 1; i >= 0; i--) {
                number = number << 8 | bytes[at + i] & 255;
            }
            does("feed", n, number);
        }
    }

    /** A text becomes the rule. */
    void rule(String s) {
        feeds(s);
        long text = does("text");
        checks.holds("the text stands: " + s, text > 0);
        does("force", text);
    }

    /** A way on a sheet of ints. */
    void way(int sheet, long... doings) {
        does("sheet", sheet, INTS, doings.length);
        for (int i = 0; i < doings.length; i++) {
            does("cell", sheet, i, doings[i]);
        }
    }

    void places(int n, int what) {
        for (int i = 0; i < n; i++) {
            does("place", what);
        }
    }

    /** One doing of each kind, with its kind as its number among doings. */
    void doingOfEachKind(int number) {
        for (int kind = RUN; kind <= TRACK; kind++) {
            does("doing", kind, number);
        }
    }
}
