import java.util.List;

/**
 * All that can be seen of an object. To see some of it changes the object, so each look is at one
 * that is made anew by the same calls.
 */
final class Probe {
    private static final int MOST_CALLS = 512;

    private final List<Call> steps;
    private final StringBuilder seen = new StringBuilder();
    private RiverDown x = new RiverDown();
    private int calls = 0;

    private Probe(List<Call> steps) {
        this.steps = steps;
    }

    static String of(List<Call> steps) {
        Probe probe = new Probe(steps);
        probe.numbers();
        probe.doings();
        probe.texts();
        for (int sheet = 0; sheet < 4; sheet++) {
            probe.sheet(sheet);
            probe.itemsAsDoings(sheet);
            probe.itemsAsPlaces(sheet);
        }
        probe.tape();
        probe.image();
        return probe.seen.toString();
    }

    private void anew(String part) {
        x = new RiverDown();
        calls = 0;
        for (Call step : steps) {
            step.on(x);
        }
        calls = steps.size();
        seen.append("\n").append(part);
    }

    private long asked(String name, long... args) {
        calls++;
        if (calls > MOST_CALLS) {
            throw new IllegalStateException("more calls than the document allows");
        }
        return new Call(name, args).on(x);
    }

    private void see(String name, long... args) {
        seen.append(' ').append(asked(name, args));
    }

    private void numbers() {
        anew("numbers");
        seeNumbers();
    }

    private void seeNumbers() {
        for (int what = 0; what < 10; what++) {
            see("count", what);
        }
        see("worth");
        see("last");
        see("worst");
        long places = asked("count", 0);
        for (int place = 0; place < places; place++) {
            for (int what = 0; what < 4; what++) {
                see("set", what, place, 0);
            }
        }
    }

    private void doings() {
        anew("doings");
        for (int doing = 0; doing < 8; doing++) {
            for (int k = 0; k < 6; k++) {
                see("taken", doing, k);
            }
        }
    }

    /** What each text says of a run at the first place. */
    private void texts() {
        anew("texts");
        asked("place", 0);
        long run = asked("doing", 0, 0);
        asked("set", 0, 0, 3);
        asked("set", 1, 0, 2);
        for (int text = 0; text < 6; text++) {
            see("force", text);
            see("worth");
            see("told", run < 0 ? 0 : run, 0, 2);
            see("told", run < 0 ? 0 : run, 0, 3);
        }
    }

    private void sheet(int sheet) {
        anew("sheet " + sheet);
        for (int sort = 0; sort < 3; sort++) {
            see("places", sheet, sort, 0, 0);
        }
        for (int i = -1; i <= 41; i++) {
            see("cell", sheet, i, 0);
        }
    }

    private long sortOf(int sheet) {
        for (int sort = 0; sort < 3; sort++) {
            if (asked("places", sheet, sort, 0, 0) == 0) {
                return sort;
            }
        }
        return -1;
    }

    /** Each item in turn tells the first place's doing; what that takes is seen. */
    private void itemsAsDoings(int sheet) {
        anew("items as doings");
        long sort = sortOf(sheet);
        if (sort < 0) {
            return;
        }
        asked("place", 1);
        int[][] takingApart = {{0, 0}, {1, 0}, {3, 4}, {3, 8}, {2, 0}};
        for (int[] doing : takingApart) {
            asked("doing", doing[0], doing[1]);
        }
        int other = (sheet + 1) % 4;
        asked("sheet", other, sort, asked("count", 0));
        for (int i = 0; i < 40 && asked("copy", sheet, i, other, 0, 1) == 1; i++) {
            see("takes", other, 0);
        }
    }

    /** Each item in turn is a place that comes, as long as there is room. */
    private void itemsAsPlaces(int sheet) {
        anew("items as places");
        long sort = sortOf(sheet);
        long room = 12 - asked("count", 0);
        for (int i = 0; i < 40 && sort >= 0 && i < room; i++) {
            see("places", sheet, sort, i, 1);
        }
        for (int place = 0; place < 12; place++) {
            for (int what = 0; what < 3; what++) {
                see("set", what, place, 0);
            }
        }
    }

    private void tape() {
        anew("tape");
        see("text");
        see("count", 3);
        see("force", asked("count", 2) - 1);
        see("worth");
    }

    private void image() {
        anew("image");
        see("back");
        seeNumbers();
    }
}
