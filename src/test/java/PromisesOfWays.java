/** The sentences of the promises 10 to 15. */
final class PromisesOfWays extends Bench {
    PromisesOfWays(Checks checks, Document document) {
        super(checks, document);
    }

    @Override
    void all() {
        parts();
        mean();
        takes();
        takesRefused();
        odds();
        drawn();
        judge();
        judgeRefused();
    }

    /** Two places, two boats; at the first 50 of 100 are lost by a run, at the second 10. */
    private void twoPlaces() {
        does("place", 1);
        does("place", 101);
        does("doing", RUN, 0);
        does("doing", CARRY, 0);
        does("set", BOATS, 0, 2);
        rule("risk 50-40*fall;wet 0;worth 100;");
        way(0, 0, 0);
    }

    /** Sheets that are none, a missing one, sizes next to the right one, numbers next to doings. */
    private void refusesSheets(long bad, long missing, String name, long... more) {
        long[] args = new long[more.length + 1];
        System.arraycopy(more, 0, args, 1, more.length);
        refusesEach(bad, 0, outside(0, 3), name, args);
        args[0] = 1;
        refuses(missing, name, args);
        for (int size : new int[] {0, 1, 3, 40}) {
            does("sheet", 1, BYTES, size);
            refuses(bad, name, args);
        }
        does("sheet", 1, BYTES, 2);
        checks.holds(name + " of a sheet of the right size", does(name, args) >= -1);
        does("sheet", 1, -1, 0);
        refuses(missing, name, args);
    }

    private void refusesNumbers(long bad, String name, long... more) {
        long[] args = new long[more.length + 1];
        System.arraycopy(more, 0, args, 1, more.length);
        args[0] = 2;
        for (int place = 0; place <= 1; place++) {
            for (long number : outside(0, 1)) {
                way(2, 0, 0);
                does("cell", 2, place, number);
                refuses(bad, name, args);
            }
        }
        way(2, 1, 1);
        checks.holds(name + " of the greatest number", does(name, args) >= -1);
    }

    private void parts() {
        sentence("Promise 10", "PARTS with b boats behind a PLACE.");
        twoPlaces();
        long[] first = {250000000, 500000000, 250000000, 0, 0, 0, 0};
        long[] second = {302500000, 495000000, 202500000, 0, 0, 0, 0};
        for (int b = 0; b <= 6; b++) {
            refuses(first[b], "parts", 0, 0, b);
            refuses(second[b], "parts", 0, 1, b);
        }
        sentence("Promise 10", "NO: SHEET (missing, too), its size,");
        twoPlaces();
        refusesSheets(NO, NO, "parts", 0, 0);
        sentence("Promise 10", "a number that is no DOING;");
        twoPlaces();
        refusesNumbers(NO, "parts", 0, 0);
        sentence("Promise 10", "PLACE, b (0 .. 6).");
        refuses(NO, "parts", 0, 0, 0);
        does("sheet", 0, BYTES, 0);
        refuses(NO, "parts", 0, 0, 0);
        twoPlaces();
        refusesEach(NO, 1, outside(0, 1), "parts", 0, 0, 0);
        refusesEach(NO, 2, outside(0, 6), "parts", 0, 0, 0);
        does("set", BOATS, 0, 6);
        answers(15625000, "parts", 0, 0, 6);
        answers(15625000, "parts", 0, 0, 0);
    }

    private void mean() {
        sentence("Promise 11", "MEAN.");
        twoPlaces();
        refuses(90, "mean", 0);
        sentence("Promise 11", "NO as of parts().");
        twoPlaces();
        refusesSheets(NO, NO, "mean");
        refusesNumbers(NO, "mean");
    }

    private void takes() {
        sentence("Promise 12", "IT TAKES (what 0), TOO LONG (1; NONE).");
        twoPlaces();
        way(0, 0, 1);
        refuses(4, "takes", 0, 0);
        refuses(NONE, "takes", 0, 1);
        does("set", SNOW, 0, 4);
        answers(NONE, "takes", 0, 1);
        does("set", SNOW, 0, 3);
        answers(1, "takes", 0, 1);
        answers(4, "takes", 0, 0);
        way(0, 1, 1);
        answers(0, "takes", 0, 1);
        answers(8, "takes", 0, 0);
    }

    private void takesRefused() {
        sentence("Promise 12", "BAD: SHEET, what;");
        twoPlaces();
        refusesEach(BAD, 0, outside(0, 3), "takes", 0, 0);
        refusesEach(BAD, 0, outside(0, 3), "takes", 0, 1);
        refusesEach(BAD, 1, outside(0, 1), "takes", 0, 0);
        refusesEach(BAD, 1, outside(0, 1), "takes", 1, 0);
        refuses(BAD, "takes", 4, 2);
        sentence("Promise 12", "-11;");
        twoPlaces();
        refuses(NOTHING, "takes", 1, 0);
        refuses(NOTHING, "takes", 1, 1);
        fresh();
        refuses(NOTHING, "takes", 0, 0);
        sentence("Promise 12", "BAD: its size, a number.");
        for (int what = 0; what <= 1; what++) {
            fresh();
            twoPlaces();
            refusesSheets(BAD, NOTHING, "takes", what);
            fresh();
            twoPlaces();
            refusesNumbers(BAD, "takes", what);
        }
    }

    private void odds() {
        sentence("Promise 13", "ODDS (k 0 .. 7).");
        twoPlaces();
        long[] due = {ALL, 697500000, 202500000, 0, 0, 0, 0, 0};
        for (int k = 0; k <= 7; k++) {
            refuses(due[k], "odds", 0, k);
        }
        sentence("Promise 13", "NO as of parts(), k.");
        twoPlaces();
        refusesEach(NO, 1, outside(0, 7), "odds", 0, 0);
        refusesSheets(NO, NO, "odds", 7);
        refusesNumbers(NO, "odds", 0);
    }

    /** Drawn by 0: 48, 38; by -1: 57, 28, 79; by the greatest seed 49, 36; by the least 56, 30, 67. */
    private void drawn() {
        sentence("Promise 14", "DRAWN.");
        twoPlaces();
        refuses(0, "drawn", 0, 0);
        refuses(1, "drawn", 0, -1);
        refuses(0, "drawn", 0, FAR);
        refuses(1, "drawn", 0, DEEPEST);
        sentence("Promise 14", "BAD: SHEET; -11; BAD: its size, a number.");
        twoPlaces();
        refusesSheets(BAD, NOTHING, "drawn", 0);
        fresh();
        twoPlaces();
        refusesNumbers(BAD, "drawn", 0);
        fresh();
        refuses(NOTHING, "drawn", 0, 0);
    }

    private void judge() {
        sentence("Promise 15", "JUDGED.");
        twoPlaces();
        refuses(NONE, "judge", 0);
        for (long number : outside(0, 1)) {
            way(0, number, 0);
            refuses(0, "judge", 0);
            way(0, 1, number);
            refuses(1, "judge", 0);
        }
        way(0, 1, 1);
        answers(NONE, "judge", 0);
        does("set", BANK, 1, 0);
        answers(1, "judge", 0);
        does("set", BANK, 0, 0);
        answers(0, "judge", 0);
    }

    private void judgeRefused() {
        sentence("Promise 15", "BAD: SHEET; -11; BAD: its size; NONE.");
        twoPlaces();
        refusesSheets(BAD, NOTHING, "judge");
        way(2, 9, 9, 9);
        refuses(BAD, "judge", 2);
        way(2, 9);
        refuses(BAD, "judge", 2);
        way(2, 0, 1);
        answers(NONE, "judge", 2);
        fresh();
        refuses(NOTHING, "judge", 0);
        does("sheet", 0, INTS, 0);
        answers(NONE, "judge", 0);
        does("sheet", 0, INTS, 1);
        refuses(BAD, "judge", 0);
    }
}
