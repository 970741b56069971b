/** The sentences of the promises 26 to 30. */
final class PromisesOfHost extends Bench {
    PromisesOfHost(Checks checks, Document document) {
        super(checks, document);
    }

    @Override
    void all() {
        sheet();
        sheetRefused();
        cell();
        cellRefused();
        copy();
        copyRefused();
        copyOutside();
        places();
        placesRefused();
        placesOutside();
        taken();
        takenRefused();
    }

    /** Doings that take 0 to 4, so that what a way takes tells its numbers. */
    private void doingsThatTake0To4() {
        does("doing", RUN, 0);
        does("doing", ROPE, 0);
        does("doing", HALF, 4);
        does("doing", HALF, 8);
        does("doing", CARRY, 0);
    }

    private void sheet() {
        sentence("Promise 26", "A SHEET becomes a row of n of a sort, all 0, or missing (sort -1: n does not matter): 1.");
        places(12, 1);
        doingsThatTake0To4();
        for (int sheet = 0; sheet <= 3; sheet++) {
            for (int sort = BYTES; sort <= INTS; sort++) {
                answers(1, "sheet", sheet, sort, 40);
                answers(1, "cell", sheet, 39, 1);
                answers(OUTSIDE, "cell", sheet, 40, 1);
                answers(1, "sheet", sheet, sort, 12);
                answers(OUTSIDE, "cell", sheet, 12, 1);
                answers(1, "cell", sheet, 11, 4);
                answers(1, "cell", sheet, 0, 4);
                answers(8, "takes", sheet, 0);
                answers(1, "sheet", sheet, sort, 12);
                answers(0, "takes", sheet, 0);
                answers(1, "sheet", sheet, sort, 0);
                answers(OUTSIDE, "cell", sheet, 0, 1);
                answers(1, "sheet", sheet, sort, 1);
                answers(1, "cell", sheet, 0, 1);
                answers(OUTSIDE, "cell", sheet, 1, 1);
            }
        }
        fresh();
        for (long n : new long[] {0, 1, 40, 41, -1, FAR, DEEPEST}) {
            answers(1, "sheet", 3, INTS, 2);
            answers(1, "sheet", 3, -1, n);
            answers(NOTHING, "cell", 3, 0, 0);
            answers(1, "sheet", 3, -1, n);
            answers(NOTHING, "cell", 3, 0, 0);
        }
    }

    /** Sheet 0 has 3 shorts that are doings, sheet 1 is missing. */
    private void threeShorts() {
        fresh();
        doingsThatTake0To4();
        does("sheet", 0, SHORTS, 3);
        does("cell", 0, 0, 3);
        does("cell", 0, 1, 2);
        does("cell", 0, 2, 4);
    }

    private void sheetRefused() {
        sentence("Promise 26", "BAD: no such SHEET, sort; n above 40; -14.");
        threeShorts();
        for (int sort = -1; sort <= INTS; sort++) {
            refusesEach(BAD, 0, outside(0, 3), "sheet", 0, sort, 1);
            refusesEach(BAD, 0, outside(0, 3), "sheet", 0, sort, -1);
        }
        refusesEach(BAD, 1, outside(-1, 2), "sheet", 0, 0, 1);
        refusesEach(BAD, 1, outside(-1, 2), "sheet", 0, 0, -1);
        refusesEach(BAD, 1, outside(-1, 2), "sheet", 0, 0, 41);
        for (int sort = BYTES; sort <= INTS; sort++) {
            for (int sheet = 0; sheet <= 1; sheet++) {
                refusesEach(BAD, 2, new long[] {41, 42, FAR}, "sheet", sheet, sort, 0);
                refusesEach(BELOW_ZERO, 2, new long[] {-1, -2, DEEPEST}, "sheet", sheet, sort, 0);
            }
        }
    }

    /** What a number becomes is told by the doing that it is; -13 stands for none. */
    private void cell() {
        sentence("Promise 27", "Item i of a SHEET becomes v (of bytes, shorts its lowest 8, 16 bits): 1.");
        does("place", 0);
        doingsThatTake0To4();
        for (int sort = BYTES; sort <= INTS; sort++) {
            does("sheet", sort, sort, 1);
        }
        long[] numbers = {4, 260, 65540, 16777220, -252, -65532, 5, 255, 65535, -1, 128, 32768, 65280, FAR - 3, DEEPEST + 4};
        long[][] due = {{4, 4, 4}, {4, BAD, BAD}, {4, 4, BAD}, {4, 4, BAD}, {4, BAD, BAD}, {4, 4, BAD}, {BAD, BAD, BAD}, {BAD, BAD, BAD},
            {BAD, BAD, BAD}, {BAD, BAD, BAD}, {BAD, BAD, BAD}, {0, BAD, BAD}, {0, BAD, BAD}, {BAD, BAD, BAD}, {4, 4, BAD}};
        for (int i = 0; i < numbers.length; i++) {
            for (int sort = BYTES; sort <= INTS; sort++) {
                answers(1, "cell", sort, 0, numbers[i]);
                answers(due[i][sort], "takes", sort, 0);
            }
        }
        threeShorts();
        places(3, 0);
        answers(9, "takes", 0, 0);
        answers(1, "cell", 0, 2, 0);
        answers(5, "takes", 0, 0);
        answers(1, "cell", 0, 0, 1);
        answers(3, "takes", 0, 0);
        fresh();
        does("sheet", 2, INTS, 40);
        for (int i = 0; i < 40; i++) {
            answers(1, "cell", 2, i, FAR);
        }
    }

    private void cellRefused() {
        sentence("Promise 27", "BAD: no such SHEET; -11; -12.");
        threeShorts();
        for (long i : new long[] {0, 3, -1}) {
            refusesEach(BAD, 0, outside(0, 3), "cell", 0, i, 1);
            refuses(NOTHING, "cell", 1, i, 1);
        }
        refusesEach(OUTSIDE, 1, outside(0, 2), "cell", 0, 0, 1);
        refusesEach(OUTSIDE, 1, new long[] {39, 40}, "cell", 0, 0, 1);
        does("sheet", 2, BYTES, 0);
        refusesEach(OUTSIDE, 1, new long[] {-1, 0, 1, FAR, DEEPEST}, "cell", 2, 0, 1);
        does("sheet", 3, INTS, 40);
        refusesEach(OUTSIDE, 1, outside(0, 39), "cell", 3, 0, 1);
    }

    /** The numbers of a sheet, each told by what the doing takes: too long is it behind those that take something. */
    private void hasNumbers(int sheet, int... due) {
        int together = 0;
        for (int i = 0; i < due.length; i++) {
            if (due[i] > 0) {
                does("set", SNOW, 0, together + due[i] - 1);
                answers(i, "takes", sheet, 1);
            }
            together += due[i];
        }
        answers(together, "takes", sheet, 0);
    }

    /** Five places; sheet 0 tells 0, 1, 2, 3, 4 and sheet 1 4, 4, 4, 4, 4. */
    private void fiveNumbers() {
        fresh();
        places(5, 1);
        doingsThatTake0To4();
        way(0, 0, 1, 2, 3, 4);
        way(1, 4, 4, 4, 4, 4);
    }

    private void copy() {
        sentence("Promise 28", "n numbers of a SHEET, from item i on, come to another one's item j on (as they were): n.");
        fiveNumbers();
        answers(5, "copy", 0, 0, 1, 0, 5);
        hasNumbers(1, 0, 1, 2, 3, 4);
        hasNumbers(0, 0, 1, 2, 3, 4);
        fiveNumbers();
        answers(2, "copy", 0, 1, 1, 3, 2);
        hasNumbers(1, 4, 4, 4, 1, 2);
        answers(1, "copy", 0, 4, 1, 0, 1);
        answers(1, "copy", 0, 0, 1, 4, 1);
        hasNumbers(1, 4, 4, 4, 1, 0);
        fiveNumbers();
        answers(4, "copy", 0, 0, 0, 1, 4);
        hasNumbers(0, 0, 0, 1, 2, 3);
        fiveNumbers();
        answers(4, "copy", 0, 1, 0, 0, 4);
        hasNumbers(0, 1, 2, 3, 4, 4);
        fiveNumbers();
        answers(5, "copy", 0, 0, 0, 0, 5);
        hasNumbers(0, 0, 1, 2, 3, 4);
        for (int i = 0; i <= 5; i++) {
            refuses(0, "copy", 0, i, 1, 5 - i, 0);
        }
        fresh();
        for (int sort = BYTES; sort <= INTS; sort++) {
            does("sheet", 0, sort, 40);
            does("sheet", 1, sort, 40);
            answers(40, "copy", 0, 0, 1, 0, 40);
            answers(1, "copy", 0, 39, 1, 39, 1);
        }
    }

    private void copyRefused() {
        sentence("Promise 28", "BAD: no such SHEET; -11; -13: they are of unlike sorts;");
        fiveNumbers();
        does("sheet", 2, SHORTS, 5);
        for (long n : new long[] {1, 0, -1, 6}) {
            refusesEach(BAD, 0, outside(0, 3), "copy", 0, 0, 1, 0, n);
            refusesEach(BAD, 2, outside(0, 3), "copy", 0, 0, 1, 0, n);
            refuses(BAD, "copy", 3, 0, 4, 0, n);
            refuses(BAD, "copy", -1, 0, 3, 0, n);
            refuses(NOTHING, "copy", 0, 0, 3, 0, n);
            refuses(NOTHING, "copy", 3, 0, 0, 0, n);
            refuses(NOTHING, "copy", 3, 0, 3, 0, n);
            refuses(NOTHING, "copy", 2, 9, 3, -9, n);
            refuses(OTHER_SORT, "copy", 0, 0, 2, 0, n);
            refuses(OTHER_SORT, "copy", 2, 0, 0, 0, n);
            refuses(OTHER_SORT, "copy", 0, 9, 2, -9, n);
        }
        for (int sort = BYTES; sort <= INTS; sort++) {
            for (int other = BYTES; other <= INTS; other++) {
                does("sheet", 2, sort, 1);
                does("sheet", 3, other, 1);
                refuses(sort == other ? 1 : OTHER_SORT, "copy", 2, 0, 3, 0, 1);
            }
        }
    }

    private void copyOutside() {
        sentence("Promise 28", "-12 (also with n below 0).");
        fiveNumbers();
        way(1, 3, 3, 3);
        refusesEach(OUTSIDE, 4, new long[] {-1, -5, DEEPEST, 4, 5, 6, 40, FAR}, "copy", 0, 0, 1, 0, 0);
        refusesEach(OUTSIDE, 4, new long[] {-1, DEEPEST, 4, FAR}, "copy", 1, 0, 0, 0, 0);
        refusesEach(OUTSIDE, 1, new long[] {-1, 3, 5, FAR, DEEPEST}, "copy", 0, 0, 1, 0, 3);
        refusesEach(OUTSIDE, 3, new long[] {-1, 1, 3, FAR, DEEPEST}, "copy", 0, 0, 1, 0, 3);
        refusesEach(OUTSIDE, 1, new long[] {-1, 6, FAR, DEEPEST}, "copy", 0, 0, 1, 0, 0);
        refusesEach(OUTSIDE, 3, new long[] {-1, 4, FAR, DEEPEST}, "copy", 0, 0, 1, 0, 0);
        refuses(OUTSIDE, "copy", 0, 1, 0, 0, FAR);
        refuses(OUTSIDE, "copy", 0, FAR, 0, FAR, FAR);
        refuses(OUTSIDE, "copy", 0, 1, 0, 0, -1);
        refuses(OUTSIDE, "copy", 0, 2, 1, 0, -1);
        answers(3, "copy", 0, 2, 1, 0, 3);
        answers(0, "copy", 0, 5, 1, 3, 0);
        does("sheet", 2, INTS, 0);
        refuses(OUTSIDE, "copy", 2, 0, 0, 0, 1);
        refuses(OUTSIDE, "copy", 0, 0, 2, 0, 1);
        refuses(OUTSIDE, "copy", 2, 1, 0, 0, 0);
        answers(0, "copy", 2, 0, 2, 0, 0);
    }

    private void places() {
        sentence("Promise 29", "PLACES by a SHEET that is taken for one of a sort: from one on, one by one (as of place()), n of them (0 .. 12):"
                + " how many came (others are left out).");
        way(0, 321, 2, 991, -1, 1000, 0);
        answers(0, "places", 0, INTS, 0, 0);
        answers(1, "places", 0, INTS, 0, 1);
        answers(1, "places", 0, INTS, 1, 2);
        answers(1, "places", 0, INTS, 3, 3);
        answers(3, "count", 0);
        int[][] came = {{3, 2, 1}, {9, 9, 1}, {0, 0, 0}};
        for (int place = 0; place < 3; place++) {
            for (int what = FALL; what <= BANK; what++) {
                answers(came[place][what], "set", what, place, came[place][what]);
            }
        }
        answers(3, "places", 0, INTS, 0, 6);
        answers(0, "places", 0, INTS, 3, 2);
        answers(0, "places", 0, INTS, 5, 0);
        answers(0, "places", 0, INTS, 6, 0);
        answers(6, "count", 0);
        placesAreFull();
        placesOfBytes();
    }

    private void placesAreFull() {
        fresh();
        does("sheet", 1, SHORTS, 40);
        answers(12, "places", 1, SHORTS, 28, 12);
        answers(0, "places", 1, SHORTS, 0, 12);
        answers(12, "count", 0);
        fresh();
        does("sheet", 1, SHORTS, 40);
        places(11, 0);
        answers(1, "places", 1, SHORTS, 0, 12);
        answers(12, "count", 0);
    }

    private void placesOfBytes() {
        fresh();
        long[] bytes = {121, 120, 130, 200, 256, -128, 356};
        does("sheet", 2, BYTES, bytes.length);
        for (int i = 0; i < bytes.length; i++) {
            does("cell", 2, i, bytes[i]);
        }
        answers(4, "places", 2, BYTES, 0, 7);
        int[] falls = {1, 1, 0, 1};
        int[] rocks = {2, 2, 0, 0};
        for (int place = 0; place < 4; place++) {
            answers(falls[place], "set", FALL, place, 0);
            answers(rocks[place], "set", ROCKS, place, 0);
        }
    }

    private void placesRefused() {
        sentence("Promise 29", "BAD: no such SHEET, sort, n; -13; -11;");
        does("sheet", 0, INTS, 3);
        for (long from : new long[] {0, 3, -1}) {
            refusesEach(BAD, 0, outside(0, 3), "places", 0, INTS, from, 1);
            refusesEach(BAD, 1, outside(BYTES, INTS), "places", 0, 0, from, 1);
            refusesEach(BAD, 3, outside(0, 12), "places", 0, INTS, from, 0);
            refusesEach(BAD, 3, outside(0, 12), "places", 0, BYTES, from, 0);
            refusesEach(BAD, 3, outside(0, 12), "places", 1, BYTES, from, 0);
            refusesEach(BAD, 1, outside(BYTES, INTS), "places", 1, 0, from, 1);
            for (int n : new int[] {0, 1, 12}) {
                refuses(OTHER_SORT, "places", 0, BYTES, from, n);
                refuses(OTHER_SORT, "places", 0, SHORTS, from, n);
                refuses(NOTHING, "places", 1, INTS, from, n);
                refuses(NOTHING, "places", 3, BYTES, from, n);
            }
        }
        does("sheet", 1, BYTES, 3);
        does("sheet", 2, SHORTS, 3);
        refuses(OTHER_SORT, "places", 1, INTS, 0, 1);
        refuses(OTHER_SORT, "places", 1, SHORTS, 0, 1);
        refuses(OTHER_SORT, "places", 2, INTS, 0, 1);
        refuses(OTHER_SORT, "places", 2, BYTES, 0, 1);
    }

    private void placesOutside() {
        sentence("Promise 29", "-12: what stood ahead came.");
        way(0, 321, 2, 991);
        refusesEach(OUTSIDE, 2, new long[] {-1, 3, 4, 40, FAR, DEEPEST}, "places", 0, INTS, 0, 1);
        refusesEach(OUTSIDE, 2, new long[] {-1, -12, FAR, DEEPEST}, "places", 0, INTS, 0, 12);
        answers(OUTSIDE, "places", 0, INTS, 2, 2);
        answers(1, "count", 0);
        answers(9, "set", FALL, 0, 9);
        answers(OUTSIDE, "places", 0, INTS, 0, 4);
        answers(3, "count", 0);
        answers(3, "set", FALL, 1, 3);
        answers(9, "set", FALL, 2, 9);
        answers(OUTSIDE, "places", 0, INTS, 1, 12);
        answers(4, "count", 0);
        does("sheet", 1, BYTES, 0);
        refuses(OUTSIDE, "places", 1, BYTES, 0, 1);
        fresh();
        does("sheet", 1, BYTES, 40);
        places(11, 0);
        answers(OUTSIDE, "places", 1, BYTES, 29, 12);
        answers(12, "count", 0);
        refuses(OUTSIDE, "places", 1, BYTES, 29, 12);
    }

    private void taken() {
        sentence("Promise 30", "A DOING taken for one of KIND k (0 .. 5), or one under that one (also by others between): its NUMBER.");
        for (int number : new int[] {0, 9}) {
            fresh();
            doingOfEachKind(number);
            int[][] under = {{RUN, RUN}, {ROPE, ROPE}, {ROPE, RUN}, {CARRY, CARRY}, {CARRY, RUN}, {HALF, HALF}, {HALF, RUN}, {EASED, EASED},
                {EASED, ROPE}, {EASED, RUN}, {TRACK, TRACK}, {TRACK, CARRY}, {TRACK, RUN}};
            for (int[] u : under) {
                refuses(number, "taken", u[0], u[1]);
            }
        }
    }

    private void takenRefused() {
        sentence("Promise 30", "BAD: k; -11: no such DOING; -13.");
        refuses(BAD, "taken", 0, 6);
        refuses(BAD, "taken", 0, -1);
        refuses(NOTHING, "taken", 0, RUN);
        doingOfEachKind(4);
        for (long doing : new long[] {0, 5, 6, -1, FAR}) {
            refusesEach(BAD, 1, outside(RUN, TRACK), "taken", doing, 0);
        }
        for (int k = RUN; k <= TRACK; k++) {
            refusesEach(NOTHING, 0, outside(0, 5), "taken", 0, k);
        }
        int[][] others = {{ROPE, CARRY, HALF, EASED, TRACK}, {CARRY, HALF, EASED, TRACK}, {ROPE, HALF, EASED, TRACK},
            {ROPE, CARRY, EASED, TRACK}, {CARRY, HALF, TRACK}, {ROPE, HALF, EASED}};
        for (int doing = RUN; doing <= TRACK; doing++) {
            for (int k : others[doing]) {
                refuses(OTHER_SORT, "taken", doing, k);
            }
        }
    }
}
