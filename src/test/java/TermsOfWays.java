import java.math.BigInteger;

/** The sentences of 'Terms' about cases, told ways, the best, images and sheets. */
final class TermsOfWays extends Bench {
    TermsOfWays(Checks checks, Document document) {
        super(checks, document);
    }

    @Override
    void all() {
        cases();
        way();
        partsBegin();
        partsAtEachPlace();
        takes();
        mean();
        valueBehindTheLast();
        valueOfDoings();
        valueOfCases();
        valueLessWets();
        valueIsNone();
        valueIsTheGreatest();
        best();
        look();
        rises();
        more();
        noneStandsForZero();
        worst();
        last();
        odds();
        drawn();
        judged();
        tooLong();
        image();
        sheets();
    }

    /** So many places with a run that has this risk, and a way of runs on sheet 0. */
    private void runs(int places, int boats, int risk, int wet, int worth) {
        fresh();
        places(places, 0);
        does("doing", RUN, 0);
        does("set", BOATS, 0, boats);
        rule("risk " + risk + ";wet " + wet + ";worth " + worth + ";");
        does("sheet", 0, BYTES, places);
    }

    private static long part(int k, int b, int risk) {
        long[][] choices = {{1}, {1, 1}, {1, 2, 1}, {1, 3, 3, 1}, {1, 4, 6, 4, 1}, {1, 5, 10, 10, 5, 1}, {1, 6, 15, 20, 15, 6, 1}};
        return BigInteger.valueOf(ALL).multiply(BigInteger.valueOf(choices[b][k])).multiply(BigInteger.valueOf(100 - risk).pow(k))
                .multiply(BigInteger.valueOf(risk).pow(b - k)).divide(BigInteger.valueOf(100).pow(b)).longValueExact();
    }

    private void cases() {
        sentence("Terms", "CASES (k of b): how many ways there are to choose k of b, times (100 less RISK) k times,"
                + " times RISK as many times as b less k.");
        for (int boats = 0; boats <= 6; boats++) {
            for (int risk = 0; risk <= 100; risk++) {
                runs(1, boats, risk, 0, 0);
                long others = ALL;
                for (int k = 0; k < boats; k++) {
                    answers(part(k, boats, risk), "parts", 0, 0, k);
                    others -= part(k, boats, risk);
                }
                answers(others, "parts", 0, 0, boats);
            }
        }
    }

    private void way() {
        sentence("Terms", "A WAY tells a DOING of each PLACE (a SHEET of as many numbers).");
        places(2, 1);
        does("doing", RUN, 0);
        does("doing", CARRY, 0);
        way(0, 1, 1);
        way(1, 1);
        way(2, 1, 1, 1);
        way(3, 1, 2);
        answers(8, "takes", 0, 0);
        for (int sheet = 1; sheet <= 3; sheet++) {
            refuses(BAD, "takes", sheet, 0);
            refuses(NO, "mean", sheet);
        }
        fresh();
        does("doing", CARRY, 0);
        does("sheet", 0, INTS, 0);
        answers(1600, "mean", 0);
        places(12, 0);
        does("sheet", 0, INTS, 12);
        answers(48, "takes", 0, 0);
    }

    private void partsBegin() {
        sentence("Terms", "By it all of 1000000000 PARTS begin with BOATS;");
        does("sheet", 0, BYTES, 0);
        for (int boats = 0; boats <= 6; boats++) {
            does("set", BOATS, 0, boats);
            answers(ALL, "odds", 0, boats);
            answers(0, "odds", 0, boats + 1);
        }
    }

    private void partsAtEachPlace() {
        sentence("Terms", "at each PLACE of PARTS with b boats PARTS times CASES (k of b), by 100 as many times as b (cut), have k then,"
                + " for k from 0 to b - 1; the others have b.");
        runs(12, 1, 33, 0, 0);
        long left = ALL;
        for (int place = 0; place < 12; place++) {
            left -= left * 33 / 100;
            answers(left, "parts", 0, place, 1);
            answers(ALL - left, "parts", 0, place, 0);
        }
        long[] cutToTheOthers = {941480149, 57059402, 1440894, 19405, 147, 0, 3};
        runs(1, 6, 99, 0, 0);
        for (int b = 0; b <= 6; b++) {
            answers(cutToTheOthers[b], "parts", 0, 0, b);
        }
        runs(2, 2, 50, 0, 0);
        long[] behindTwo = {562500000, 375000000, 62500000};
        for (int b = 0; b <= 2; b++) {
            answers(behindTwo[b], "parts", 0, 1, b);
        }
        runs(12, 6, 100, 0, 0);
        answers(ALL, "parts", 0, 0, 0);
        answers(ALL, "parts", 0, 11, 0);
        runs(12, 6, 0, 0, 0);
        answers(ALL, "parts", 0, 11, 6);
    }

    private void takes() {
        sentence("Terms", "IT TAKES all TAKES together.");
        does("sheet", 0, BYTES, 0);
        answers(0, "takes", 0, 0);
        doingOfEachKind(9);
        places(12, 0);
        way(0, RUN, ROPE, CARRY, HALF, EASED, TRACK, RUN, ROPE, CARRY, HALF, EASED, TRACK);
        answers(28, "takes", 0, 0);
        way(0, CARRY, CARRY, CARRY, CARRY, CARRY, CARRY, CARRY, CARRY, CARRY, CARRY, CARRY, CARRY);
        answers(48, "takes", 0, 0);
        does("sheet", 0, BYTES, 12);
        answers(0, "takes", 0, 0);
    }

    private void mean() {
        sentence("Terms", "MEAN: PARTS with b boats behind the last PLACE times b times worth, all together, less PARTS with b that come"
                + " to each PLACE times b times 10 times WETS there, all together; by 1000000000 (cut).");
        runs(1, 1, 100, 3, 9999);
        answers(-30, "mean", 0);
        runs(1, 6, 0, 40, 9999);
        answers(59994 - 2400, "mean", 0);
        runs(2, 4, 50, 1, 100);
        answers(100 - 40 - 20, "mean", 0);
        runs(1, 1, 1, 0, 1);
        answers(0, "mean", 0);
        runs(1, 1, 1, 0, 101);
        answers(99, "mean", 0);
        runs(2, 1, 1, 1, 0);
        answers(-19, "mean", 0);
        runs(12, 6, 0, 40, 0);
        answers(-28800, "mean", 0);
        runs(0, 6, 0, 40, 9999);
        answers(59994, "mean", 0);
        runs(3, 0, 50, 40, 9999);
        answers(0, "mean", 0);
    }

    private void valueBehindTheLast() {
        sentence("Terms", "VALUE of b boats at a PLACE with h half days left (-1: none such): behind the last one b times worth.");
        runs(1, 4, 50, 40, 9999);
        for (int b = 0; b <= 6; b++) {
            answers(9999 * b, "value", 1, 100 * b);
            answers(9999 * b, "value", 1, 100 * b + 60);
        }
        fresh();
        answers(0, "value", 0, 0);
        answers(2400, "value", 0, 660);
    }

    private void valueOfDoings() {
        sentence("Terms", "Else, of each DOING that MAY there and TAKES no more than h:");
        int[] takes = {0, 1, 4, 3, 4, 2};
        for (int kind = RUN; kind <= TRACK; kind++) {
            fresh();
            does("place", 1);
            does("doing", kind, 9);
            if (takes[kind] > 0) {
                answers(-1, "value", 0, 100 + takes[kind] - 1);
                answers(-1, "value", 0, takes[kind] - 1);
            }
            checks.holds("kind " + kind + " with as many half days as it takes", does("value", 0, 100 + takes[kind]) >= 0);
            answers(0, "best", 0, 160);
        }
        for (int kind : new int[] {CARRY, EASED}) {
            fresh();
            places(12, 1);
            does("doing", kind, 9);
            answers(-1, "value", 0, 147);
            checks.holds("12 times 4 half days", does("value", 0, 148) >= 0);
        }
        fresh();
        does("place", 80);
        does("doing", ROPE, 0);
        does("doing", CARRY, 0);
        does("doing", TRACK, 0);
        does("doing", EASED, 0);
        answers(-1, "value", 0, 460);
        does("set", ROCKS, 0, 7);
        answers(0, "best", 0, 460);
    }

    private void valueOfCases() {
        sentence("Terms", "the sum over k from 0 to b of CASES (k of b) times VALUE of k at the next PLACE with what is left of h"
                + " (0, where that is -1), by 100 as many times as b (cut),");
        int[][] one = {{1, 5, 1, 0}, {1, 33, 100, 67}, {2, 33, 1, 1}, {2, 33, 10, 13}, {6, 1, 9999, 59394}, {6, 99, 9999, 599},
            {5, 50, 9999, 24997}, {6, 100, 9999, 0}, {6, 0, 9999, 59994}, {0, 50, 9999, 0}};
        for (int[] o : one) {
            runs(1, o[0], o[1], 0, o[2]);
            answers(o[3], "value", 0, 100 * o[0]);
        }
        runs(2, 1, 33, 0, 16);
        answers(10, "value", 1, 100);
        answers(6, "value", 0, 100);
        runs(12, 6, 0, 0, 9999);
        answers(59994, "value", 0, 600);
        justBelowTheNext();
        fresh();
        places(2, 1);
        does("doing", CARRY, 0);
        answers(-1, "value", 0, 7);
        answers(-1, "value", 0, 607);
        answers(0, "value", 0, 8);
        answers(2400, "value", 0, 608);
    }

    /** Sums that lack less than a millionth to the next whole number are cut all the same. */
    private void justBelowTheNext() {
        int[][] due = {{9, 5, 542, 2470}, {6, 5, 442, 2077}, {6, 6, 736, 4154}, {4, 6, 1649, 9502}};
        for (int[] d : due) {
            runs(d[0], d[1], 1, 0, d[2]);
            answers(d[3], "value", 0, 100 * d[1]);
        }
    }

    private void valueLessWets() {
        sentence("Terms", "less b times 10 times WETS, 0 at least;");
        int[][] one = {{1, 2, 19, 0}, {1, 2, 20, 0}, {1, 2, 21, 1}, {3, 2, 21, 3}, {6, 40, 9999, 57594}, {6, 40, 400, 0}, {6, 40, 0, 0}, {0, 40, 9, 0}};
        for (int[] o : one) {
            runs(1, o[0], 0, o[1], o[2]);
            answers(o[3], "value", 0, 100 * o[0]);
            answers(0, "best", 0, 100 * o[0]);
        }
        runs(2, 1, 0, 2, 30);
        answers(10, "value", 1, 100);
        answers(0, "value", 0, 100);
    }

    /** A rope only at the first place, a carry only at the second. */
    private void ropeThenCarry() {
        fresh();
        does("place", 0);
        does("place", 81);
        does("doing", ROPE, 0);
        does("doing", CARRY, 0);
    }

    private void valueIsNone() {
        sentence("Terms", "if VALUE of b there is -1, it is none.");
        ropeThenCarry();
        rule("risk 80;wet 0;worth 100;");
        answers(-1, "value", 1, 103);
        answers(100, "value", 1, 104);
        answers(-1, "value", 0, 104);
        answers(80, "value", 0, 105);
        does("doing", EASED, 9);
        answers(-1, "value", 0, 104);
        answers(0, "best", 0, 105);
        answers(0, "best", 0, 107);
        answers(89, "value", 0, 108);
        answers(2, "best", 0, 108);
        does("set", BANK, 1, 0);
        answers(-1, "value", 0, 160);
        answers(NONE, "best", 0, 160);
    }

    private void valueIsTheGreatest() {
        sentence("Terms", "VALUE is the greatest of these; -1: there is none.");
        does("place", 80);
        answers(-1, "value", 0, 460);
        answers(-1, "value", 0, 0);
        does("doing", CARRY, 0);
        does("doing", ROPE, 0);
        answers(-1, "value", 0, 460);
        answers(-1, "value", 0, 0);
        does("doing", RUN, 0);
        rule("risk 40;wet 0;worth 100;");
        answers(60, "value", 0, 160);
        does("doing", HALF, 0);
        answers(80, "value", 0, 160);
        answers(60, "value", 0, 100);
        does("doing", RUN, 0);
        answers(80, "value", 0, 160);
    }

    private void best() {
        sentence("Terms", "BEST: the DOING by which; of like ones the first.");
        does("place", 1);
        does("doing", RUN, 0);
        does("doing", CARRY, 1);
        does("doing", CARRY, 0);
        does("doing", CARRY, 0);
        does("doing", CARRY, 1);
        answers(2, "best", 0, 404);
        answers(0, "best", 0, 403);
        answers(0, "best", 0, 4);
        answers(0, "best", 0, 60);
        rule("risk 100;wet 40;worth 0;");
        answers(0, "best", 0, 660);
        fresh();
        does("place", 1);
        does("doing", CARRY, 9);
        does("doing", RUN, 0);
        does("set", FALL, 0, 0);
        does("set", DEEP, 0, 9);
        answers(0, "best", 0, 404);
        does("set", DEEP, 0, 8);
        answers(1, "best", 0, 404);
    }

    /** A run that is safe where one looked; a carry takes 4. */
    private void runOrCarry() {
        fresh();
        does("place", 0);
        does("place", 1);
        does("doing", RUN, 0);
        does("doing", CARRY, 0);
        does("set", BOATS, 0, 1);
        rule("risk 50-50*looked;wet 0;worth 1000;");
    }

    private void look() {
        sentence("Terms", "LOOK: VALUE of BOATS at PLACE 0 with SNOW half days, were a PLACE LOOKED at, and SNOW 1 less (0 at least), less what it is.");
        runOrCarry();
        refuses(500, "look", 0);
        refuses(0, "look", 1);
        does("set", SNOW, 0, 5);
        answers(500, "look", 0);
        does("set", SNOW, 0, 4);
        answers(0, "look", 0);
        answers(0, "look", 1);
        does("set", SNOW, 0, 3);
        answers(250, "look", 1);
        does("set", SNOW, 0, 1);
        answers(250, "look", 0);
        does("set", SNOW, 0, 0);
        answers(250, "look", 0);
        does("set", LOOKED, 0, 1);
        answers(0, "look", 0);
        does("set", SNOW, 0, 4);
        answers(-500, "look", 0);
        fresh();
        does("place", 0);
        does("doing", RUN, 0);
        rule("risk 50-20*looked;wet 0;worth 100;");
        answers(80, "look", 0);
        fresh();
        does("place", 0);
        does("doing", ROPE, 0);
        rule("risk 0;wet 0;worth 100;");
        long[][] due = {{0, 0}, {1, -400}, {2, 0}, {60, 0}};
        for (long[] d : due) {
            does("set", SNOW, 0, d[0]);
            refuses(d[1], "look", 0);
        }
    }

    private void rises() {
        sentence("Terms", "RISES: likewise, were WATER so much more (9 at most).");
        rule("risk 0;wet 0;worth water*100;");
        does("set", BOATS, 0, 1);
        refuses(500, "rises", 5);
        answers(400, "rises", 4);
        answers(500, "rises", 6);
        answers(500, "rises", 9);
        does("set", WATER, 0, 8);
        answers(100, "rises", 1);
        answers(100, "rises", 2);
        does("set", WATER, 0, 9);
        answers(0, "rises", 1);
        does("set", WATER, 0, 0);
        answers(900, "rises", 9);
        answers(0, "rises", 0);
        does("place", 1);
        does("doing", CARRY, 0);
        does("set", SNOW, 0, 4);
        answers(100, "rises", 1);
    }

    private void more() {
        sentence("Terms", "ONE MORE: likewise, with one of BOATS more (6 at most: 0);");
        does("place", 1);
        does("doing", CARRY, 0);
        does("set", SNOW, 0, 4);
        refuses(400, "more", 0);
        for (int boats = 0; boats <= 6; boats++) {
            does("set", BOATS, 0, boats);
            refuses(boats < 6 ? 400 : 0, "more", 0);
        }
        sentence("Terms", "A DAY MORE: two half days more (60 at most).");
        does("place", 1);
        does("doing", CARRY, 0);
        int[][] due = {{0, 0}, {1, 0}, {2, 1600}, {3, 1600}, {4, 0}, {57, 0}, {58, 0}, {59, 0}, {60, 0}};
        for (int[] d : due) {
            does("set", SNOW, 0, d[0]);
            refuses(d[1], "more", 1);
        }
        fresh();
        does("set", SNOW, 0, 60);
        answers(0, "more", 1);
        answers(400, "more", 0);
    }

    private void noneStandsForZero() {
        sentence("Terms", "(Where VALUE is -1, 0 stands for it.)");
        does("place", 1);
        answers(0, "look", 0);
        answers(0, "rises", 9);
        answers(0, "more", 0);
        answers(0, "more", 1);
        does("doing", TRACK, 0);
        does("set", BOATS, 0, 1);
        answers(-392, "rises", 3);
        does("set", SNOW, 0, 2);
        answers(-392, "look", 0);
        does("set", SNOW, 0, 1);
        answers(392, "more", 1);
        answers(0, "more", 0);
        answers(0, "look", 0);
    }

    private void worst() {
        sentence("Terms", "WORST: of PLACES with a BEST (of BOATS, with SNOW half days) the one where that has most RISK; of like ones the first; NONE.");
        answers(NONE, "worst");
        does("place", 1);
        does("place", 901);
        does("place", 901);
        answers(NONE, "worst");
        does("doing", CARRY, 0);
        does("set", SNOW, 0, 3);
        answers(NONE, "worst");
        does("set", SNOW, 0, 4);
        answers(2, "worst");
        does("set", SNOW, 0, 8);
        answers(1, "worst");
        does("set", SNOW, 0, 12);
        answers(0, "worst");
        does("doing", RUN, 0);
        does("set", SNOW, 0, 3);
        answers(1, "worst");
        does("set", ROCKS, 2, 1);
        answers(2, "worst");
        does("set", ROCKS, 1, 1);
        answers(1, "worst");
        worstOfAllHalfDays();
    }

    /** At the second place all half days are asked of, not those that the best way leaves. */
    private void worstOfAllHalfDays() {
        fresh();
        does("place", 901);
        does("place", 101);
        does("doing", RUN, 0);
        does("doing", CARRY, 0);
        does("set", SNOW, 0, 4);
        answers(0, "worst");
        does("set", BOATS, 0, 0);
        answers(0, "worst");
        does("set", FALL, 0, 0);
        answers(1, "worst");
        fresh();
        does("place", 901);
        does("place", 101);
        does("doing", CARRY, 0);
        does("doing", RUN, 0);
        does("set", SNOW, 0, 4);
        answers(0, "worst");
        does("set", BANK, 1, 0);
        answers(1, "worst");
    }

    private void last() {
        sentence("Terms", "LAST: the fewest half days (0 .. 60) with which VALUE of BOATS at PLACE 0 isn't -1; NONE.");
        answers(0, "last");
        does("place", 1);
        answers(NONE, "last");
        does("doing", CARRY, 0);
        answers(4, "last");
        does("set", BOATS, 0, 0);
        does("set", SNOW, 0, 0);
        answers(4, "last");
        does("doing", TRACK, 0);
        answers(2, "last");
        places(11, 1);
        answers(24, "last");
        does("set", WATER, 0, 7);
        answers(48, "last");
        answers(-1, "value", 0, 47);
        answers(0, "value", 0, 48);
        does("set", BANK, 11, 0);
        answers(NONE, "last");
        does("doing", RUN, 0);
        answers(0, "last");
    }

    private void odds() {
        sentence("Terms", "ODDS: PARTS by a WAY that have k boats or more at the end.");
        runs(2, 2, 50, 0, 0);
        answers(ALL, "odds", 0, 0);
        answers(437500000, "odds", 0, 1);
        answers(62500000, "odds", 0, 2);
        answers(0, "odds", 0, 3);
        answers(0, "odds", 0, 7);
        runs(1, 6, 0, 0, 0);
        answers(ALL, "odds", 0, 6);
        answers(0, "odds", 0, 7);
    }

    /** Drawn by 0: 48, 38, 75, 88, 38, 48, 18, 11, 13, 79; by the greatest seed 49, 36, 87, 65; by the least 56, 30, 67, 80. */
    private void drawn() {
        sentence("Terms", "DRAWN by a SEED: z = z * 1103515245 + 12345 (an int; SEED at first):");
        runs(1, 1, 48, 0, 0);
        answers(1, "drawn", 0, 0);
        runs(1, 1, 49, 0, 0);
        answers(0, "drawn", 0, 0);
        answers(1, "drawn", 0, FAR);
        answers(1, "drawn", 0, DEEPEST);
        runs(1, 1, 50, 0, 0);
        answers(0, "drawn", 0, FAR);
        runs(1, 1, 56, 0, 0);
        answers(1, "drawn", 0, DEEPEST);
        runs(1, 1, 57, 0, 0);
        answers(0, "drawn", 0, DEEPEST);
        answers(1, "drawn", 0, -1);
        runs(1, 1, 58, 0, 0);
        answers(0, "drawn", 0, -1);
        sentence("Terms", "at each PLACE for each boat that is there one: lost, if (z >>> 8) % 100 is below RISK:");
        runs(3, 4, 39, 0, 0);
        answers(0, "drawn", 0, 0);
        runs(2, 4, 39, 0, 0);
        answers(1, "drawn", 0, 0);
        runs(1, 4, 39, 0, 0);
        answers(3, "drawn", 0, 0);
        runs(3, 4, 38, 0, 0);
        answers(1, "drawn", 0, 0);
        runs(2, 4, 38, 0, 0);
        answers(2, "drawn", 0, 0);
        runs(1, 4, 38, 0, 0);
        answers(4, "drawn", 0, 0);
        runs(12, 6, 0, 0, 0);
        answers(6, "drawn", 0, 0);
        runs(1, 6, 100, 0, 0);
        answers(0, "drawn", 0, 0);
        sentence("Terms", "by a WAY: how many come down.");
        does("sheet", 0, BYTES, 0);
        for (int boats = 0; boats <= 6; boats++) {
            does("set", BOATS, 0, boats);
            answers(boats, "drawn", 0, 5);
        }
    }

    private void judged() {
        sentence("Terms", "JUDGED: the first PLACE at which what a SHEET tells is no DOING, or MAY not; NONE.");
        does("sheet", 0, BYTES, 0);
        answers(NONE, "judge", 0);
        places(3, 80);
        way(0, 0, 0, 0);
        answers(0, "judge", 0);
        does("doing", RUN, 0);
        does("doing", ROPE, 0);
        answers(NONE, "judge", 0);
        way(0, 0, 1, 2);
        answers(1, "judge", 0);
        way(0, 0, 2, 1);
        answers(1, "judge", 0);
        way(0, 0, 0, -1);
        answers(2, "judge", 0);
        way(0, 0, 0, 1);
        answers(2, "judge", 0);
        does("set", ROCKS, 2, 7);
        answers(NONE, "judge", 0);
    }

    private void tooLong() {
        sentence("Terms", "TOO LONG: the first PLACE behind which TAKES to there, together, are more than SNOW; NONE.");
        does("sheet", 0, BYTES, 0);
        does("set", SNOW, 0, 0);
        answers(NONE, "takes", 0, 1);
        places(3, 0);
        does("doing", RUN, 0);
        does("doing", CARRY, 0);
        way(0, 1, 0, 1);
        long[][] due = {{0, 0}, {3, 0}, {4, 2}, {7, 2}, {8, NONE}, {9, NONE}, {60, NONE}};
        for (long[] d : due) {
            does("set", SNOW, 0, d[0]);
            answers(d[1], "takes", 0, 1);
        }
        way(0, 0, 0, 0);
        does("set", SNOW, 0, 0);
        answers(NONE, "takes", 0, 1);
    }

    private void image() {
        sentence("Terms", "AN IMAGE keeps all of PLACES, WATER, DEEP, BOATS, LOAD, SNOW, THE RULE (PLACES, DOINGS that came since stay).");
        does("place", 340);
        feeds("risk 0;wet 0;worth 7;");
        does("text");
        does("force", 1);
        int[] kept = {3, 4, 1, 1, 9, 8, 6, 99, 60};
        int[] changed = {9, 0, 0, 0, 0, 0, 0, 0, 0};
        for (int what = FALL; what <= SNOW; what++) {
            does("set", what, 0, kept[what]);
        }
        answers(1, "image");
        for (int what = FALL; what <= SNOW; what++) {
            does("set", what, 0, changed[what]);
        }
        does("force", 0);
        answers(1, "place", 561);
        answers(0, "doing", EASED, 5);
        does("set", LOOKED, 1, 1);
        answers(2, "back");
        answers(1, "count", 4);
        answers(7, "worth");
        for (int what = FALL; what <= SNOW; what++) {
            answers(kept[what], "set", what, 0, kept[what]);
        }
        int[] since = {5, 6, 1, 1};
        for (int what = FALL; what <= LOOKED; what++) {
            answers(since[what], "set", what, 1, since[what]);
        }
        answers(5, "taken", 0, EASED);
    }

    private void sheets() {
        sentence("Terms", "SHEETS 0 .. 3 are rows of numbers, or missing (as all are at first): of sort 0 bytes, 1 shorts, 2 ints.");
        for (int sheet = 0; sheet <= 3; sheet++) {
            refuses(NOTHING, "cell", sheet, 0, 0);
        }
        refusesEach(BAD, 0, outside(0, 3), "cell", 0, 0, 0);
        refusesEach(BAD, 0, outside(0, 3), "sheet", 0, BYTES, 1);
        refusesEach(BAD, 1, outside(-1, 2), "sheet", 0, BYTES, 1);
        for (int sort = BYTES; sort <= INTS; sort++) {
            answers(1, "sheet", sort, sort, 1);
            for (int other = BYTES; other <= INTS; other++) {
                refuses(sort == other ? 0 : OTHER_SORT, "places", sort, other, 0, 0);
            }
        }
        long[] numbers = {121, 130, 256 + 121, 991, 65536 + 991, -65536 + 991};
        boolean[][] comes = {{true, true, true}, {false, true, true}, {true, false, false}, {false, true, true}, {false, true, false},
            {false, true, false}};
        for (int i = 0; i < numbers.length; i++) {
            for (int sort = BYTES; sort <= INTS; sort++) {
                does("cell", sort, 0, numbers[i]);
                answers(comes[i][sort] ? 1 : 0, "places", sort, sort, 0, 1);
            }
        }
    }
}
