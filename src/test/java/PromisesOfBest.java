/** The sentences of the promises 16 to 25. */
final class PromisesOfBest extends Bench {
    private static final long[] NO_BOATS_AND_HALF_DAYS = {-1, -24, -60, -100, -400, 61, 99, 161, 199, 461, 561, 599, 661, 699, 700, 724, 760, 1000, FAR, DEEPEST};

    PromisesOfBest(Checks checks, Document document) {
        super(checks, document);
    }

    @Override
    void all() {
        value();
        valueRefused();
        best();
        bestRefused();
        look();
        rises();
        more();
        worst();
        last();
        image();
        back();
        backRefused();
        count();
        countRefused();
    }

    /** At the first place there is only a carry, which takes 4; at the second only a rope, which takes 1. */
    private void carryThenRope() {
        fresh();
        does("place", 81);
        does("place", 0);
        does("doing", CARRY, 0);
        does("doing", ROPE, 0);
        rule("risk 40;wet 0;worth 1000;");
    }

    private void value() {
        sentence("Promise 16", "VALUE (bh: 100 times b, and h; place: also how many there are).");
        carryThenRope();
        for (int b = 0; b <= 6; b++) {
            refuses(900 * b, "value", 0, 100 * b + 60);
            refuses(900 * b, "value", 0, 100 * b + 5);
            refuses(-1, "value", 0, 100 * b + 4);
            refuses(-1, "value", 0, 100 * b);
            answers(900 * b, "value", 1, 100 * b + 1);
            answers(-1, "value", 1, 100 * b);
            answers(1000 * b, "value", 2, 100 * b);
            answers(1000 * b, "value", 2, 100 * b + 60);
        }
        does("set", BOATS, 0, 0);
        does("set", SNOW, 0, 0);
        answers(5400, "value", 0, 660);
        fresh();
        for (int places = 0; places < 12; places++) {
            answers(1600, "value", places, 424);
            does("place", 0);
        }
        answers(1600, "value", 12, 424);
        answers(-1, "value", 11, 424);
    }

    private void valueRefused() {
        sentence("Promise 16", "NO: none such.");
        refusesEach(NO, 0, outside(0, 0), "value", 0, 400);
        carryThenRope();
        refusesEach(NO, 0, outside(0, 2), "value", 0, 400);
        for (int place = 0; place <= 2; place++) {
            refusesEach(NO, 1, NO_BOATS_AND_HALF_DAYS, "value", place, 0);
        }
        places(10, 0);
        refuses(NO, "value", 13, 400);
        answers(4000, "value", 12, 400);
    }

    private void best() {
        sentence("Promise 17", "BEST.");
        carryThenRope();
        refuses(0, "best", 0, 460);
        refuses(1, "best", 1, 460);
        answers(0, "best", 0, 5);
        answers(1, "best", 1, 1);
        answers(1, "best", 1, 601);
        bestBySoManyBoats();
    }

    /** Of each boat 0.45 come by a rope, 0.5 eased: where the cut makes them like, it is the first. */
    private void bestBySoManyBoats() {
        fresh();
        does("place", 0);
        does("doing", ROPE, 0);
        does("doing", EASED, 5);
        rule("risk 220;wet 0;worth 1;");
        long[] due = {0, 0, 1, 0, 1, 0, 1};
        for (int b = 0; b <= 6; b++) {
            answers(due[b], "best", 0, 100 * b + 2);
            answers(due[b], "best", 0, 100 * b + 60);
            answers(0, "best", 0, 100 * b + 1);
            answers(NONE, "best", 0, 100 * b);
        }
    }

    private void bestRefused() {
        sentence("Promise 17", "BAD (place there); NONE: VALUE is -1.");
        refusesEach(BAD, 0, new long[] {-1, 0, 1, FAR, DEEPEST}, "best", 0, 400);
        carryThenRope();
        refusesEach(BAD, 0, outside(0, 1), "best", 0, 400);
        for (int place = 0; place <= 1; place++) {
            refusesEach(BAD, 1, NO_BOATS_AND_HALF_DAYS, "best", place, 0);
        }
        refuses(NONE, "best", 0, 404);
        refuses(NONE, "best", 0, 4);
        refuses(NONE, "best", 1, 400);
        refuses(NONE, "best", 1, 0);
        does("set", BANK, 0, 0);
        refuses(NONE, "best", 0, 660);
        fresh();
        places(12, 0);
        refuses(NONE, "best", 11, 460);
        refuses(BAD, "best", 12, 460);
        refuses(BAD, "best", 12, 461);
    }

    private void look() {
        sentence("Promise 18", "LOOK.");
        does("place", 300);
        does("place", 300);
        does("doing", RUN, 0);
        rule("risk 50-50*looked;wet 0;worth 1000;");
        refuses(1000, "look", 0);
        refuses(1000, "look", 1);
        answers(0, "set", LOOKED, 1, 1);
        refuses(2000, "look", 0);
        refuses(0, "look", 1);
        answers(24, "count", 9);
        sentence("Promise 18", "NO: PLACE.");
        refusesEach(NO, 0, new long[] {-1, 0, 1, FAR, DEEPEST}, "look", 0);
        does("place", 0);
        refusesEach(NO, 0, outside(0, 0), "look", 0);
        places(11, 0);
        refusesEach(NO, 0, outside(0, 11), "look", 0);
        answers(0, "look", 11);
    }

    private void rises() {
        sentence("Promise 19", "RISES by n (0 .. 9).");
        rule("risk 0;wet 0;worth water;");
        does("set", WATER, 0, 0);
        for (int n = 0; n <= 9; n++) {
            refuses(4 * n, "rises", n);
        }
        answers(0, "count", 5);
        sentence("Promise 19", "NO: n.");
        refusesEach(NO, 0, outside(0, 9), "rises", 0);
        does("place", 0);
        does("doing", RUN, 0);
        refusesEach(NO, 0, outside(0, 9), "rises", 0);
    }

    private void more() {
        sentence("Promise 20", "ONE MORE (what 0), A DAY MORE (1).");
        refuses(400, "more", 0);
        refuses(0, "more", 1);
        does("place", 1);
        does("doing", CARRY, 0);
        does("set", SNOW, 0, 2);
        refuses(0, "more", 0);
        refuses(1600, "more", 1);
        answers(2, "count", 9);
        answers(4, "count", 7);
        sentence("Promise 20", "NO: what.");
        refusesEach(NO, 0, outside(0, 1), "more", 0);
        does("place", 1);
        does("doing", CARRY, 0);
        refusesEach(NO, 0, outside(0, 1), "more", 0);
    }

    private void worst() {
        sentence("Promise 21", "WORST. NONE.");
        refuses(NONE, "worst");
        places(12, 0);
        refuses(NONE, "worst");
        does("doing", RUN, 0);
        refuses(0, "worst");
        does("set", ROCKS, 11, 1);
        refuses(11, "worst");
        does("set", ROCKS, 5, 2);
        refuses(5, "worst");
    }

    private void last() {
        sentence("Promise 22", "LAST. NONE.");
        refuses(0, "last");
        does("doing", CARRY, 0);
        for (int place = 0; place < 12; place++) {
            does("place", 1);
            answers(4 * place + 4, "last");
        }
        refuses(48, "last");
        does("set", BANK, 6, 0);
        refuses(NONE, "last");
    }

    private void image() {
        sentence("Promise 23", "AN IMAGE is kept: how many PLACES.");
        for (int places = 0; places <= 12; places++) {
            answers(places, "image");
            does("place", 0);
        }
        answers(12, "image");
        does("set", FALL, 0, 9);
        answers(12, "image");
        does("set", FALL, 0, 8);
        answers(12, "back");
        answers(9, "set", FALL, 0, 7);
        answers(12, "back");
        answers(9, "set", FALL, 0, 9);
    }

    private void back() {
        sentence("Promise 24", "All that it keeps is as in THE IMAGE: how many PLACES.");
        answers(0, "image");
        does("set", WATER, 0, 9);
        answers(0, "back");
        answers(4, "count", 5);
        places(12, 990);
        answers(12, "back");
        answers(9, "set", FALL, 11, 9);
        does("set", WATER, 0, 0);
        does("set", DEEP, 0, 9);
        does("set", BOATS, 0, 6);
        does("set", LOAD, 0, 99);
        does("set", SNOW, 0, 60);
        answers(12, "back");
        int[] first = {4, 3, 4, 40, 24};
        for (int i = 0; i < first.length; i++) {
            answers(first[i], "count", 5 + i);
        }
        answers(12, "back");
        does("sheet", 0, INTS, 2);
        feeds("risk 1;wet 2;worth 3;");
        does("text");
        does("force", 1);
        feeds("#");
        answers(12, "back");
        answers(0, "count", 4);
        answers(2, "count", 2);
        answers(1, "count", 3);
        answers(1, "cell", 0, 1, 0);
    }

    private void backRefused() {
        sentence("Promise 24", "STATE: there is none.");
        refuses(STATE, "back");
        does("place", 321);
        does("set", WATER, 0, 9);
        does("set", LOOKED, 0, 1);
        refuses(STATE, "back");
        answers(1, "image");
        answers(1, "back");
    }

    private void count() {
        sentence("Promise 25", "How many: 0 PLACES, 1 DOINGS, 2 TEXTS, 3 bytes of THE TAPE, 4 THE RULE, 5 WATER, 6 DEEP, 7 BOATS, 8 LOAD, 9 SNOW.");
        long[] first = {0, 0, 1, 0, 0, 4, 3, 4, 40, 24};
        for (int what = 0; what <= 9; what++) {
            refuses(first[what], "count", what);
        }
        places(12, 0);
        for (int i = 0; i < 8; i++) {
            does("doing", RUN, 0);
        }
        for (int i = 0; i < 5; i++) {
            feeds("risk 1;wet 2;worth 3;");
            does("text");
        }
        does("force", 5);
        feeds("#".repeat(160));
        int[] most = {9, 9, 6, 99, 60};
        for (int i = 0; i < most.length; i++) {
            does("set", WATER + i, 0, most[i]);
        }
        long[] greatest = {12, 8, 6, 160, 5, 9, 9, 6, 99, 60};
        for (int what = 0; what <= 9; what++) {
            refuses(greatest[what], "count", what);
        }
        for (int i = 0; i < most.length; i++) {
            does("set", WATER + i, 0, 0);
            answers(0, "count", 5 + i);
        }
    }

    private void countRefused() {
        sentence("Promise 25", "BAD.");
        refusesEach(BAD, 0, outside(0, 9), "count", 0);
        carryThenRope();
        refusesEach(BAD, 0, outside(0, 9), "count", 0);
    }
}
