/** The sentences of the promises 13 to 16, 21 and 22: what there is. */
final class SentencesOfAnswers extends Sentences {
    private SentencesOfAnswers() {
    }

    static void all() {
        canalOf();
        canalOfWhat();
        canalOfHours();
        canalOfAnswers();
        fieldOf();
        fieldOfState();
        turnOf();
        share();
        rightAt();
        count();
        countOfHours();
        countOfTurnsAndTexts();
    }

    private static void canalOf() {
        chapter("Promise 13: canalOf");
        test("Returns something of a canal.", x -> {
            x.canalOf(0, 2);
            due(200, x.canalOf(0, 2));
            due(0, x.count(14));
        });
        test("canal: number of a canal", x -> {
            due(INVALID, x.canalOf(-1, 2));
            due(200, x.canalOf(0, 2));
            due(INVALID, x.canalOf(1, 2));
            planks(x, 7);
            due(500, x.canalOf(7, 2));
            due(INVALID, x.canalOf(8, 2));
            due(INVALID, x.canalOf(LEAST, 2));
            due(INVALID, x.canalOf(MOST, 2));
        });
        test("what:", x -> {
            planks(x, 1);
            for (int canal = 0; canal <= 1; canal++) {
                due(INVALID, x.canalOf(canal, -1));
                due(INVALID, x.canalOf(canal, 10));
                due(INVALID, x.canalOf(canal, LEAST));
                due(INVALID, x.canalOf(canal, MOST));
            }
            due(0, x.canalOf(1, 0));
            due(0, x.canalOf(1, 9));
        });
    }

    private static void canalOfWhat() {
        chapter("Promise 13: canalOf");
        test("0: its parent; 1: the kind of its gate; 2: its width; 3: its seepage;", x -> {
            x.canal(0, PLANK, 1, 500);
            x.canal(1, SCREW, 500, 0);
            x.canal(2, FLOAT, 50, 5);
            x.canal(0, FLOAT, 499, 1);
            int[][] want = {{0, 0, 1, 500}, {1, 1, 500, 0}, {2, 2, 50, 5}, {0, 2, 499, 1}};
            for (int canal = 1; canal <= 4; canal++) {
                for (int what = 0; what < 4; what++) {
                    due(want[canal - 1][what], x.canalOf(canal, what));
                }
            }
            due(200, x.canalOf(0, 2));
            due(50, x.canalOf(0, 3));
        });
        test("4: 1 if its gate is open, otherwise 0;", x -> {
            planks(x, 7);
            due(0, x.canalOf(1, 4));
            hourWith(x, 2 + 128, 0);
            due(1, x.canalOf(1, 4));
            due(0, x.canalOf(2, 4));
            due(1, x.canalOf(7, 4));
            x.tend(0, 7);
            x.close(7);
            due(0, x.canalOf(7, 4));
        });
        test("5: the crew that tends its gate;", x -> {
            x.canal(0, PLANK, 9, 0);
            x.canal(0, SCREW, 9, 0);
            x.canal(0, FLOAT, 9, 0);
            for (int crew = 0; crew <= 2; crew++) {
                due(NOT_FOUND, x.canalOf(crew + 1, 5));
                x.tend(crew, crew + 1);
                due(crew, x.canalOf(crew + 1, 5));
            }
            x.leave(1);
            due(NOT_FOUND, x.canalOf(1, 5));
        });
        test("6: the canals below it, as a set;", x -> {
            due(0, x.canalOf(0, 6));
            chain(x, 7);
            for (int canal = 0; canal <= 7; canal++) {
                due(256 - (2 << canal), x.canalOf(canal, 6));
            }
        });
    }

    private static void canalOfHours() {
        chapter("Promise 13: canalOf");
        test("7: what came into it in the latest hour;", x -> {
            x.canal(0, PLANK, 10, 0);
            due(0, x.canalOf(0, 7));
            due(0, x.canalOf(1, 7));
            hourWith(x, 2, 999);
            due(200, x.canalOf(0, 7));
            due(10, x.canalOf(1, 7));
            x.run(3, 10);
            due(10, x.canalOf(0, 7));
            due(9, x.canalOf(1, 7));
            x.hour(0);
            due(0, x.canalOf(0, 7));
            due(0, x.canalOf(1, 7));
            x.undo();
            due(9, x.canalOf(1, 7));
            x.canal(0, PLANK, 10, 0);
            due(0, x.canalOf(2, 7));
            due(9, x.canalOf(1, 7));
            hourWith(x, 0, 20);
            due(0, x.canalOf(1, 7));
        });
        test("8: what seeped away in it so far; 9: what ran off at it so far", x -> {
            x.canal(0, PLANK, 10, 100);
            due(0, x.canalOf(0, 8) + x.canalOf(0, 9) + x.canalOf(1, 8) + x.canalOf(1, 9));
            hourWith(x, 2, 20);
            due(1, x.canalOf(0, 8));
            due(9, x.canalOf(0, 9));
            due(1, x.canalOf(1, 8));
            due(9, x.canalOf(1, 9));
            x.run(2, 40);
            due(5, x.canalOf(0, 8));
            due(9 + 28 + 28, x.canalOf(0, 9));
            due(3, x.canalOf(1, 8));
            due(27, x.canalOf(1, 9));
            x.hour(0);
            due(5, x.canalOf(0, 8));
            due(65, x.canalOf(0, 9));
        });
        test("so far", x -> {
            for (int hundred = 0; hundred < 200; hundred++) {
                x.run(100, 999);
            }
            due(200000, x.canalOf(0, 8));
            due(3800000, x.canalOf(0, 9));
        });
    }

    private static void canalOfAnswers() {
        chapter("Promise 13: canalOf");
        test("Returns the number; INVALID_ARGUMENT if an argument is out of range;"
                + " NOT_FOUND for 0, 1, 4 and 5 of the canal 0,", x -> {
            int[] want = {NOT_FOUND, NOT_FOUND, 200, 50, NOT_FOUND, NOT_FOUND, 0, 0, 0, 0, INVALID};
            for (int what = 0; what <= 10; what++) {
                due(want[what], x.canalOf(0, what));
            }
            due(INVALID, x.canalOf(0, -1));
            due(INVALID, x.canalOf(1, 0));
            due(INVALID, x.canalOf(1, 10));
        });
        test("for 5 if its gate is not tended.", x -> {
            planks(x, 1);
            due(NOT_FOUND, x.canalOf(1, 5));
            x.tend(0, 1);
            due(0, x.canalOf(1, 5));
            x.leave(1);
            due(NOT_FOUND, x.canalOf(1, 5));
            due(0, x.canalOf(1, 0));
            due(0, x.canalOf(1, 1));
            due(0, x.canalOf(1, 4));
        });
    }

    private static void fieldOf() {
        chapter("Promise 14: fieldOf");
        test("Returns something of a field.", x -> {
            x.field(0, 9, 8, 7);
            x.fieldOf(0, 1);
            due(9, x.fieldOf(0, 1));
            due(1, x.count(14));
        });
        test("field: number of a field", x -> {
            due(INVALID, x.fieldOf(0, 0));
            fields(x, 0, 10);
            due(INVALID, x.fieldOf(-1, 0));
            due(0, x.fieldOf(0, 0));
            due(0, x.fieldOf(9, 0));
            due(INVALID, x.fieldOf(10, 0));
            due(INVALID, x.fieldOf(LEAST, 0));
            due(INVALID, x.fieldOf(MOST, 0));
        });
        test("what: 0: its canal; 1: its need; 2: its mouth; 3: its right;", x -> {
            planks(x, 7);
            x.field(7, 1, 200, 99);
            x.field(0, 999, 1, 0);
            int[][] want = {{7, 1, 200, 99}, {0, 999, 1, 0}};
            for (int field = 0; field <= 1; field++) {
                for (int what = 0; what < 4; what++) {
                    due(want[field][what], x.fieldOf(field, what));
                }
            }
            due(INVALID, x.fieldOf(0, -1));
        });
        test("Returns the number; INVALID_ARGUMENT if an argument is out of range;", x -> {
            x.field(0, 9, 9, 9);
            due(INVALID, x.fieldOf(0, -1));
            due(0, x.fieldOf(0, 0));
            due(NOT_FOUND, x.fieldOf(0, 7));
            due(INVALID, x.fieldOf(0, 8));
            due(INVALID, x.fieldOf(0, LEAST));
            due(INVALID, x.fieldOf(0, MOST));
            due(INVALID, x.fieldOf(1, 8));
        });
    }

    private static void fieldOfState() {
        chapter("Promise 14: fieldOf");
        test("4: what it has got;", x -> {
            x.field(0, 21, 10, 0);
            int[] got = {0, 10, 20, 21, 21};
            for (int hour = 0; hour < got.length; hour++) {
                due(got[hour], x.fieldOf(0, 4));
                x.hour(200);
            }
        });
        test("5: 1 if it calls, otherwise 0;", x -> {
            x.field(0, 10, 5, 0);
            x.field(0, 99, 5, 0);
            due(0, x.fieldOf(0, 5));
            x.call(0);
            due(1, x.fieldOf(0, 5));
            due(0, x.fieldOf(1, 5));
            x.hour(200);
            due(1, x.fieldOf(0, 5));
            x.hour(200);
            due(0, x.fieldOf(0, 5));
        });
        test("6: 1 if it may take now (as told for an hour, whether it wants water or not), otherwise 0;", x -> {
            chain(x, 2);
            x.field(0, 5, 5, 10);
            x.field(2, 20, 5, 9);
            x.field(0, 99, 5, 9);
            hourWith(x, 6, 200);
            due(1, x.fieldOf(0, 6));
            x.call(1);
            due(0, x.fieldOf(0, 6));
            due(1, x.fieldOf(1, 6));
            due(1, x.fieldOf(2, 6));
            // it wants none any more
            due(5, x.fieldOf(0, 4));
            hourWith(x, 4, 200);
            due(1, x.fieldOf(0, 6));
            hourWith(x, 6, 200);
            due(0, x.fieldOf(0, 6));
            hourWith(x, 6, 200);
            due(0, x.fieldOf(0, 6));
            hourWith(x, 6, 200);
            due(20, x.fieldOf(1, 4));
            due(1, x.fieldOf(0, 6));
        });
        test("7: the hour in which it got its need (from 1 on)", x -> {
            x.field(0, 10, 10, 0);
            x.field(0, 31, 10, 0);
            x.field(0, 40, 10, 0);
            x.field(0, 41, 10, 0);
            x.hour(200);
            due(1, x.fieldOf(0, 7));
            x.run(2, 200);
            due(NOT_FOUND, x.fieldOf(1, 7));
            x.run(100, 200);
            due(1, x.fieldOf(0, 7));
            due(4, x.fieldOf(1, 7));
            due(4, x.fieldOf(2, 7));
            due(5, x.fieldOf(3, 7));
        });
        test("NOT_FOUND for 7 if it still wants water.", x -> {
            x.field(0, 10, 9, 0);
            due(NOT_FOUND, x.fieldOf(0, 7));
            x.hour(200);
            due(NOT_FOUND, x.fieldOf(0, 7));
            x.hour(200);
            due(2, x.fieldOf(0, 7));
            x.undo();
            due(NOT_FOUND, x.fieldOf(0, 7));
            due(9, x.fieldOf(0, 4));
            x.hour(0);
            x.hour(2);
            due(3, x.fieldOf(0, 7));
        });
        test("the hour in which it got its need", x -> {
            runUntil(x, 19999);
            x.field(0, 1, 1, 0);
            x.hour(2);
            due(20000, x.fieldOf(0, 7));
        });
    }

    private static void turnOf() {
        chapter("Promise 15: turnOf");
        test("Returns something of a turn.", x -> {
            x.turn(0, 7);
            x.turnOf(0, 1);
            due(7, x.turnOf(0, 1));
            due(1, x.count(14));
        });
        test("turn: number of a turn, from 0", x -> {
            due(INVALID, x.turnOf(0, 1));
            for (int turn = 0; turn < 8; turn++) {
                due(INVALID, x.turnOf(turn, 1));
                x.turn(0, turn + 1);
                due(turn + 1, x.turnOf(turn, 1));
            }
            due(1, x.turnOf(0, 1));
            due(INVALID, x.turnOf(-1, 1));
            due(INVALID, x.turnOf(8, 1));
            due(INVALID, x.turnOf(LEAST, 1));
            due(INVALID, x.turnOf(MOST, 1));
        });
        test("what: 0: its gates; 1: its hours", x -> {
            planks(x, 7);
            x.turn(254, 20);
            x.turn(0, 1);
            due(254, x.turnOf(0, 0));
            due(20, x.turnOf(0, 1));
            due(0, x.turnOf(1, 0));
            due(1, x.turnOf(1, 1));
        });
        test("Returns the number; INVALID_ARGUMENT if an argument is out of range.", x -> {
            x.turn(0, 7);
            due(INVALID, x.turnOf(0, -1));
            due(0, x.turnOf(0, 0));
            due(7, x.turnOf(0, 1));
            due(INVALID, x.turnOf(0, 2));
            due(INVALID, x.turnOf(0, LEAST));
            due(INVALID, x.turnOf(0, MOST));
            due(INVALID, x.turnOf(1, 2));
            x.noTurns();
            due(INVALID, x.turnOf(0, 0));
        });
    }

    private static void share() {
        chapter("Promise 16: share");
        test("Returns the bits of a share, in floats.", x -> {
            x.hour(3);
            due(0x3EAAAAAB, x.share(1));
            due(0x3F2AAAAB, x.share(2));
            x.hour(0);
            x.hour(4);
            // 2 and 5 of 7: the one is rounded up, the other down
            due(Float.floatToIntBits(2f / 7f), x.share(1));
            due(Float.floatToIntBits(5f / 7f), x.share(2));
        });
        test("what: 0: what fields have got, divided by what was let in; 1: what has seeped, divided by that;"
                + " 2: what has run off, divided by that", x -> {
            planks(x, 1);
            x.field(0, 99, 5, 0);
            hourWith(x, 2, 20);
            dueShares(x, 5, 1, 14, 20);
            x.hour(999);
            dueShares(x, 10, 11, 199, 220);
            due(INVALID, x.share(-1));
            due(INVALID, x.share(3));
        });
        test("Returns the bits of the float; INVALID_ARGUMENT if what is out of range;", x -> {
            x.hour(1);
            // nought and one are shares too
            due(0, x.share(0));
            due(0x3F800000, x.share(1));
            due(0, x.share(2));
            due(INVALID, x.share(-1));
            due(INVALID, x.share(3));
            due(INVALID, x.share(LEAST));
            due(INVALID, x.share(MOST));
        });
        test("NOT_FOUND if nothing was let in so far.", x -> {
            due(INVALID, x.share(3));
            for (int what = 0; what <= 2; what++) {
                due(NOT_FOUND, x.share(what));
            }
            x.run(9, 0);
            due(NOT_FOUND, x.share(1));
            x.hour(2);
            due(0x3F000000, x.share(1));
            x.hour(0);
            due(0x3F000000, x.share(2));
            x.undo();
            x.undo();
            due(NOT_FOUND, x.share(2));
        });
        test("in floats.", x -> {
            x.field(0, 1, 1, 0);
            for (int hundred = 0; hundred < 200; hundred++) {
                x.run(100, 200);
            }
            dueShares(x, 1, 200000, 3799999, 4000000);
        });
    }

    private static void dueShares(SluiceTurns x, float got, float seeped, float ranOff, float letIn) {
        due(Float.floatToIntBits(got / letIn), x.share(0));
        due(Float.floatToIntBits(seeped / letIn), x.share(1));
        due(Float.floatToIntBits(ranOff / letIn), x.share(2));
    }

    private static void rightAt() {
        chapter("Promise 21: rightAt");
        test("Returns the field that is served at a place:"
                + " fields that want water, the oldest right first, of several the lowest number.", x -> {
            planks(x, 1);
            x.field(0, 99, 5, 7);
            x.field(1, 99, 5, 0);
            x.field(0, 4, 5, 7);
            x.field(1, 99, 5, 99);
            x.field(0, 99, 5, 7);
            x.field(0, 99, 5, 6);
            int[] row = {1, 5, 0, 2, 4, 3};
            for (int place = 0; place < row.length; place++) {
                due(row[place], x.rightAt(place));
            }
            x.hour(200);
            int[] rowWithout2 = {1, 5, 0, 4, 3, NOT_FOUND};
            for (int place = 0; place < row.length; place++) {
                due(rowWithout2[place], x.rightAt(place));
            }
        });
        test("place: 0 for the first one, and so on", x -> {
            x.field(0, 9, 9, 1);
            x.field(0, 9, 9, 0);
            due(1, x.rightAt(0));
            due(0, x.rightAt(1));
        });
        test("Returns the number of the field; INVALID_ARGUMENT if place is negative;", x -> {
            due(INVALID, x.rightAt(-1));
            due(INVALID, x.rightAt(LEAST));
            x.field(0, 9, 9, 1);
            due(INVALID, x.rightAt(-1));
            due(0, x.rightAt(0));
        });
        test("NOT_FOUND if there are not so many.", x -> {
            due(NOT_FOUND, x.rightAt(0));
            fields(x, 0, 10);
            due(9, x.rightAt(9));
            due(NOT_FOUND, x.rightAt(10));
            due(NOT_FOUND, x.rightAt(MOST));
            x.undo();
            due(NOT_FOUND, x.rightAt(9));
            due(8, x.rightAt(8));
        });
    }

    private static void count() {
        chapter("Promise 22: count");
        test("Returns a number.", x -> {
            x.count(0);
            due(1, x.count(0));
            due(0, x.count(14));
        });
        test("what: 0: canals; 1: fields;", x -> {
            due(INVALID, x.count(-1));
            for (int number = 0; number < 7; number++) {
                due(number + 1, x.count(0));
                due(number, x.count(1));
                planks(x, 1);
                fields(x, 0, 1);
            }
            fields(x, 0, 3);
            due(8, x.count(0));
            due(10, x.count(1));
        });
        test("2: fields that want water; 3: fields that call, as a set;", x -> {
            x.field(0, 5, 5, 0);
            x.field(0, 6, 5, 0);
            fields(x, 0, 8);
            due(10, x.count(2));
            due(0, x.count(3));
            x.call(0);
            x.call(1);
            x.call(9);
            due(1 + 2 + 512, x.count(3));
            x.hour(200);
            due(9, x.count(2));
            due(2 + 512, x.count(3));
            x.hour(200);
            due(8, x.count(2));
            due(512, x.count(3));
        });
        test("4: gates that are open, as a set; 5: gates that are tended, as a set;", x -> {
            due(0, x.count(4));
            due(0, x.count(5));
            planks(x, 7);
            x.tend(0, 1);
            x.tend(0, 7);
            due(0, x.count(4));
            due(2 + 128, x.count(5));
            x.open(7);
            due(128, x.count(4));
            hourWith(x, 254, 0);
            due(254, x.count(4));
            x.leave(1);
            due(128, x.count(5));
            due(254, x.count(4));
        });
        test("Returns the number; INVALID_ARGUMENT if what is out of range.", x -> {
            due(INVALID, x.count(-1));
            due(1, x.count(0));
            due(0, x.count(15));
            due(INVALID, x.count(16));
            due(INVALID, x.count(LEAST));
            due(INVALID, x.count(MOST));
        });
    }

    private static void countOfHours() {
        chapter("Promise 22: count");
        test("6: hours so far; 7: buckets let in so far; 8: got by fields so far; 9: seeped so far;"
                + " 10: run off so far;", x -> {
            x.field(0, 12, 10, 0);
            dueHours(x, 0, 0, 0, 0, 0);
            x.hour(0);
            dueHours(x, 1, 0, 0, 0, 0);
            x.hour(999);
            dueHours(x, 2, 200, 10, 10, 180);
            x.run(100, 1);
            dueHours(x, 102, 300, 10, 110, 180);
            x.run(2, 20);
            dueHours(x, 104, 340, 12, 112, 216);
            x.undo();
            dueHours(x, 102, 300, 10, 110, 180);
        });
        test("so far;", x -> {
            for (int hundred = 0; hundred < 200; hundred++) {
                x.run(100, 999);
            }
            dueHours(x, 20000, 4000000, 0, 200000, 3800000);
        });
    }

    private static void dueHours(SluiceTurns x, int hours, int letIn, int got, int seeped, int ranOff) {
        due(hours, x.count(6));
        due(letIn, x.count(7));
        due(got, x.count(8));
        due(seeped, x.count(9));
        due(ranOff, x.count(10));
    }

    private static void countOfTurnsAndTexts() {
        chapter("Promise 22: count");
        test("11: turns; 12: the turn that is on (NOT_FOUND if there is none);"
                + " 13: how many of its hours have gone by;", x -> {
            due(0, x.count(11));
            due(NOT_FOUND, x.count(12));
            due(0, x.count(13));
            for (int turn = 1; turn <= 8; turn++) {
                x.turn(0, 20);
                due(turn, x.count(11));
            }
            due(0, x.count(12));
            x.run(19, 0);
            due(19, x.count(13));
            x.run(1, 0);
            due(1, x.count(12));
            due(0, x.count(13));
            x.run(100, 0);
            x.run(39, 0);
            due(7, x.count(12));
            due(19, x.count(13));
            x.noTurns();
            due(NOT_FOUND, x.count(12));
            due(0, x.count(13));
        });
        test("14: states in the history; 15: the length of the text", x -> {
            for (int change = 0; change < 6; change++) {
                due(Math.min(change, 4), x.count(14));
                x.hour(0);
            }
            x.undo();
            due(3, x.count(14));
            for (int length = 0; length < 62; length++) {
                due(Math.min(length, 60), x.count(15));
                x.type('a');
            }
            due(3, x.count(14));
            x.clearText();
            due(0, x.count(15));
        });
    }
}
