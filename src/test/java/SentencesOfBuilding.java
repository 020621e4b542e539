/** The sentences of the promises 2 to 10. */
final class SentencesOfBuilding extends Sentences {
    private SentencesOfBuilding() {
    }

    static void all() {
        canal();
        canalAnswers();
        field();
        fieldAnswers();
        tend();
        leave();
        open();
        close();
        call();
        turn();
        noTurns();
    }

    private static void canal() {
        chapter("Promise 2: canal");
        test("Adds a canal with its gate.", x -> {
            x.canal(0, SCREW, 77, 88);
            due(2, x.count(0));
            due(0, x.canalOf(1, 0));
            due(SCREW, x.canalOf(1, 1));
            due(77, x.canalOf(1, 2));
            due(88, x.canalOf(1, 3));
            due(0, x.canalOf(1, 4));
            due(NOT_FOUND, x.canalOf(1, 5));
            for (int what = 6; what <= 9; what++) {
                due(0, x.canalOf(1, what));
            }
            due(1, x.tend(1, 1));
            due(2, x.open(1));
        });
        test("parent: number of a canal", x -> {
            due(INVALID, x.canal(-1, PLANK, 9, 0));
            due(INVALID, x.canal(1, PLANK, 9, 0));
            due(1, x.canal(0, PLANK, 9, 0));
            due(2, x.canal(1, PLANK, 9, 0));
            due(3, x.canal(2, PLANK, 9, 0));
            due(INVALID, x.canal(4, PLANK, 9, 0));
            due(INVALID, x.canal(LEAST, PLANK, 9, 0));
            due(INVALID, x.canal(MOST, PLANK, 9, 0));
            due(4, x.count(0));
        });
        test("kind: 0 to 2", x -> {
            due(INVALID, x.canal(0, -1, 9, 0));
            due(1, x.canal(0, 0, 9, 0));
            due(2, x.canal(0, 2, 9, 0));
            due(INVALID, x.canal(0, 3, 9, 0));
            due(INVALID, x.canal(0, LEAST, 9, 0));
            due(INVALID, x.canal(0, MOST, 9, 0));
            due(0, x.canalOf(1, 1));
            due(2, x.canalOf(2, 1));
        });
        test("width: 1 to 500", x -> {
            due(INVALID, x.canal(0, PLANK, 0, 0));
            due(1, x.canal(0, PLANK, 1, 0));
            due(2, x.canal(0, PLANK, 500, 0));
            due(INVALID, x.canal(0, PLANK, 501, 0));
            due(INVALID, x.canal(0, PLANK, -1, 0));
            due(INVALID, x.canal(0, PLANK, LEAST, 0));
            due(INVALID, x.canal(0, PLANK, MOST, 0));
            due(1, x.canalOf(1, 2));
            due(500, x.canalOf(2, 2));
        });
        test("seepage: 0 to 500", x -> {
            due(INVALID, x.canal(0, PLANK, 9, -1));
            due(1, x.canal(0, PLANK, 9, 0));
            due(2, x.canal(0, PLANK, 9, 500));
            due(INVALID, x.canal(0, PLANK, 9, 501));
            due(INVALID, x.canal(0, PLANK, 9, LEAST));
            due(INVALID, x.canal(0, PLANK, 9, MOST));
            due(0, x.canalOf(1, 3));
            due(500, x.canalOf(2, 3));
        });
    }

    private static void canalAnswers() {
        chapter("Promise 2: canal");
        test("Returns its number;", x -> {
            due(1, x.canal(0, PLANK, 9, 0));
            due(INVALID, x.canal(0, PLANK, 0, 0));
            due(2, x.canal(0, PLANK, 9, 0));
            x.undo();
            due(2, x.canal(1, SCREW, 8, 7));
            due(SCREW, x.canalOf(2, 1));
            due(8, x.canalOf(2, 2));
        });
        test("INVALID_ARGUMENT if an argument is out of range;", x -> {
            due(INVALID, x.canal(1, 3, 0, 501));
            due(INVALID, x.canal(1, 3, 0, 0));
            due(INVALID, x.canal(0, 0, 0, 501));
            due(1, x.count(0));
            due(1, x.canal(0, 0, 1, 500));
        });
        test("LIMIT_REACHED if there are 8 canals.", x -> {
            planks(x, 6);
            due(7, x.count(0));
            due(7, x.canal(0, PLANK, 9, 0));
            due(LIMIT, x.canal(0, PLANK, 9, 0));
            due(LIMIT, x.canal(7, FLOAT, 500, 500));
            due(INVALID, x.canal(8, PLANK, 9, 0));
            x.undo();
            due(7, x.canal(0, PLANK, 9, 0));
        });
    }

    private static void field() {
        chapter("Promise 3: field");
        test("Adds a field.", x -> {
            planks(x, 1);
            x.field(1, 55, 44, 33);
            due(1, x.count(1));
            int[] want = {1, 55, 44, 33, 0, 0, 1, NOT_FOUND};
            for (int what = 0; what < 8; what++) {
                due(want[what], x.fieldOf(0, what));
            }
        });
        test("canal: number of a canal", x -> {
            due(INVALID, x.field(-1, 9, 9, 9));
            due(0, x.field(0, 9, 9, 9));
            due(INVALID, x.field(1, 9, 9, 9));
            planks(x, 7);
            due(1, x.field(7, 9, 9, 9));
            due(INVALID, x.field(8, 9, 9, 9));
            due(INVALID, x.field(LEAST, 9, 9, 9));
            due(INVALID, x.field(MOST, 9, 9, 9));
            due(7, x.fieldOf(1, 0));
        });
        test("need: 1 to 999", x -> {
            due(INVALID, x.field(0, 0, 9, 9));
            due(0, x.field(0, 1, 9, 9));
            due(1, x.field(0, 999, 9, 9));
            due(INVALID, x.field(0, 1000, 9, 9));
            due(INVALID, x.field(0, LEAST, 9, 9));
            due(INVALID, x.field(0, MOST, 9, 9));
            due(1, x.fieldOf(0, 1));
            due(999, x.fieldOf(1, 1));
        });
        test("mouth: 1 to 200", x -> {
            due(INVALID, x.field(0, 9, 0, 9));
            due(0, x.field(0, 9, 1, 9));
            due(1, x.field(0, 9, 200, 9));
            due(INVALID, x.field(0, 9, 201, 9));
            due(INVALID, x.field(0, 9, LEAST, 9));
            due(INVALID, x.field(0, 9, MOST, 9));
            due(1, x.fieldOf(0, 2));
            due(200, x.fieldOf(1, 2));
        });
        test("right: 0 to 99", x -> {
            due(INVALID, x.field(0, 9, 9, -1));
            due(0, x.field(0, 9, 9, 0));
            due(1, x.field(0, 9, 9, 99));
            due(INVALID, x.field(0, 9, 9, 100));
            due(INVALID, x.field(0, 9, 9, LEAST));
            due(INVALID, x.field(0, 9, 9, MOST));
            due(0, x.fieldOf(0, 3));
            due(99, x.fieldOf(1, 3));
        });
    }

    private static void fieldAnswers() {
        chapter("Promise 3: field");
        test("Returns its number;", x -> {
            due(0, x.field(0, 9, 9, 9));
            due(INVALID, x.field(0, 0, 9, 9));
            due(1, x.field(0, 9, 9, 9));
            x.undo();
            due(1, x.field(0, 8, 7, 6));
            due(8, x.fieldOf(1, 1));
            due(1, x.rightAt(0));
            due(0, x.rightAt(1));
        });
        test("INVALID_ARGUMENT if an argument is out of range;", x -> {
            due(INVALID, x.field(1, 0, 201, 100));
            due(INVALID, x.field(0, 0, 0, 0));
            due(INVALID, x.field(0, 9, 0, 100));
            due(0, x.count(1));
            due(0, x.field(0, 999, 200, 99));
        });
        test("LIMIT_REACHED if there are 10.", x -> {
            fields(x, 0, 9);
            due(9, x.field(0, 9, 9, 9));
            due(LIMIT, x.field(0, 9, 9, 9));
            due(INVALID, x.field(0, 9, 9, 100));
            due(10, x.count(1));
            x.undo();
            due(9, x.field(0, 9, 9, 9));
        });
    }

    private static void tend() {
        chapter("Promise 4: tend");
        test("Lets a crew tend a gate.", x -> {
            planks(x, 2);
            x.tend(0, 2);
            due(4, x.count(5));
            due(0, x.canalOf(2, 5));
            due(NOT_FOUND, x.canalOf(1, 5));
        });
        test("crew: 0 to 2", x -> {
            planks(x, 2);
            due(INVALID, x.tend(-1, 1));
            due(1, x.tend(0, 1));
            due(1, x.tend(2, 2));
            x.leave(2);
            due(INVALID, x.tend(3, 2));
            due(INVALID, x.tend(LEAST, 2));
            due(INVALID, x.tend(MOST, 2));
        });
        test("gate: number of a gate", x -> {
            due(INVALID, x.tend(2, 1));
            planks(x, 7);
            due(INVALID, x.tend(2, -1));
            due(INVALID, x.tend(2, 0));
            due(1, x.tend(2, 1));
            due(2, x.tend(2, 7));
            due(INVALID, x.tend(0, 8));
            due(INVALID, x.tend(0, LEAST));
            due(INVALID, x.tend(0, MOST));
        });
        test("Returns how many gates it tends then; INVALID_ARGUMENT if an argument is out of range;", x -> {
            planks(x, 4);
            due(1, x.tend(0, 1));
            due(1, x.tend(2, 2));
            due(2, x.tend(0, 3));
            due(INVALID, x.tend(3, 0));
            due(2, x.tend(2, 4));
            x.leave(1);
            x.leave(3);
            due(1, x.tend(0, 3));
        });
        test("NOT_POSSIBLE if the gate is tended, or the crew does not tend its kind;", x -> {
            x.canal(0, PLANK, 9, 0);
            x.canal(0, SCREW, 9, 0);
            x.canal(0, FLOAT, 9, 0);
            due(NOT_POSSIBLE, x.tend(1, 1));
            due(NOT_POSSIBLE, x.tend(0, 2));
            due(NOT_POSSIBLE, x.tend(0, 3));
            due(NOT_POSSIBLE, x.tend(1, 3));
            due(1, x.tend(2, 1));
            due(NOT_POSSIBLE, x.tend(0, 1));
            due(NOT_POSSIBLE, x.tend(2, 1));
            due(2, x.count(5));
            x.leave(1);
            due(1, x.tend(0, 1));
        });
        test("LIMIT_REACHED if it tends 2.", x -> {
            planks(x, 5);
            x.tend(0, 1);
            due(2, x.tend(0, 2));
            due(LIMIT, x.tend(0, 3));
            due(1, x.tend(2, 3));
            due(2, x.tend(2, 4));
            due(LIMIT, x.tend(2, 5));
            x.leave(1);
            due(2, x.tend(0, 5));
        });
    }

    private static void leave() {
        chapter("Promise 5: leave");
        test("Lets a gate be tended no more.", x -> {
            planks(x, 2);
            x.tend(0, 1);
            x.tend(0, 2);
            x.open(1);
            x.leave(1);
            due(4, x.count(5));
            due(NOT_FOUND, x.canalOf(1, 5));
            due(2, x.count(4));
            due(NOT_POSSIBLE, x.close(1));
        });
        test("gate: number of a gate", x -> {
            planks(x, 7);
            x.tend(0, 1);
            x.tend(0, 7);
            due(INVALID, x.leave(-1));
            due(INVALID, x.leave(0));
            due(INVALID, x.leave(8));
            due(INVALID, x.leave(LEAST));
            due(INVALID, x.leave(MOST));
            due(0, x.leave(1));
            due(0, x.leave(7));
        });
        test("Returns the crew that tended it; INVALID_ARGUMENT; NOT_POSSIBLE if it is not tended.", x -> {
            x.canal(0, PLANK, 9, 0);
            x.canal(0, SCREW, 9, 0);
            x.canal(0, FLOAT, 9, 0);
            due(NOT_POSSIBLE, x.leave(1));
            for (int crew = 0; crew <= 2; crew++) {
                x.tend(crew, crew + 1);
            }
            for (int crew = 0; crew <= 2; crew++) {
                due(crew, x.leave(crew + 1));
                due(NOT_POSSIBLE, x.leave(crew + 1));
            }
            due(INVALID, x.leave(4));
        });
    }

    private static void open() {
        chapter("Promise 6: open");
        test("Opens a gate by hand.", x -> {
            planks(x, 2);
            x.tend(0, 2);
            x.open(2);
            due(1, x.canalOf(2, 4));
            due(0, x.canalOf(1, 4));
            x.hour(20);
            due(19, x.canalOf(2, 7));
        });
        test("gate: number of a gate", x -> {
            due(INVALID, x.open(1));
            planks(x, 7);
            x.tend(0, 1);
            x.tend(0, 7);
            due(INVALID, x.open(-1));
            due(INVALID, x.open(0));
            due(INVALID, x.open(8));
            due(INVALID, x.open(LEAST));
            due(INVALID, x.open(MOST));
            due(2, x.open(1));
            due(130, x.open(7));
        });
        test("Returns the set of gates that are open then; INVALID_ARGUMENT;"
                + " NOT_POSSIBLE if it is open, or not tended.", x -> {
            planks(x, 3);
            due(NOT_POSSIBLE, x.open(3));
            x.tend(2, 3);
            due(8, x.open(3));
            due(NOT_POSSIBLE, x.open(3));
            x.tend(2, 1);
            due(8 + 2, x.open(1));
            due(NOT_POSSIBLE, x.open(2));
            due(INVALID, x.open(4));
            due(8 + 2, x.count(4));
        });
    }

    private static void close() {
        chapter("Promise 7: close");
        test("Closes a gate by hand.", x -> {
            planks(x, 2);
            x.tend(0, 1);
            x.tend(0, 2);
            x.open(1);
            x.open(2);
            x.close(2);
            due(0, x.canalOf(2, 4));
            due(1, x.canalOf(1, 4));
            x.hour(20);
            due(0, x.canalOf(2, 7));
        });
        test("gate: number of a gate", x -> {
            due(INVALID, x.close(1));
            planks(x, 7);
            tendAndOpen(x, 1);
            tendAndOpen(x, 7);
            due(INVALID, x.close(-1));
            due(INVALID, x.close(0));
            due(INVALID, x.close(8));
            due(INVALID, x.close(LEAST));
            due(INVALID, x.close(MOST));
            due(128, x.close(1));
            due(0, x.close(7));
        });
        test("Returns the set of gates that are open then; INVALID_ARGUMENT;"
                + " NOT_POSSIBLE if it is closed, or not tended.", x -> {
            planks(x, 3);
            hourWith(x, 14, 0);
            due(NOT_POSSIBLE, x.close(3));
            x.tend(2, 3);
            due(6, x.close(3));
            due(NOT_POSSIBLE, x.close(3));
            x.tend(2, 1);
            due(4, x.close(1));
            due(NOT_POSSIBLE, x.close(2));
            due(INVALID, x.close(4));
            due(4, x.count(4));
        });
    }

    private static void call() {
        chapter("Promise 8: call");
        test("Lets a field call.", x -> {
            planks(x, 1);
            x.field(0, 99, 9, 9);
            x.field(1, 99, 9, 8);
            hourWith(x, 2, 0);
            due(1, x.fieldOf(0, 6));
            x.call(1);
            due(1, x.fieldOf(1, 5));
            due(0, x.fieldOf(0, 5));
            due(0, x.fieldOf(0, 6));
        });
        test("field: number of a field", x -> {
            due(INVALID, x.call(0));
            fields(x, 0, 10);
            due(INVALID, x.call(-1));
            due(1, x.call(0));
            due(2, x.call(9));
            due(INVALID, x.call(10));
            due(INVALID, x.call(LEAST));
            due(INVALID, x.call(MOST));
        });
        test("Returns how many fields call then; INVALID_ARGUMENT;"
                + " NOT_POSSIBLE if it calls, or wants no water.", x -> {
            fields(x, 0, 3);
            x.field(0, 1, 1, 0);
            x.field(0, 2, 1, 0);
            due(1, x.call(4));
            due(NOT_POSSIBLE, x.call(4));
            due(2, x.call(1));
            due(3, x.call(3));
            x.hour(200);
            due(NOT_POSSIBLE, x.call(3));
            due(3, x.call(2));
            x.hour(200);
            due(NOT_POSSIBLE, x.call(4));
            due(NOT_POSSIBLE, x.call(1));
            due(3, x.call(0));
            due(7, x.count(3));
            due(INVALID, x.call(5));
        });
    }

    private static void turn() {
        chapter("Promise 9: turn");
        test("Adds a turn at the end of the row; the first one is on then, and none of its hours has gone by.", x -> {
            planks(x, 2);
            x.turn(2, 3);
            due(0, x.count(12));
            x.run(2, 0);
            x.turn(4, 5);
            due(0, x.count(12));
            due(0, x.count(13));
            x.run(4, 0);
            due(1, x.count(12));
            x.turn(6, 7);
            due(0, x.count(12));
            due(0, x.count(13));
            for (int turn = 0; turn < 3; turn++) {
                due(2 * turn + 2, x.turnOf(turn, 0));
                due(2 * turn + 3, x.turnOf(turn, 1));
            }
        });
        test("gates: a set of gates", x -> {
            planks(x, 7);
            due(1, x.turn(0, 1));
            due(2, x.turn(2, 1));
            due(3, x.turn(254, 1));
            due(INVALID, x.turn(255, 1));
            due(INVALID, x.turn(256, 1));
            due(INVALID, x.turn(-2, 1));
            due(INVALID, x.turn(MOST, 1));
            due(INVALID, x.turn(LEAST, 1));
        });
        test("hours: 1 to 20", x -> {
            due(INVALID, x.turn(0, 0));
            due(1, x.turn(0, 1));
            due(2, x.turn(0, 20));
            due(INVALID, x.turn(0, 21));
            due(INVALID, x.turn(0, -1));
            due(INVALID, x.turn(0, LEAST));
            due(INVALID, x.turn(0, MOST));
            due(1, x.turnOf(0, 1));
            due(20, x.turnOf(1, 1));
        });
        test("Returns how many turns there are then; INVALID_ARGUMENT if there is a bit for no gate,"
                + " or hours is out of range;", x -> {
            due(1, x.turn(0, 1));
            due(INVALID, x.turn(1, 1));
            due(INVALID, x.turn(2, 1));
            due(INVALID, x.turn(LEAST, 1));
            planks(x, 1);
            due(2, x.turn(2, 1));
            due(INVALID, x.turn(3, 1));
            due(INVALID, x.turn(4, 1));
            due(INVALID, x.turn(6, 1));
            due(INVALID, x.turn(2, 21));
            due(3, x.turn(2, 20));
        });
        test("LIMIT_REACHED if there are 8.", x -> {
            for (int turn = 1; turn <= 7; turn++) {
                x.turn(0, 1);
            }
            due(8, x.turn(0, 1));
            due(LIMIT, x.turn(0, 1));
            due(INVALID, x.turn(0, 21));
            due(INVALID, x.turn(1, 1));
            due(8, x.count(11));
            x.noTurns();
            due(1, x.turn(0, 1));
        });
    }

    private static void noTurns() {
        chapter("Promise 10: noTurns");
        test("Takes all turns away; the gates stay as they are.", x -> {
            planks(x, 2);
            x.turn(6, 1);
            x.turn(4, 1);
            x.run(1, 0);
            x.noTurns();
            due(0, x.count(11));
            due(INVALID, x.turnOf(0, 0));
            due(NOT_FOUND, x.count(12));
            due(6, x.count(4));
            x.run(2, 0);
            due(6, x.count(4));
        });
        test("Returns how many there were.", x -> {
            due(0, x.noTurns());
            x.turn(0, 1);
            due(1, x.noTurns());
            due(0, x.noTurns());
            for (int turn = 0; turn < 9; turn++) {
                x.turn(0, 1);
            }
            due(8, x.noTurns());
        });
    }
}
