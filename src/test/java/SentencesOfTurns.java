/** The sentences of the terms that tell of turns and crews. */
final class SentencesOfTurns extends Sentences {
    private SentencesOfTurns() {
    }

    static void all() {
        row();
        gatesOfTurns();
        whereTheRowStands();
        crews();
    }

    private static void dueOn(SluiceTurns x, int turn, int gone) {
        due(turn, x.count(12));
        due(gone, x.count(13));
    }

    private static void row() {
        chapter("Turns");
        test("There are at most 8 turns in a row,", x -> {
            for (int turn = 1; turn <= 8; turn++) {
                due(turn, x.turn(0, turn));
            }
            due(LIMIT, x.turn(0, 9));
            due(8, x.count(11));
            due(8, x.turnOf(7, 1));
            due(INVALID, x.turnOf(8, 1));
        });
        test("each of a set of gates", x -> {
            planks(x, 6);
            due(1, x.turn(0, 1));
            due(2, x.turn(126, 1));
            due(INVALID, x.turn(128, 1));
            due(INVALID, x.turn(1, 1));
            planks(x, 1);
            due(3, x.turn(128, 1));
            due(4, x.turn(254, 1));
            due(INVALID, x.turn(256, 1));
        });
        test("and some hours (1 to 20).", x -> {
            due(INVALID, x.turn(0, 0));
            due(1, x.turn(0, 1));
            due(2, x.turn(0, 20));
            due(INVALID, x.turn(0, 21));
            x.run(1, 0);
            dueOn(x, 1, 0);
            x.run(19, 0);
            dueOn(x, 1, 19);
            x.run(1, 0);
            dueOn(x, 0, 0);
        });
        test("To run some hours means: the first turn is on at first, for its hours, then the next one,", x -> {
            planks(x, 3);
            x.turn(2, 2);
            x.turn(4, 1);
            x.turn(8, 3);
            dueOn(x, 0, 0);
            int[] gates = {2, 2, 4, 8, 8, 8};
            for (int hour = 0; hour < gates.length; hour++) {
                x.run(1, 0);
                due(gates[hour], x.count(4));
            }
        });
        test("and behind the last one the first one again;", x -> {
            planks(x, 7);
            for (int turn = 0; turn < 8; turn++) {
                x.turn(turn == 7 ? 0 : 2 << turn, 1);
            }
            for (int hour = 0; hour < 17; hour++) {
                dueOn(x, hour % 8, 0);
                x.run(1, 0);
                due(hour % 8 == 7 ? 0 : 2 << hour % 8, x.count(4));
            }
        });
        test("behind the last one the first one again", x -> {
            planks(x, 1);
            x.tend(0, 1);
            x.turn(2, 2);
            x.run(2, 0);
            dueOn(x, 0, 0);
            x.close(1);
            x.run(1, 0);
            due(2, x.count(4));
            dueOn(x, 0, 1);
        });
    }

    private static void gatesOfTurns() {
        chapter("Turns");
        test("when the first of its hours is run, a turn opens just its gates", x -> {
            planks(x, 2);
            tendAndOpen(x, 1);
            x.turn(4, 2);
            due(2, x.count(4));
            x.hour(20);
            due(2, x.count(4));
            x.run(1, 20);
            due(4, x.count(4));
            due(0, x.canalOf(1, 7));
            due(19, x.canalOf(2, 7));
        });
        test("(by hand they can be moved behind that).", x -> {
            planks(x, 2);
            x.tend(2, 1);
            x.tend(2, 2);
            x.turn(4, 3);
            x.run(1, 0);
            due(0, x.close(2));
            due(2, x.open(1));
            x.run(1, 20);
            due(2, x.count(4));
            due(19, x.canalOf(1, 7));
            x.run(1, 0);
            due(2, x.count(4));
            x.run(1, 0);
            due(4, x.count(4));
        });
        test("Without turns the gates stay as they are.", x -> {
            planks(x, 2);
            x.run(1, 20);
            due(0, x.count(4));
            tendAndOpen(x, 2);
            x.run(3, 20);
            due(4, x.count(4));
            due(19, x.canalOf(2, 7));
            x.turn(2, 20);
            x.run(1, 0);
            due(2, x.count(4));
            x.noTurns();
            x.run(1, 20);
            due(2, x.count(4));
            dueOn(x, NOT_FOUND, 0);
        });
    }

    private static void whereTheRowStands() {
        chapter("Turns");
        test("(It goes on where it stopped, also if it is run later.)", x -> {
            planks(x, 2);
            x.turn(2, 3);
            x.turn(4, 2);
            x.run(2, 0);
            x.hour(0);
            write(x, "h5;h5;");
            x.play();
            x.field(0, 9, 9, 9);
            dueOn(x, 0, 2);
            x.run(2, 0);
            dueOn(x, 1, 1);
            write(x, "r1,0;");
            x.play();
            dueOn(x, 0, 0);
            due(4, x.count(4));
        });
        test("The turn that is on, and how many of its hours have gone by, are kept"
                + " (behind its last hour the next one is on, with none gone by);", x -> {
            x.turn(0, 2);
            x.turn(0, 1);
            x.turn(0, 20);
            int[] on = {0, 0, 1, 2, 2};
            int[] gone = {0, 1, 0, 0, 1};
            for (int hour = 0; hour < on.length; hour++) {
                dueOn(x, on[hour], gone[hour]);
                x.run(1, 0);
            }
            x.run(17, 0);
            dueOn(x, 2, 19);
            x.run(1, 0);
            dueOn(x, 0, 0);
            x.run(24, 0);
            dueOn(x, 0, 1);
            x.undo();
            dueOn(x, 0, 0);
            x.undo();
            dueOn(x, 2, 19);
        });
        test("when the turns are changed, the first one is on again, and none of its hours has gone by.", x -> {
            planks(x, 2);
            x.turn(2, 2);
            x.turn(4, 2);
            x.run(3, 0);
            dueOn(x, 1, 1);
            due(INVALID, x.turn(4, 21));
            dueOn(x, 1, 1);
            x.turn(6, 2);
            dueOn(x, 0, 0);
            due(4, x.count(4));
            x.run(1, 0);
            due(2, x.count(4));
            dueOn(x, 0, 1);
            x.noTurns();
            dueOn(x, NOT_FOUND, 0);
            x.turn(4, 2);
            dueOn(x, 0, 0);
            x.run(1, 0);
            due(4, x.count(4));
        });
    }

    private static void crews() {
        chapter("Crews");
        test("There are three crews,", x -> {
            planks(x, 2);
            due(INVALID, x.tend(-1, 1));
            due(INVALID, x.tend(3, 1));
            due(1, x.tend(0, 1));
            due(1, x.tend(2, 2));
        });
        test("each of which can tend 2 gates:", x -> {
            int[] kinds = {PLANK, PLANK, PLANK, SCREW, SCREW, SCREW, FLOAT};
            for (int kind : kinds) {
                x.canal(0, kind, 9, 0);
            }
            due(1, x.tend(0, 1));
            due(2, x.tend(0, 2));
            due(LIMIT, x.tend(0, 3));
            due(1, x.tend(1, 4));
            due(2, x.tend(1, 5));
            due(LIMIT, x.tend(1, 6));
            due(1, x.tend(2, 3));
            due(2, x.tend(2, 6));
            due(LIMIT, x.tend(2, 7));
            due(126, x.count(5));
            x.leave(6);
            due(2, x.tend(2, 7));
        });
        test("crew 0 planks alone, crew 1 screws alone, crew 2 all.", x -> {
            for (int kind = 0; kind <= 2; kind++) {
                x.canal(0, kind, 9, 0);
            }
            for (int crew = 0; crew <= 2; crew++) {
                for (int kind = 0; kind <= 2; kind++) {
                    boolean isOfTheCrew = crew == 2 || crew == kind;
                    due(isOfTheCrew ? 1 : NOT_POSSIBLE, x.tend(crew, kind + 1));
                    due(isOfTheCrew ? crew : NOT_POSSIBLE, x.leave(kind + 1));
                }
            }
        });
        test("A gate is tended by one crew at most.", x -> {
            planks(x, 1);
            due(1, x.tend(0, 1));
            due(NOT_POSSIBLE, x.tend(2, 1));
            due(NOT_POSSIBLE, x.tend(0, 1));
            due(0, x.canalOf(1, 5));
            due(0, x.leave(1));
            due(1, x.tend(2, 1));
            due(2, x.canalOf(1, 5));
            due(NOT_POSSIBLE, x.tend(0, 1));
        });
        test("By hand a gate can be opened or closed only if it is tended.", x -> {
            planks(x, 2);
            x.tend(0, 2);
            due(NOT_POSSIBLE, x.open(1));
            due(4, x.open(2));
            x.turn(2 + 4, 1);
            x.run(1, 0);
            due(NOT_POSSIBLE, x.close(1));
            due(2, x.close(2));
            due(1, x.tend(2, 1));
            due(0, x.close(1));
            due(2, x.open(1));
            x.leave(1);
            due(NOT_POSSIBLE, x.close(1));
            due(2, x.count(4));
        });
    }
}
