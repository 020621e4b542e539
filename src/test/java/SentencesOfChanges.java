import java.util.function.Consumer;
import java.util.function.ToIntFunction;

/** The sentences that tell of sets, changes and errors, and of the promises 1 and 23. */
final class SentencesOfChanges extends Sentences {
    private SentencesOfChanges() {
    }

    static void all() {
        wholeObject();
        changes();
        history();
        whichErrorGoesAhead();
        errorsChangeNothing();
        numbersOfNothing();
        constants();
        newObject();
        undo();
    }

    private static void wholeObject() {
        chapter("What it is");
        test("An object is used for at most 512 calls after it has been made; what later calls answer is free.", x -> {
            for (int call = 1; call <= 511; call++) {
                x.run(39, 1);
            }
            due(511 * 39, x.count(6));
        });
        chapter("Terms");
        test("Sets are told as bits: bit k is for number k.", x -> {
            planks(x, 7);
            fields(x, 7, 10);
            x.tend(0, 1);
            x.tend(0, 7);
            due(2 + 128, x.count(5));
            due(128, x.open(7));
            due(128 + 2, x.open(1));
            due(1, x.call(0));
            due(2, x.call(9));
            due(1 + 512, x.count(3));
            due(254, x.canalOf(0, 6));
            due(1, x.turn(128, 1));
            due(10, x.would(128, 200, 0));
            due(0, x.would(2, 200, 0));
            due(INVALID, x.leastGates(1024, 200, 1));
            due(NOT_FOUND, x.leastGates(512, 200, 1));
        });
    }

    /** A terrace in which each of the changes is possible. */
    private static void ready(SluiceTurns x) {
        planks(x, 3);
        x.field(1, 99, 10, 5);
        x.tend(0, 1);
        x.tend(0, 2);
        x.open(1);
        x.turn(4, 2);
        x.turn(2, 2);
        x.run(3, 100);
        write(x, "h7;r1,7;");
    }

    private static int change(SluiceTurns x, int change) {
        switch (change) {
            case 0: return x.canal(1, SCREW, 50, 5);
            case 1: return x.field(1, 20, 5, 9);
            case 2: return x.tend(2, 3);
            case 3: return x.leave(1);
            case 4: return x.open(2);
            case 5: return x.close(1);
            case 6: return x.call(0);
            case 7: return x.turn(8, 9);
            case 8: return x.noTurns();
            case 9: return x.hour(99);
            case 10: return x.run(3, 99);
            default: return x.play();
        }
    }

    private static void changes() {
        chapter("Changes and errors");
        for (int number = 0; number < 12; number++) {
            int change = number;
            test("The changes are the calls of canal, field, tend, leave, open, close, call, turn, noTurns, hour, run"
                    + " and play that return no error.", x -> {
                ready(x);
                SluiceTurns before = new SluiceTurns();
                ready(before);
                while (x.undo() > 1) {
                    before.undo();
                }
                before.undo();
                due(1, x.count(14));
                due(1, change(x, change) >= 0 ? 1 : 0);
                due(2, x.count(14));
                due(1, x.undo());
                dueSame(PictureOf.objectWithAll(before), PictureOf.objectWithAll(x));
            });
        }
        test("The changes are the calls", x -> {
            ready(x);
            x.undo();
            due(3, x.count(14));
            x.canalOf(0, 6);
            x.fieldOf(0, 6);
            x.turnOf(0, 0);
            x.share(0);
            x.would(2, 100, 0);
            x.leastGates(1, 100, 2);
            x.fewestBuckets(0);
            x.hoursFor(100);
            x.rightAt(0);
            x.count(0);
            x.fault(0);
            due(3, x.count(14));
            x.type('h');
            x.clearText();
            due(3, x.count(14));
            due(2, x.undo());
        });
        test("noTurns, hour, run and play that return no error.", x -> {
            // also where nothing else becomes different
            x.noTurns();
            due(1, x.count(14));
            x.play();
            due(2, x.count(14));
            x.hour(0);
            due(3, x.count(14));
            x.run(1, 0);
            due(4, x.count(14));
        });
        test("that return no error.", x -> {
            due(INVALID, x.canal(1, 0, 1, 0));
            due(INVALID, x.field(1, 1, 1, 0));
            due(INVALID, x.tend(0, 1));
            due(INVALID, x.leave(1));
            due(INVALID, x.open(1));
            due(INVALID, x.close(1));
            due(INVALID, x.call(0));
            due(INVALID, x.turn(2, 1));
            due(INVALID, x.hour(-1));
            due(INVALID, x.run(0, 1));
            write(x, "x");
            due(NOT_POSSIBLE, x.play());
            due(0, x.count(14));
            due(NOT_POSSIBLE, x.undo());
        });
    }

    private static void history() {
        chapter("Changes and errors");
        test("A history of at most 4 states is kept:", x -> {
            for (int change = 1; change <= 4; change++) {
                x.hour(change);
                due(change, x.count(14));
            }
            x.hour(5);
            due(4, x.count(14));
            x.hour(6);
            due(4, x.count(14));
            for (int left = 3; left >= 0; left--) {
                due(left, x.undo());
            }
            due(NOT_POSSIBLE, x.undo());
        });
        test("each change records everything before it but the text,", x -> {
            ready(x);
            SluiceTurns before = new SluiceTurns();
            ready(before);
            x.play();
            x.clearText();
            x.type('x');
            x.undo();
            dueSame(PictureOf.object(before), PictureOf.object(x));
            due(1, x.count(15));
            due(0, x.fault(0));
        });
        test("each change records everything before it", x -> {
            // the last of all canals, fields and turns too
            many(x);
            SluiceTurns before = new SluiceTurns();
            many(before);
            write(x, "r2,200;");
            x.play();
            x.noTurns();
            x.leave(7);
            x.undo();
            x.undo();
            x.undo();
            dueSame(PictureOf.object(before), PictureOf.object(x));
        });
        test("records everything before it", x -> {
            // what is built anew behind undo has nothing of what was there before
            planks(x, 6);
            fields(x, 0, 9);
            x.canal(0, SCREW, 9, 100);
            x.tend(1, 7);
            x.open(7);
            x.hour(200);
            due(9, x.canalOf(7, 7));
            dueUndone(x, 4, 0);
            due(7, x.canal(0, PLANK, 9, 0));
            due(NOT_FOUND, x.canalOf(7, 5));
            due(0, x.canalOf(7, 4));
            due(0, x.canalOf(7, 7) + x.canalOf(7, 8) + x.canalOf(7, 9));
            x.field(7, 5, 5, 5);
            x.call(9);
            x.hour(200);
            dueUndone(x, 3, 1);
            due(9, x.field(0, 5, 5, 60));
            due(0, x.fieldOf(9, 4) + x.fieldOf(9, 5));
            due(0, x.rightAt(0));
            due(9, x.rightAt(9));
        });
        test("and if there are 5 states then, the oldest one is dropped.", x -> {
            for (int width = 1; width <= 4; width++) {
                x.canal(0, PLANK, width, 0);
            }
            due(4, x.count(14));
            for (int left = 3; left >= 0; left--) {
                due(left, x.undo());
            }
            // all four of four: none was dropped
            due(1, x.count(0));
        });
        test("if there are 5 states then, the oldest one is dropped.", x -> {
            for (int width = 1; width <= 5; width++) {
                x.canal(0, PLANK, width, 0);
            }
            for (int canals = 5; canals >= 2; canals--) {
                x.undo();
                due(canals, x.count(0));
            }
            due(NOT_POSSIBLE, x.undo());
            due(2, x.count(0));
            due(1, x.canalOf(1, 2));
            for (int change = 0; change < 6; change++) {
                x.canal(1, PLANK, 9, 0);
            }
            due(8, x.count(0));
            for (int canals = 7; canals >= 4; canals--) {
                x.undo();
                due(canals, x.count(0));
            }
            due(NOT_POSSIBLE, x.undo());
        });
    }

    private static void dueUndone(SluiceTurns x, int changes, int left) {
        for (int i = changes - 1; i >= 0; i--) {
            due(left + i, x.undo());
        }
    }

    /** All canals, fields and turns are there, and the last ones of them matter. */
    private static void many(SluiceTurns x) {
        planks(x, 5);
        fields(x, 0, 9);
        for (int turn = 0; turn < 7; turn++) {
            x.turn(0, 1);
        }
        x.canal(4, PLANK, 300, 0);
        x.canal(5, SCREW, 300, 100);
        x.field(7, 20, 15, 3);
        x.turn(32 + 128, 20);
        x.tend(1, 7);
        x.run(8, 100);
    }

    /** All canals, fields and turns are there, crew 2 tends two gates, and there were 20000 hours. */
    private static void full(SluiceTurns x) {
        planks(x, 7);
        fields(x, 1, 10);
        x.tend(2, 1);
        x.tend(2, 2);
        for (int turn = 0; turn < 8; turn++) {
            x.turn(2, 20);
        }
        runUntil(x, 20000);
    }

    private static void whichErrorGoesAhead() {
        chapter("Changes and errors");
        test("If several errors apply to a call, INVALID_ARGUMENT is returned rather than NOT_POSSIBLE,", x -> {
            x.canal(0, SCREW, 9, 0);
            x.field(0, 9, 9, 0);
            due(NOT_POSSIBLE, x.tend(0, 1));
            due(INVALID, x.tend(-1, 1));
            due(INVALID, x.tend(0, 2));
            due(NOT_POSSIBLE, x.leave(1));
            due(INVALID, x.leave(2));
            due(NOT_POSSIBLE, x.open(1));
            due(INVALID, x.open(2));
            due(NOT_POSSIBLE, x.close(1));
            due(INVALID, x.close(2));
            x.call(0);
            due(NOT_POSSIBLE, x.call(0));
            due(INVALID, x.call(1));
        });
        test("NOT_POSSIBLE rather than LIMIT_REACHED,", x -> {
            for (int kind : new int[] {PLANK, PLANK, PLANK, SCREW, SCREW, FLOAT, FLOAT}) {
                x.canal(0, kind, 9, 0);
            }
            x.tend(0, 1);
            x.tend(0, 2);
            due(LIMIT, x.tend(0, 3));
            due(NOT_POSSIBLE, x.tend(0, 1));
            due(NOT_POSSIBLE, x.tend(0, 4));
            x.tend(2, 3);
            x.tend(2, 7);
            due(LIMIT, x.tend(2, 4));
            due(NOT_POSSIBLE, x.tend(2, 1));
            due(NOT_POSSIBLE, x.tend(2, 7));
            due(INVALID, x.tend(2, 0));
            due(INVALID, x.tend(3, 1));
        });
        test("INVALID_ARGUMENT is returned rather than NOT_POSSIBLE, NOT_POSSIBLE rather than LIMIT_REACHED,", x -> {
            full(x);
            due(LIMIT, x.canal(0, 0, 1, 0));
            due(INVALID, x.canal(8, 0, 1, 0));
            due(INVALID, x.canal(0, 0, 501, 0));
            due(LIMIT, x.field(0, 1, 1, 0));
            due(INVALID, x.field(0, 1, 1, 100));
            due(LIMIT, x.tend(2, 3));
            due(INVALID, x.tend(2, 8));
            due(LIMIT, x.turn(2, 1));
            due(INVALID, x.turn(1, 1));
            due(INVALID, x.turn(2, 21));
            due(LIMIT, x.hour(0));
            due(INVALID, x.hour(1000));
            due(LIMIT, x.run(1, 0));
            due(INVALID, x.run(0, 0));
            due(INVALID, x.run(101, 0));
            due(INVALID, x.run(1, -1));
            write(x, "012345678901234567890123456789012345678901234567890123456789");
            due(LIMIT, x.type(32));
            due(INVALID, x.type(31));
        });
        test("and LIMIT_REACHED rather than NOT_FOUND.", x -> {
            // no call can answer both of them; NOT_FOUND stands behind INVALID_ARGUMENT too
            due(NOT_FOUND, x.canalOf(0, 0));
            due(INVALID, x.canalOf(0, 10));
            due(INVALID, x.canalOf(1, 0));
            due(NOT_FOUND, x.share(0));
            due(INVALID, x.share(3));
            due(NOT_FOUND, x.rightAt(0));
            due(INVALID, x.rightAt(-1));
            due(NOT_FOUND, x.fault(0));
            due(INVALID, x.fault(3));
            due(NOT_FOUND, x.count(12));
            due(INVALID, x.count(16));
            x.field(0, 9, 9, 0);
            due(NOT_FOUND, x.fieldOf(0, 7));
            due(INVALID, x.fieldOf(0, 8));
            due(NOT_FOUND, x.leastGates(1, 0, 1));
            due(INVALID, x.leastGates(1, 0, 6));
            due(NOT_FOUND, x.hoursFor(0));
            due(INVALID, x.hoursFor(-1));
            due(INVALID, x.fewestBuckets(1));
        });
    }

    private static void errorsChangeNothing() {
        chapter("Changes and errors");
        Consumer<SluiceTurns> ready = SentencesOfChanges::ready;
        dueUnchanged(ready, INVALID, x -> x.canal(0, 3, 9, 9));
        dueUnchanged(ready, INVALID, x -> x.field(0, 9, 9, 100));
        dueUnchanged(ready, INVALID, x -> x.tend(3, 3));
        dueUnchanged(ready, NOT_POSSIBLE, x -> x.tend(2, 1));
        dueUnchanged(ready, NOT_POSSIBLE, x -> x.tend(1, 3));
        dueUnchanged(ready, LIMIT, x -> x.tend(0, 3));
        dueUnchanged(ready, INVALID, x -> x.leave(0));
        dueUnchanged(ready, NOT_POSSIBLE, x -> x.leave(3));
        dueUnchanged(ready, INVALID, x -> x.open(4));
        dueUnchanged(ready, NOT_POSSIBLE, x -> x.open(1));
        dueUnchanged(ready, NOT_POSSIBLE, x -> x.open(3));
        dueUnchanged(ready, INVALID, x -> x.close(0));
        dueUnchanged(ready, NOT_POSSIBLE, x -> x.close(2));
        dueUnchanged(ready, NOT_POSSIBLE, x -> x.close(3));
        dueUnchanged(ready, INVALID, x -> x.call(1));
        dueUnchanged(ready.andThen(x -> x.call(0)), NOT_POSSIBLE, x -> x.call(0));
        dueUnchanged(ready, INVALID, x -> x.turn(16, 1));
        dueUnchanged(ready, INVALID, x -> x.turn(2, 21));
        dueUnchanged(ready, INVALID, x -> x.hour(1000));
        dueUnchanged(ready, INVALID, x -> x.run(1, 1000));
        dueUnchanged(ready, INVALID, x -> x.run(101, 1));
        dueUnchanged(ready, INVALID, x -> x.would(1, 1, 1));
        dueUnchanged(ready, INVALID, x -> x.leastGates(2, 1, 1));
        dueUnchanged(ready, NOT_FOUND, x -> x.leastGates(1, 0, 1));
        dueUnchanged(ready, INVALID, x -> x.fewestBuckets(1));
        dueUnchanged(ready, NOT_FOUND, x -> x.hoursFor(0));
        dueUnchanged(ready, INVALID, x -> x.hoursFor(1000));
        dueUnchanged(ready, INVALID, x -> x.type(31));
        dueUnchanged(ready, NOT_FOUND, x -> x.fault(0));
        dueUnchanged(ready.andThen(x -> x.type('o')), NOT_POSSIBLE, x -> x.play());
        dueUnchanged(ready.andThen(x -> write(x, "c1;h99;c1;")), NOT_POSSIBLE, x -> x.play());
        dueUnchanged(ready.andThen(x -> x.field(1, 1, 1, 0)).andThen(x -> x.run(2, 100)), NOT_POSSIBLE,
                x -> x.call(1));
        Consumer<SluiceTurns> full = SentencesOfChanges::full;
        dueUnchanged(full, LIMIT, x -> x.canal(0, 0, 9, 9));
        dueUnchanged(full, LIMIT, x -> x.field(0, 9, 9, 9));
        dueUnchanged(full, LIMIT, x -> x.turn(2, 9));
        dueUnchanged(full, LIMIT, x -> x.hour(9));
        dueUnchanged(full, LIMIT, x -> x.run(1, 9));
        dueUnchanged(x -> write(x, "h1;".repeat(20)), LIMIT, x -> x.type('h'));
        dueUnchanged(x -> x.type('h'), NOT_POSSIBLE, x -> x.undo());
    }

    /** Behind a call that returns an error the object is as another one without it, and so is its history. */
    private static void dueUnchanged(Consumer<SluiceTurns> build, int error, ToIntFunction<SluiceTurns> call) {
        for (int undone = 0; undone < 2; undone++) {
            boolean isUndone = undone == 1;
            test("A call that returns an error changes nothing.", x -> {
                build.accept(x);
                due(error, call.applyAsInt(x));
                SluiceTurns without = new SluiceTurns();
                build.accept(without);
                if (isUndone) {
                    x.undo();
                    without.undo();
                }
                dueSame(PictureOf.objectWithAll(without), PictureOf.objectWithAll(x));
            });
        }
    }

    private static void numbersOfNothing() {
        chapter("Changes and errors");
        test("If there is no canal, gate, field or turn with a certain number, this is INVALID_ARGUMENT.", x -> {
            planks(x, 2);
            fields(x, 0, 2);
            x.turn(2, 1);
            x.turn(2, 1);
            int[] none = {-1, 3, LEAST, MOST};
            for (int number : none) {
                due(INVALID, x.canal(number, 0, 1, 0));
                due(INVALID, x.field(number, 1, 1, 0));
                due(INVALID, x.canalOf(number, 2));
                due(INVALID, x.tend(0, number));
                due(INVALID, x.leave(number));
                due(INVALID, x.open(number));
                due(INVALID, x.close(number));
            }
            int[] noneOfTwo = {-1, 2, LEAST, MOST};
            for (int number : noneOfTwo) {
                due(INVALID, x.call(number));
                due(INVALID, x.fieldOf(number, 0));
                due(INVALID, x.fewestBuckets(number));
                due(INVALID, x.turnOf(number, 0));
            }
            due(INVALID, x.would(0, 0, 12));
            due(INVALID, x.would(8, 0, 0));
            due(INVALID, x.leastGates(4, 0, 1));
            due(INVALID, x.turn(8, 1));
        });
        test("this is INVALID_ARGUMENT.", x -> {
            planks(x, 2);
            fields(x, 0, 2);
            x.turn(2, 1);
            x.turn(2, 1);
            due(200, x.canalOf(0, 2));
            due(500, x.canalOf(2, 2));
            due(0, x.fieldOf(0, 0));
            due(0, x.fieldOf(1, 0));
            due(2, x.fewestBuckets(0));
            due(2, x.turnOf(0, 0));
            due(2, x.turnOf(1, 0));
            due(1, x.call(0));
            due(2, x.call(1));
            due(1, x.tend(0, 2));
            due(4, x.open(2));
            due(0, x.close(2));
            due(0, x.leave(2));
            due(1, x.would(0, 9, 11));
            due(0, x.would(6, 0, 0));
            due(NOT_FOUND, x.leastGates(3, 0, 1));
            due(3, x.canal(2, 0, 1, 0));
            due(2, x.field(3, 1, 1, 0));
        });
        test("(There is no gate 0.)", x -> {
            planks(x, 1);
            due(INVALID, x.tend(2, 0));
            due(INVALID, x.leave(0));
            due(INVALID, x.open(0));
            due(INVALID, x.close(0));
            due(INVALID, x.turn(1, 1));
            due(INVALID, x.turn(3, 1));
            due(INVALID, x.would(1, 0, 0));
            due(INVALID, x.would(3, 0, 0));
            dueFault(x, "o0;", 0, 2, 0);
            dueFault(x, "c0;", 0, 2, 0);
            due(0, x.count(4) + x.count(5));
            due(1, x.tend(2, 1));
            due(2, x.open(1));
            due(0, x.close(1));
            due(2, x.leave(1));
            due(0, x.would(2, 0, 0));
        });
    }

    private static void constants() {
        chapter("Changes and errors");
        test("The constants: INVALID_ARGUMENT = -1000001: An argument is out of its range, or there is no such canal,"
                + " gate, field or turn.", x -> {
            due(-1000001, SluiceTurns.INVALID_ARGUMENT);
            due(-1000001, x.hour(-1));
            due(-1000001, x.canalOf(1, 2));
        });
        test("NOT_POSSIBLE = -1000002: The call is not possible in the present state.", x -> {
            due(-1000002, SluiceTurns.NOT_POSSIBLE);
            due(-1000002, x.undo());
        });
        test("LIMIT_REACHED = -1000003: A fixed limit has been reached.", x -> {
            due(-1000003, SluiceTurns.LIMIT_REACHED);
            planks(x, 7);
            due(-1000003, x.canal(0, 0, 1, 0));
        });
        test("NOT_FOUND = -1000004: There is no such value.", x -> {
            due(-1000004, SluiceTurns.NOT_FOUND);
            due(-1000004, x.rightAt(0));
        });
    }

    private static void newObject() {
        chapter("Promise 1: A new object");
        test("Creates a terrace with the canal 0,", x -> {
            due(1, x.count(0));
            due(200, x.canalOf(0, 2));
            due(50, x.canalOf(0, 3));
            due(0, x.canalOf(0, 6));
            for (int what = 7; what <= 9; what++) {
                due(0, x.canalOf(0, what));
            }
            due(INVALID, x.canalOf(1, 2));
            due(0, x.hour(20));
            due(19, x.canalOf(0, 9));
        });
        test("without fields", x -> {
            due(0, x.count(1));
            due(0, x.count(2));
            due(INVALID, x.fieldOf(0, 0));
            due(INVALID, x.call(0));
            due(INVALID, x.fewestBuckets(0));
            due(NOT_FOUND, x.rightAt(0));
            due(0, x.hoursFor(0));
            due(INVALID, x.leastGates(1, 0, 1));
            due(INVALID, x.would(0, 0, 10));
        });
        test("and turns.", x -> {
            due(0, x.count(11));
            due(NOT_FOUND, x.count(12));
            due(0, x.count(13));
            due(INVALID, x.turnOf(0, 0));
            due(0, x.noTurns());
        });
        test("Creates a terrace", x -> {
            due(NOT_POSSIBLE, x.undo());
            for (int what = 3; what <= 15; what++) {
                due(what == 12 ? NOT_FOUND : 0, x.count(what));
            }
            // another object has nothing of the first one
            planks(x, 1);
            tendAndOpen(x, 1);
            x.type('h');
            due(1, new SluiceTurns().count(0));
            due(0, new SluiceTurns().count(4));
            due(0, new SluiceTurns().count(15));
            due(INVALID, new SluiceTurns().leave(1));
        });
    }

    private static void undo() {
        chapter("Promise 23: undo");
        test("Restores the latest state of the history, which is removed from it.", x -> {
            x.hour(1);
            x.hour(2);
            x.hour(3);
            x.undo();
            due(3, x.count(7));
            x.undo();
            due(1, x.count(7));
            x.hour(40);
            due(2, x.count(14));
            x.undo();
            due(1, x.count(7));
            x.undo();
            due(0, x.count(7));
            due(0, x.count(6));
        });
        test("Returns the number of states that are left in the history;", x -> {
            x.hour(1);
            due(0, x.undo());
            x.hour(1);
            x.hour(1);
            due(1, x.undo());
            x.run(3, 1);
            x.run(3, 1);
            x.run(3, 1);
            x.run(3, 1);
            for (int left = 3; left >= 0; left--) {
                due(left, x.undo());
                due(left, x.count(14));
            }
        });
        test("NOT_POSSIBLE if it is empty.", x -> {
            due(NOT_POSSIBLE, x.undo());
            x.hour(1);
            due(0, x.undo());
            due(NOT_POSSIBLE, x.undo());
            x.type('h');
            due(NOT_POSSIBLE, x.undo());
            due(1, x.count(15));
        });
    }
}
