/** The sentences of the promises 11, 12 and 17 to 20: hours that go by, and what they would bring. */
final class SentencesOfHours extends Sentences {
    private SentencesOfHours() {
    }

    static void all() {
        hour();
        run();
        runAnswers();
        would();
        wouldWhat();
        leastGates();
        leastGatesAnswers();
        fewestBuckets();
        hoursFor();
    }

    private static void hour() {
        chapter("Promise 11: hour");
        test("Lets an hour go by, in which the gates stay as they are, and turns do not matter.", x -> {
            planks(x, 2);
            tendAndOpen(x, 1);
            x.turn(4, 2);
            x.hour(20);
            due(2, x.count(4));
            due(19, x.canalOf(1, 7));
            due(0, x.count(12));
            due(0, x.count(13));
            due(1, x.count(6));
            x.run(1, 0);
            x.hour(0);
            due(4, x.count(4));
            due(1, x.count(13));
        });
        test("buckets: 0 to 999 that are offered", x -> {
            due(INVALID, x.hour(-1));
            due(0, x.hour(0));
            due(0, x.count(7));
            due(0, x.hour(999));
            due(200, x.count(7));
            due(INVALID, x.hour(1000));
            due(INVALID, x.hour(LEAST));
            due(INVALID, x.hour(MOST));
            due(2, x.count(6));
        });
        test("Returns how many buckets fields get; INVALID_ARGUMENT if buckets is out of range;", x -> {
            x.field(0, 25, 10, 0);
            x.field(0, 25, 10, 0);
            due(0, x.hour(1));
            due(1, x.hour(2));
            due(19, x.hour(20));
            due(20, x.hour(200));
            due(10, x.hour(200));
            due(0, x.hour(200));
            due(INVALID, x.hour(1000));
        });
        test("LIMIT_REACHED if there were 20000 hours.", x -> {
            runUntil(x, 19999);
            due(0, x.hour(9));
            due(20000, x.count(6));
            due(LIMIT, x.hour(9));
            due(LIMIT, x.hour(0));
            due(INVALID, x.hour(-1));
            due(9, x.count(7));
            x.undo();
            due(0, x.hour(8));
            due(8, x.count(7));
            due(LIMIT, x.hour(0));
        });
    }

    private static void run() {
        chapter("Promise 12: run");
        test("Runs some hours.", x -> {
            planks(x, 2);
            x.turn(2, 2);
            x.turn(4, 1);
            x.run(2, 20);
            due(2, x.count(6));
            due(2, x.count(4));
            due(19, x.canalOf(1, 7));
            x.run(4, 20);
            due(6, x.count(6));
            due(4, x.count(4));
            due(120, x.count(7));
            due(4 * 19, x.canalOf(1, 9));
            due(2 * 19, x.canalOf(2, 9));
        });
        test("hours: 1 to 100", x -> {
            due(INVALID, x.run(0, 9));
            due(0, x.run(1, 9));
            due(1, x.count(6));
            due(0, x.run(100, 9));
            due(101, x.count(6));
            due(909, x.count(7));
            due(INVALID, x.run(101, 9));
            due(INVALID, x.run(-1, 9));
            due(INVALID, x.run(LEAST, 9));
            due(INVALID, x.run(MOST, 9));
        });
        test("buckets: 0 to 999 that are offered in each hour", x -> {
            due(INVALID, x.run(2, -1));
            due(0, x.run(2, 0));
            due(0, x.count(7));
            due(0, x.run(2, 999));
            due(400, x.count(7));
            due(INVALID, x.run(2, 1000));
            due(INVALID, x.run(2, LEAST));
            due(INVALID, x.run(2, MOST));
            due(4, x.count(6));
        });
    }

    private static void runAnswers() {
        chapter("Promise 12: run");
        test("Returns how many buckets fields get in all; INVALID_ARGUMENT if an argument is out of range;", x -> {
            x.field(0, 25, 10, 0);
            due(0, x.run(3, 1));
            due(9, x.run(1, 10));
            due(16, x.run(100, 200));
            due(0, x.run(100, 200));
            due(INVALID, x.run(0, 1000));
            due(INVALID, x.run(101, 0));
            due(INVALID, x.run(1, 1000));
            due(25, x.count(8));
        });
        test("LIMIT_REACHED if there would be more than 20000 hours.", x -> {
            runUntil(x, 19950);
            due(LIMIT, x.run(51, 9));
            due(LIMIT, x.run(100, 9));
            due(19950, x.count(6));
            due(INVALID, x.run(101, 9));
            due(0, x.run(50, 9));
            due(20000, x.count(6));
            due(LIMIT, x.run(1, 9));
            due(450, x.count(7));
            x.undo();
            x.run(49, 0);
            due(LIMIT, x.run(2, 0));
            due(0, x.run(1, 0));
        });
    }

    private static void would() {
        chapter("Promise 17: would");
        test("Tells what an hour would bring,", x -> {
            planks(x, 1);
            x.field(1, 30, 20, 0);
            due(20, x.would(2, 200, 0));
            due(20, x.would(2, 200, 0));
            due(0, x.count(6) + x.count(4) + x.count(7) + x.fieldOf(0, 4) + x.canalOf(1, 7) + x.canalOf(0, 9));
            due(2, x.count(14));
            hourWith(x, 2, 200);
            due(10, x.would(2, 200, 0));
            due(10, x.would(2, 200, 1));
            due(180, x.would(2, 200, 2));
            // also where no hour more is possible
            runUntil(x, 20000);
            due(10, x.would(2, 200, 0));
        });
        test("with a set of gates open (and all others closed).", x -> {
            planks(x, 2);
            x.field(1, 99, 20, 0);
            x.field(2, 99, 20, 0);
            tendAndOpen(x, 1);
            x.turn(2 + 4, 1);
            due(0, x.would(0, 200, 0));
            due(20, x.would(2, 200, 10));
            due(0, x.would(2, 200, 11));
            due(0, x.would(4, 200, 10));
            due(20, x.would(4, 200, 11));
            due(40, x.would(6, 200, 0));
            due(2, x.count(4));
        });
        test("what an hour would bring,", x -> {
            // at the last ones of all canals and fields as well
            planks(x, 6);
            x.canal(6, SCREW, 500, 100);
            fields(x, 0, 9);
            x.field(7, 99, 15, 51);
            x.call(9);
            due(9, x.would(64, 200, 0));
            due(0, x.would(128, 200, 19));
            due(9 + 15, x.would(64 + 128, 200, 0));
            due(1, x.would(64 + 128, 200, 18));
            due(15, x.would(64 + 128, 200, 19));
            // 181 come into the canal 6 and to the screw, which lets 91 through
            due(10 + 10, x.would(64 + 128, 200, 1));
            due(90 + 66, x.would(64 + 128, 200, 2));
            x.hour(200);
            due(9, x.count(8));
        });
        test("gates: a set of gates", x -> {
            due(0, x.would(0, 9, 0));
            due(INVALID, x.would(2, 9, 0));
            planks(x, 6);
            due(0, x.would(126, 9, 0));
            due(INVALID, x.would(127, 9, 0));
            due(INVALID, x.would(128, 9, 0));
            due(INVALID, x.would(1, 9, 0));
            due(INVALID, x.would(-2, 9, 0));
            due(INVALID, x.would(LEAST, 9, 0));
            due(INVALID, x.would(MOST, 9, 0));
        });
        test("buckets: 0 to 999", x -> {
            x.field(0, 999, 200, 0);
            due(INVALID, x.would(0, -1, 0));
            due(0, x.would(0, 0, 0));
            due(189, x.would(0, 199, 0));
            due(190, x.would(0, 200, 0));
            due(190, x.would(0, 999, 0));
            due(INVALID, x.would(0, 1000, 0));
            due(INVALID, x.would(0, LEAST, 0));
            due(INVALID, x.would(0, MOST, 0));
        });
    }

    private static void wouldWhat() {
        chapter("Promise 17: would");
        test("what: 0: what fields would get in all; 1: what would seep; 2: what would run off;"
                + " 10 plus a field: what this one would get", x -> {
            x.canal(0, PLANK, 500, 100);
            x.field(0, 50, 20, 1);
            x.field(1, 50, 30, 0);
            x.hour(100);
            // 5 seep, 20 and 30 go to the fields, 75 come into the canal 1, where 8 seep
            due(50, x.would(2, 100, 0));
            due(5 + 8, x.would(2, 100, 1));
            due(37, x.would(2, 100, 2));
            due(20, x.would(2, 100, 10));
            due(30, x.would(2, 100, 11));
            due(INVALID, x.would(2, 100, -1));
            due(INVALID, x.would(2, 100, 3));
            due(INVALID, x.would(2, 100, 9));
            due(INVALID, x.would(2, 100, 12));
            due(INVALID, x.would(2, 100, LEAST));
            due(INVALID, x.would(2, 100, MOST));
        });
        test("10 plus a field: what this one would get", x -> {
            due(INVALID, x.would(0, 100, 10));
            for (int field = 0; field < 10; field++) {
                x.field(0, 99, field + 1, field);
            }
            due(1, x.would(0, 100, 10));
            due(10, x.would(0, 100, 19));
            due(INVALID, x.would(0, 100, 20));
        });
        test("Returns the buckets; INVALID_ARGUMENT if an argument is out of range.", x -> {
            x.field(0, 99, 20, 0);
            due(20, x.would(0, 100, 0));
            due(INVALID, x.would(1, 1000, 3));
            due(INVALID, x.would(0, 1000, 0));
            due(INVALID, x.would(1, 100, 0));
            due(INVALID, x.would(0, 100, 3));
        });
    }

    private static void leastGates() {
        chapter("Promise 18: leastGates");
        test("Finds the least set of gates (the fewest gates, of several the least number)", x -> {
            x.canal(0, PLANK, 500, 0);
            x.canal(1, PLANK, 500, 0);
            planks(x, 2);
            x.field(0, 999, 200, 5);
            x.field(2, 999, 1, 0);
            x.field(3, 999, 1, 0);
            x.field(4, 20, 20, 9);
            // the first field takes all water unless one that calls is reached
            due(NOT_FOUND, x.leastGates(8, 200, 1));
            x.call(1);
            due(2 + 4 + 16, x.leastGates(8, 200, 1));
            x.call(2);
            due(8 + 16, x.leastGates(8, 200, 1));
            x.field(1, 999, 1, 0);
            x.call(4);
            due(2 + 16, x.leastGates(8, 200, 1));
            x.field(0, 1, 1, 0);
            due(0, x.leastGates(32, 200, 1));
            x.field(4, 1, 1, 0);
            due(2 + 16, x.leastGates(64, 200, 1));
        });
        test("with which all fields of a set would have got their needs", x -> {
            planks(x, 2);
            x.field(1, 20, 20, 0);
            x.field(2, 20, 20, 0);
            due(2, x.leastGates(1, 200, 1));
            due(4, x.leastGates(2, 200, 1));
            due(6, x.leastGates(3, 200, 1));
            due(2, x.leastGates(1, 22, 1));
            due(NOT_FOUND, x.leastGates(1, 20, 1));
            // what is got already counts
            hourWith(x, 2, 20);
            due(2, x.leastGates(1, 2, 1));
            due(NOT_FOUND, x.leastGates(1, 1, 1));
            hourWith(x, 2, 2);
            due(0, x.leastGates(1, 0, 1));
            due(4, x.leastGates(3, 200, 1));
        });
        test("behind some hours, in each of which just these gates are open.", x -> {
            planks(x, 2);
            x.field(0, 5, 1, 0);
            x.field(2, 40, 20, 0);
            tendAndOpen(x, 2);
            x.turn(4, 1);
            due(NOT_FOUND, x.leastGates(1, 200, 4));
            due(0, x.leastGates(1, 200, 5));
            due(NOT_FOUND, x.leastGates(2, 200, 1));
            due(4, x.leastGates(2, 200, 2));
            due(4, x.leastGates(3, 200, 5));
            due(0, x.count(6) + x.count(13));
            due(4, x.count(4));
        });
    }

    private static void leastGatesAnswers() {
        chapter("Promise 18: leastGates");
        test("fields: a set of fields", x -> {
            due(0, x.leastGates(0, 9, 1));
            due(INVALID, x.leastGates(1, 9, 1));
            for (int field = 0; field < 9; field++) {
                x.field(0, 1, 1, 9);
            }
            due(0, x.leastGates(511, 200, 1));
            due(INVALID, x.leastGates(512, 200, 1));
            x.field(0, 1, 1, 9);
            due(0, x.leastGates(1023, 200, 1));
            due(INVALID, x.leastGates(1024, 200, 1));
            due(INVALID, x.leastGates(-1, 200, 1));
            due(INVALID, x.leastGates(LEAST, 200, 1));
            due(INVALID, x.leastGates(MOST, 200, 1));
        });
        test("buckets: 0 to 999 in each hour", x -> {
            x.field(0, 380, 200, 0);
            due(INVALID, x.leastGates(1, -1, 2));
            due(NOT_FOUND, x.leastGates(1, 0, 2));
            due(NOT_FOUND, x.leastGates(1, 199, 2));
            due(0, x.leastGates(1, 200, 2));
            due(0, x.leastGates(1, 999, 2));
            due(INVALID, x.leastGates(1, 1000, 2));
            due(INVALID, x.leastGates(1, LEAST, 2));
            due(INVALID, x.leastGates(1, MOST, 2));
        });
        test("hours: 1 to 5", x -> {
            x.field(0, 1, 1, 0);
            x.field(0, 5, 1, 0);
            x.field(0, 6, 1, 0);
            due(INVALID, x.leastGates(1, 200, 0));
            due(0, x.leastGates(1, 200, 1));
            due(NOT_FOUND, x.leastGates(2, 200, 4));
            due(0, x.leastGates(2, 200, 5));
            due(NOT_FOUND, x.leastGates(4, 200, 5));
            due(INVALID, x.leastGates(4, 200, 6));
            due(INVALID, x.leastGates(1, 200, -1));
            due(INVALID, x.leastGates(1, 200, LEAST));
            due(INVALID, x.leastGates(1, 200, MOST));
        });
        test("Returns the set of gates; INVALID_ARGUMENT if there is a bit for no field,"
                + " or another argument is out of range; NOT_FOUND if there is none.", x -> {
            planks(x, 7);
            x.field(7, 100, 100, 0);
            x.field(1, 100, 100, 0);
            due(128, x.leastGates(1, 200, 1));
            due(2 + 128, x.leastGates(3, 200, 2));
            due(NOT_FOUND, x.leastGates(3, 200, 1));
            due(INVALID, x.leastGates(4, 200, 1));
            due(INVALID, x.leastGates(5, 200, 1));
            due(INVALID, x.leastGates(4, 1000, 0));
            due(INVALID, x.leastGates(3, 1000, 1));
            due(INVALID, x.leastGates(3, 200, 6));
        });
    }

    private static void fewestBuckets() {
        chapter("Promise 19: fewestBuckets");
        test("Finds the fewest buckets an hour by which a field would get something in an hour,", x -> {
            x.canal(0, SCREW, 500, 500);
            x.field(0, 99, 5, 1);
            x.field(1, 99, 5, 2);
            due(2, x.fewestBuckets(0));
            tendAndOpen(x, 1);
            // of 9 are 8 left, 5 for the field 0, 3 for the screw, which lets 2 through, one of which seeps
            due(9, x.fewestBuckets(1));
            due(0, x.would(2, 8, 11));
            due(1, x.would(2, 9, 11));
            due(0, x.count(6) + x.count(8));
        });
        test("with the gates as they are.", x -> {
            planks(x, 2);
            x.field(2, 99, 5, 1);
            x.field(0, 99, 5, 2);
            x.turn(4, 1);
            due(NOT_FOUND, x.fewestBuckets(0));
            tendAndOpen(x, 2);
            due(7, x.fewestBuckets(0));
            tendAndOpen(x, 1);
            due(8, x.fewestBuckets(0));
            x.close(2);
            due(NOT_FOUND, x.fewestBuckets(0));
        });
        test("field: number of a field", x -> {
            due(INVALID, x.fewestBuckets(0));
            fields(x, 0, 10);
            due(INVALID, x.fewestBuckets(-1));
            due(2, x.fewestBuckets(0));
            due(11, x.fewestBuckets(9));
            due(INVALID, x.fewestBuckets(10));
            due(INVALID, x.fewestBuckets(LEAST));
            due(INVALID, x.fewestBuckets(MOST));
        });
        test("Returns 0 to 999; INVALID_ARGUMENT; NOT_FOUND if there are none.", x -> {
            x.field(0, 999, 189, 0);
            x.field(0, 999, 1, 1);
            x.field(0, 999, 1, 2);
            // 200 come at most, 190 are left of them
            due(200, x.fewestBuckets(1));
            due(NOT_FOUND, x.fewestBuckets(2));
            due(2, x.fewestBuckets(0));
            due(INVALID, x.fewestBuckets(3));
            x.run(5, 200);
            due(945, x.fieldOf(0, 4));
            due(58, x.fewestBuckets(1));
            x.run(1, 200);
            due(NOT_FOUND, x.fewestBuckets(0));
        });
        test("NOT_FOUND if there are none.", x -> {
            planks(x, 1);
            x.field(0, 99, 5, 3);
            x.field(1, 9, 5, 2);
            tendAndOpen(x, 1);
            x.call(1);
            due(NOT_FOUND, x.fewestBuckets(0));
            x.close(1);
            due(2, x.fewestBuckets(0));
            x.open(1);
            x.hour(200);
            due(NOT_FOUND, x.fewestBuckets(0));
            x.hour(200);
            due(2, x.fewestBuckets(0));
            due(NOT_FOUND, x.fewestBuckets(1));
        });
    }

    private static void hoursFor() {
        chapter("Promise 20: hoursFor");
        test("Tells in how many hours of running (with turns, as run() does) all fields would have got their needs.",
                x -> {
            planks(x, 1);
            x.field(1, 6, 2, 0);
            due(NOT_FOUND, x.hoursFor(200));
            x.turn(0, 2);
            x.turn(2, 1);
            due(9, x.hoursFor(200));
            x.run(2, 0);
            due(7, x.hoursFor(200));
            x.hour(200);
            due(7, x.hoursFor(200));
            due(6, x.run(7, 200));
            due(0, x.count(2));
            due(0, x.hoursFor(200));
        });
        test("(with turns, as run() does)", x -> {
            // the last one of eight turns matters as well
            planks(x, 1);
            x.field(1, 10, 5, 0);
            for (int turn = 0; turn < 7; turn++) {
                x.turn(0, 1);
            }
            x.turn(2, 2);
            due(9, x.hoursFor(200));
            x.run(8, 200);
            due(1, x.hoursFor(200));
            x.run(1, 200);
            due(9, x.fieldOf(0, 7));
        });
        test("buckets: 0 to 999 in each hour", x -> {
            x.field(0, 380, 200, 0);
            due(INVALID, x.hoursFor(-1));
            due(NOT_FOUND, x.hoursFor(0));
            due(3, x.hoursFor(199));
            due(2, x.hoursFor(200));
            due(2, x.hoursFor(999));
            due(INVALID, x.hoursFor(1000));
            due(INVALID, x.hoursFor(LEAST));
            due(INVALID, x.hoursFor(MOST));
        });
        test("Returns the hours, 0 if no field wants water; INVALID_ARGUMENT if buckets is out of range;", x -> {
            due(0, x.hoursFor(0));
            due(0, x.hoursFor(999));
            x.field(0, 2, 1, 0);
            due(2, x.hoursFor(2));
            x.hour(2);
            due(1, x.hoursFor(2));
            x.hour(2);
            due(0, x.hoursFor(0));
            due(INVALID, x.hoursFor(1000));
            due(2, x.count(6));
            due(3, x.count(14));
        });
        test("NOT_FOUND if it takes more than 100.", x -> {
            x.field(0, 99, 1, 0);
            due(99, x.hoursFor(200));
            x.field(0, 100, 1, 0);
            due(100, x.hoursFor(200));
            x.field(0, 101, 1, 0);
            due(NOT_FOUND, x.hoursFor(200));
            x.hour(200);
            due(100, x.hoursFor(200));
            due(NOT_FOUND, x.hoursFor(1));
        });
    }
}
