/** The sentences of the terms that tell of canals, fields, hours and accounts. */
final class SentencesOfWater extends Sentences {
    private SentencesOfWater() {
    }

    static void all() {
        canals();
        gates();
        fieldsAndTheirNumbers();
        wants();
        letInAndSeepage();
        fieldsOfAnHour();
        whoMayNotTake();
        parting();
        throughGates();
        endOfAnHour();
        accounts();
    }

    private static void canals() {
        chapter("Canals and gates");
        test("There are at most 8 canals, numbered from 0.", x -> {
            due(1, x.count(0));
            for (int canal = 1; canal <= 7; canal++) {
                due(canal, x.canal(0, PLANK, canal, 0));
            }
            due(LIMIT, x.canal(0, PLANK, 8, 0));
            due(8, x.count(0));
            due(200, x.canalOf(0, 2));
            due(7, x.canalOf(7, 2));
            due(INVALID, x.canalOf(8, 2));
            due(INVALID, x.canalOf(-1, 2));
        });
        test("The canal 0 is there from the beginning; each other canal branches off an earlier one, its parent,"
                + " at a gate, which has the number of the canal.", x -> {
            due(200, x.canalOf(0, 2));
            due(INVALID, x.canal(1, PLANK, 50, 0));
            due(1, x.canal(0, PLANK, 50, 0));
            due(INVALID, x.canal(2, PLANK, 50, 0));
            due(2, x.canal(1, PLANK, 50, 0));
            due(0, x.canalOf(1, 0));
            due(1, x.canalOf(2, 0));
            due(4, tendAndOpen(x, 2));
            x.hour(20);
            due(0, x.canalOf(1, 7));
            due(6, tendAndOpen(x, 1));
            x.hour(20);
            due(19, x.canalOf(1, 7));
            due(19, x.canalOf(2, 7));
        });
        test("A canal has a width (1 to 500 buckets an hour; the canal 0 has 200)", x -> {
            due(INVALID, x.canal(0, PLANK, 0, 0));
            due(1, x.canal(0, PLANK, 1, 0));
            due(2, x.canal(0, PLANK, 500, 0));
            due(INVALID, x.canal(0, PLANK, 501, 0));
            due(1, x.canalOf(1, 2));
            due(500, x.canalOf(2, 2));
            due(200, x.canalOf(0, 2));
            hourWith(x, 2, 3);
            due(1, x.canalOf(1, 7));
            hourWith(x, 4, 201);
            due(190, x.canalOf(2, 7));
            due(200, x.canalOf(0, 7));
        });
        test("and a seepage (0 to 500 of a thousand; the canal 0 has 50).", x -> {
            due(INVALID, x.canal(0, PLANK, 500, -1));
            due(1, x.canal(0, PLANK, 500, 0));
            due(2, x.canal(0, PLANK, 500, 500));
            due(INVALID, x.canal(0, PLANK, 500, 501));
            due(0, x.canalOf(1, 3));
            due(500, x.canalOf(2, 3));
            due(50, x.canalOf(0, 3));
            hourWith(x, 6, 200);
            due(0, x.canalOf(1, 8));
            due(48, x.canalOf(2, 8));
            due(10, x.canalOf(0, 8));
        });
        test("Canals that are reached from a canal by gates, open or not, are below it.", x -> {
            due(0, x.canalOf(0, 6));
            x.canal(0, PLANK, 9, 0);
            x.canal(0, PLANK, 9, 0);
            x.canal(1, PLANK, 9, 0);
            x.canal(3, PLANK, 9, 0);
            x.canal(2, PLANK, 9, 0);
            x.canal(4, PLANK, 9, 0);
            x.canal(6, PLANK, 9, 0);
            int[] below = {254, 8 + 16 + 64 + 128, 32, 16 + 64 + 128, 64 + 128, 0, 128, 0};
            for (int canal = 0; canal < 8; canal++) {
                due(below[canal], x.canalOf(canal, 6));
            }
            hourWith(x, 2 + 16, 0);
            for (int canal = 0; canal < 8; canal++) {
                due(below[canal], x.canalOf(canal, 6));
            }
        });
    }

    private static void gates() {
        chapter("Canals and gates");
        test("A gate is open or closed, closed at first, and has a kind: 0 plank, 1 screw, 2 float.", x -> {
            due(INVALID, x.canal(0, -1, 9, 0));
            for (int kind = 0; kind <= 2; kind++) {
                due(kind + 1, x.canal(0, kind, 9, 0));
                due(kind, x.canalOf(kind + 1, 1));
                due(0, x.canalOf(kind + 1, 4));
            }
            due(INVALID, x.canal(0, 3, 9, 0));
            due(0, x.count(4));
            due(2, tendAndOpen(x, 1));
            due(1, x.canalOf(1, 4));
            due(4, x.canal(0, PLANK, 9, 0));
            due(0, x.canalOf(4, 4));
            due(2, x.count(4));
        });
        test("A plank lets through all that comes to it;", x -> {
            planks(x, 1);
            tendAndOpen(x, 1);
            int[] offered = {0, 1, 2, 3, 200};
            int[] through = {0, 0, 1, 2, 190};
            for (int i = 0; i < offered.length; i++) {
                x.hour(offered[i]);
                due(through[i], x.canalOf(1, 7));
            }
            due(0, x.canalOf(0, 9));
        });
        test("a screw one half of it, rounded up;", x -> {
            x.canal(0, SCREW, 500, 0);
            tendAndOpen(x, 1);
            int[] offered = {0, 1, 2, 3, 4, 5, 199, 200};
            int[] through = {0, 0, 1, 1, 2, 2, 95, 95};
            int runOff = 0;
            for (int i = 0; i < offered.length; i++) {
                x.hour(offered[i]);
                due(through[i], x.canalOf(1, 7));
                runOff += offered[i] - (offered[i] + 19) / 20 - through[i];
                due(runOff, x.canalOf(0, 9));
            }
        });
        test("a float all, but nothing if no field at its canal", x -> {
            x.canal(0, FLOAT, 500, 0);
            tendAndOpen(x, 1);
            x.hour(200);
            due(0, x.canalOf(1, 7));
            x.field(0, 999, 1, 0);
            x.hour(200);
            due(0, x.canalOf(1, 7));
            x.field(1, 2, 1, 0);
            x.hour(201);
            due(189, x.canalOf(1, 7));
            x.hour(2);
            due(0, x.canalOf(1, 7));
            x.hour(3);
            due(1, x.canalOf(1, 7));
            due(2, x.fieldOf(1, 4));
            x.hour(200);
            due(0, x.canalOf(1, 7));
        });
        test(", or at a canal below it, wants water (see below)", x -> {
            x.canal(0, FLOAT, 500, 0);
            x.canal(1, FLOAT, 500, 0);
            x.canal(2, PLANK, 500, 0);
            x.canal(0, PLANK, 500, 0);
            fields(x, 4, 1);
            hourWith(x, 2, 200);
            due(0, x.canalOf(1, 7));
            x.field(3, 1, 1, 0);
            hourWith(x, 2 + 4, 200);
            due(190, x.canalOf(1, 7));
            due(190, x.canalOf(2, 7));
            hourWith(x, 2 + 4 + 8, 200);
            due(190, x.canalOf(3, 7));
            due(1, x.fieldOf(1, 4));
            hourWith(x, 2 + 4 + 8, 200);
            due(0, x.canalOf(1, 7));
            x.field(1, 9, 1, 0);
            hourWith(x, 2 + 4 + 8, 200);
            due(190, x.canalOf(1, 7));
            due(0, x.canalOf(2, 7));
        });
        test("if no field at its canal", x -> {
            // each float for its own fields, be it one or two that want water
            x.canal(0, FLOAT, 500, 0);
            x.canal(0, FLOAT, 500, 0);
            x.canal(0, FLOAT, 500, 0);
            x.field(1, 99, 1, 0);
            x.field(1, 99, 1, 0);
            x.field(2, 99, 1, 0);
            hourWith(x, 14, 200);
            due(95, x.canalOf(1, 7));
            due(95, x.canalOf(2, 7));
            due(0, x.canalOf(3, 7));
        });
        test("just then.", x -> {
            x.canal(0, FLOAT, 500, 0);
            x.canal(1, FLOAT, 500, 0);
            x.field(1, 10, 10, 0);
            x.field(2, 5, 5, 0);
            due(15, hourWith(x, 6, 200));
            due(190, x.canalOf(1, 7));
            due(180, x.canalOf(2, 7));
            due(0, hourWith(x, 6, 200));
            due(0, x.canalOf(1, 7));
        });
    }

    private static void fieldsAndTheirNumbers() {
        chapter("Fields");
        test("There are at most 10 fields, numbered from 0, each at a canal,", x -> {
            planks(x, 7);
            due(0, x.count(1));
            for (int field = 0; field <= 9; field++) {
                due(field, x.field(Math.min(field, 7), 5, 5, field));
            }
            due(LIMIT, x.field(0, 5, 5, 5));
            due(10, x.count(1));
            for (int field = 0; field <= 9; field++) {
                due(Math.min(field, 7), x.fieldOf(field, 0));
            }
            due(INVALID, x.fieldOf(10, 0));
            due(INVALID, x.fieldOf(-1, 0));
        });
        test("with a need (1 to 999 buckets),", x -> {
            due(INVALID, x.field(0, 0, 200, 0));
            due(INVALID, x.field(0, 1000, 200, 0));
            due(0, x.field(0, 1, 200, 0));
            due(1, x.hour(200));
            due(1, x.field(0, 999, 200, 0));
            due(999, x.run(7, 200));
            due(999, x.fieldOf(1, 4));
            due(0, x.hour(200));
            due(0, x.count(2));
        });
        test("a mouth (1 to 200 buckets an hour),", x -> {
            due(INVALID, x.field(0, 999, 0, 0));
            due(INVALID, x.field(0, 999, 201, 0));
            due(0, x.field(0, 999, 1, 0));
            due(1, x.field(0, 999, 200, 1));
            due(1, x.fieldOf(0, 2));
            due(200, x.fieldOf(1, 2));
            due(190, x.hour(200));
            due(1, x.fieldOf(0, 4));
            due(189, x.fieldOf(1, 4));
        });
        test("and a right (0 to 99: the lesser the older).", x -> {
            due(INVALID, x.field(0, 9, 9, -1));
            due(INVALID, x.field(0, 9, 9, 100));
            due(0, x.field(0, 9, 9, 99));
            due(1, x.field(0, 9, 9, 1));
            due(2, x.field(0, 9, 9, 98));
            due(3, x.field(0, 9, 9, 0));
            int[] row = {3, 1, 2, 0};
            for (int place = 0; place < 4; place++) {
                due(row[place], x.rightAt(place));
            }
            due(9, x.hour(10));
            due(9, x.fieldOf(3, 4));
        });
    }

    private static void wants() {
        chapter("Fields");
        test("A field wants water as long as it has got less than its need.", x -> {
            x.field(0, 10, 9, 0);
            due(1, x.count(2));
            x.hour(200);
            due(9, x.fieldOf(0, 4));
            due(1, x.count(2));
            due(0, x.rightAt(0));
            due(NOT_FOUND, x.fieldOf(0, 7));
            due(1, x.hour(200));
            due(10, x.fieldOf(0, 4));
            due(0, x.count(2));
            due(NOT_FOUND, x.rightAt(0));
            due(2, x.fieldOf(0, 7));
            due(0, x.hour(200));
            due(10, x.fieldOf(0, 4));
        });
        test("It can call, as long as it wants water;", x -> {
            x.field(0, 10, 9, 0);
            x.field(0, 9, 9, 0);
            x.hour(200);
            due(1, x.call(0));
            due(NOT_POSSIBLE, x.call(1));
            due(1, x.count(3));
        });
        test("when it wants none, it calls no more.", x -> {
            x.field(0, 10, 9, 0);
            x.call(0);
            x.hour(200);
            due(1, x.fieldOf(0, 5));
            due(1, x.count(3));
            x.hour(200);
            due(0, x.fieldOf(0, 5));
            due(0, x.count(3));
            due(NOT_POSSIBLE, x.call(0));
        });
    }

    private static void letInAndSeepage() {
        chapter("An hour");
        test("In an hour some buckets are let into the canal 0, at most as many as its width;"
                + " others that are offered stay outside.", x -> {
            int[] offered = {0, 1, 199, 200, 201, 999};
            int[] letIn = {0, 1, 199, 200, 200, 200};
            int sum = 0;
            for (int i = 0; i < offered.length; i++) {
                x.hour(offered[i]);
                due(letIn[i], x.canalOf(0, 7));
                sum += letIn[i];
                due(sum, x.count(7));
                due(sum, x.count(9) + x.count(10));
            }
        });
        test("Canal by canal, by their numbers, with what came into it:", x -> {
            chain(x, 7);
            x.field(7, 999, 200, 0);
            due(190, hourWith(x, 254, 200));
            for (int canal = 1; canal <= 7; canal++) {
                due(190, x.canalOf(canal, 7));
            }
        });
        test("1. Some of it seeps away: what came, times the seepage, divided by 1000, rounded up.", x -> {
            int[] came = {0, 1, 20, 21, 40, 41, 200};
            int[] seeps = {0, 1, 1, 2, 2, 3, 10};
            int sum = 0;
            for (int i = 0; i < came.length; i++) {
                x.hour(came[i]);
                sum += seeps[i];
                due(sum, x.canalOf(0, 8));
            }
        });
        test("what came, times the seepage, divided by 1000, rounded up.", x -> {
            int[] seepage = {0, 1, 8, 9, 250, 499, 500};
            for (int i = 0; i < seepage.length; i++) {
                x.canal(0, PLANK, 500, seepage[i]);
            }
            // 131 come, 7 seep, 124 go on: 125 are 8 thousandths' whole number, 124 and 126 are not
            int[] of124 = {0, 1, 1, 2, 31, 62, 62};
            int[] of125 = {0, 1, 1, 2, 32, 63, 63};
            int[] of126 = {0, 1, 2, 2, 32, 63, 63};
            int[] of1 = {0, 1, 1, 1, 1, 1, 1};
            int[] of2 = {0, 1, 1, 1, 1, 1, 1};
            int[] of3 = {0, 1, 1, 1, 1, 2, 2};
            for (int i = 0; i < seepage.length; i++) {
                due(of124[i] + 7, x.would(2 << i, 131, 1));
                due(of125[i] + 7, x.would(2 << i, 132, 1));
                due(of126[i] + 7, x.would(2 << i, 133, 1));
                due(1, x.would(2 << i, 1, 1));
                due(of1[i] + 1, x.would(2 << i, 2, 1));
                due(of2[i] + 1, x.would(2 << i, 3, 1));
                due(of3[i] + 1, x.would(2 << i, 4, 1));
            }
        });
    }

    private static void fieldsOfAnHour() {
        chapter("An hour");
        test("2. The fields at the canal that want water and may take get it,"
                + " the oldest right first, of several the lowest number:", x -> {
            x.field(0, 99, 10, 5);
            x.field(0, 99, 10, 4);
            x.field(0, 99, 10, 5);
            x.field(0, 99, 10, 3);
            int[] buckets = {1, 2, 11, 12, 22, 32, 33};
            int[] third = {0, 1, 10, 10, 10, 10, 10};
            int[] first = {0, 0, 0, 1, 10, 10, 10};
            int[] zeroth = {0, 0, 0, 0, 0, 10, 10};
            int[] second = {0, 0, 0, 0, 0, 0, 1};
            for (int i = 0; i < buckets.length; i++) {
                due(third[i], x.would(0, buckets[i], 13));
                due(first[i], x.would(0, buckets[i], 11));
                due(zeroth[i], x.would(0, buckets[i], 10));
                due(second[i], x.would(0, buckets[i], 12));
            }
        });
        test("want water", x -> {
            x.field(0, 9, 9, 0);
            x.field(0, 9, 9, 1);
            due(9, x.hour(10));
            due(9, x.fieldOf(0, 4));
            due(9, x.hour(10));
            due(9, x.fieldOf(0, 4));
            due(9, x.fieldOf(1, 4));
            due(0, x.hour(10));
        });
        test("each gets the least of its mouth,", x -> {
            x.field(0, 99, 10, 0);
            due(9, x.would(0, 10, 10));
            due(10, x.would(0, 11, 10));
            due(10, x.would(0, 12, 10));
        });
        test("what it still wants,", x -> {
            x.field(0, 21, 10, 0);
            due(10, x.hour(200));
            due(10, x.hour(200));
            due(1, x.hour(200));
            due(0, x.hour(200));
        });
        test("and what is left.", x -> {
            x.field(0, 99, 10, 0);
            x.field(0, 99, 20, 1);
            x.field(0, 99, 30, 2);
            due(19, x.hour(20));
            due(9, x.fieldOf(1, 4));
            due(30, x.hour(32));
            due(0, x.fieldOf(2, 4));
            due(31, x.hour(33));
            due(1, x.fieldOf(2, 4));
        });
    }

    /** A field of the right 10 at the canal 1, and three below it that may call. */
    private static void terraceOfCalls(SluiceTurns x) {
        x.canal(0, PLANK, 500, 0);
        x.canal(1, PLANK, 500, 0);
        x.canal(2, PLANK, 500, 0);
        x.canal(1, PLANK, 500, 0);
        x.field(1, 99, 5, 10);
        x.field(3, 99, 5, 9);
        x.field(3, 99, 5, 10);
        x.field(3, 99, 5, 11);
    }

    private static void whoMayNotTake() {
        chapter("An hour");
        test("A field may not take if a field that calls has an older right (a lesser number)", x -> {
            terraceOfCalls(x);
            due(5, x.would(2 + 4 + 8, 200, 10));
            x.call(3);
            due(5, x.would(2 + 4 + 8, 200, 10));
            x.call(2);
            due(5, x.would(2 + 4 + 8, 200, 10));
            x.call(1);
            due(0, x.would(2 + 4 + 8, 200, 10));
            due(5, x.would(2 + 4 + 8, 200, 11));
            due(5, x.would(2 + 4 + 8, 200, 12));
        });
        test("if a field that calls", x -> {
            // the first one and the last one of ten call as well as those between them
            planks(x, 1);
            x.field(1, 99, 1, 0);
            x.field(0, 99, 5, 50);
            fields(x, 1, 7);
            x.field(1, 99, 1, 0);
            due(5, x.would(2, 200, 11));
            x.call(0);
            due(0, x.would(2, 200, 11));
            x.undo();
            x.call(9);
            due(0, x.would(2, 200, 11));
            x.call(0);
            due(0, x.would(2, 200, 11));
            due(5, x.would(0, 200, 11));
        });
        test("and is at a canal below this one", x -> {
            chain(x, 2);
            planks(x, 1);
            x.field(1, 99, 5, 10);
            x.field(0, 99, 5, 1);
            x.field(1, 99, 5, 1);
            x.field(3, 99, 5, 1);
            x.field(2, 99, 5, 1);
            for (int field = 1; field <= 3; field++) {
                x.call(field);
                due(5, x.would(14, 200, 10));
            }
            x.call(4);
            due(0, x.would(14, 200, 10));
        });
        test("that is reached by gates that are all open.", x -> {
            terraceOfCalls(x);
            x.call(1);
            due(0, x.would(2 + 4 + 8, 200, 10));
            due(5, x.would(2 + 4, 200, 10));
            due(5, x.would(2 + 8, 200, 10));
            due(5, x.would(2 + 16, 200, 10));
            hourWith(x, 4 + 8, 200);
            due(0, x.fieldOf(0, 6));
            hourWith(x, 4, 200);
            due(1, x.fieldOf(0, 6));
            hourWith(x, 8, 200);
            due(1, x.fieldOf(0, 6));
        });
    }

    private static void dueParts(SluiceTurns x, int gates, int buckets, int first, int second, int third) {
        hourWith(x, gates, buckets);
        due(first, x.canalOf(1, 7));
        due(second, x.canalOf(2, 7));
        due(third, x.canalOf(3, 7));
    }

    private static void parting() {
        chapter("An hour");
        test("as many buckets for each as all can have alike, and one more for the first ones, by their numbers,"
                + " until none is left over.", x -> {
            planks(x, 3);
            dueParts(x, 14, 0, 0, 0, 0);
            dueParts(x, 14, 1, 0, 0, 0);
            dueParts(x, 14, 2, 1, 0, 0);
            dueParts(x, 14, 3, 1, 1, 0);
            dueParts(x, 14, 4, 1, 1, 1);
            dueParts(x, 14, 5, 2, 1, 1);
            dueParts(x, 14, 9, 3, 3, 2);
            dueParts(x, 14, 10, 3, 3, 3);
            dueParts(x, 14, 200, 64, 63, 63);
            due(0, x.canalOf(0, 9));
        });
        test("3. What is left then is parted among the gates of the canal's branches that are open,", x -> {
            planks(x, 3);
            x.canal(2, PLANK, 500, 0);
            x.field(0, 999, 10, 0);
            // 10 of the 20 that are left go to the field
            dueParts(x, 0, 22, 0, 0, 0);
            due(10, x.canalOf(0, 9));
            dueParts(x, 8, 22, 0, 0, 10);
            dueParts(x, 4 + 8, 22, 0, 5, 5);
            dueParts(x, 2 + 8 + 16, 22, 5, 0, 5);
            due(0, x.canalOf(4, 7));
            dueParts(x, 2 + 4 + 8 + 16, 22, 4, 3, 3);
            due(3, x.canalOf(4, 7));
            due(10, x.canalOf(0, 9));
        });
        test("and of a kind that lets anything through now:", x -> {
            x.canal(0, PLANK, 500, 0);
            x.canal(0, FLOAT, 500, 0);
            x.canal(0, SCREW, 500, 0);
            dueParts(x, 14, 22, 10, 0, 5);
            x.field(2, 1, 1, 0);
            dueParts(x, 14, 22, 7, 7, 3);
            dueParts(x, 14, 22, 10, 0, 5);
        });
    }

    private static void throughGates() {
        chapter("An hour");
        test("Of its part each gate lets through what its kind does,", x -> {
            x.canal(0, PLANK, 500, 0);
            x.canal(0, SCREW, 500, 0);
            x.canal(0, SCREW, 500, 0);
            // parts of 3, 2 and 2, then of 3, 3 and 3
            dueParts(x, 14, 8, 3, 1, 1);
            dueParts(x, 14, 10, 3, 2, 2);
            due(2 + 2, x.canalOf(0, 9));
        });
        test("but not more than the width of its canal;", x -> {
            x.canal(0, PLANK, 10, 0);
            x.canal(0, SCREW, 5, 0);
            x.canal(0, PLANK, 500, 0);
            dueParts(x, 2, 10, 9, 0, 0);
            dueParts(x, 2, 11, 10, 0, 0);
            due(0, x.canalOf(0, 9));
            dueParts(x, 2, 12, 10, 0, 0);
            due(1, x.canalOf(0, 9));
            dueParts(x, 4, 9, 0, 4, 0);
            dueParts(x, 4, 10, 0, 5, 0);
            dueParts(x, 4, 11, 0, 5, 0);
            dueParts(x, 4, 12, 0, 5, 0);
            // what is beyond the width of one is not for the others
            dueParts(x, 2 + 8, 24, 10, 0, 11);
        });
        test("this comes into that canal.", x -> {
            x.canal(0, SCREW, 50, 100);
            x.field(1, 99, 99, 0);
            // 19 for the screw, 10 come through, one seeps
            due(9, hourWith(x, 2, 20));
            due(10, x.canalOf(1, 7));
            due(1, x.canalOf(1, 8));
        });
    }

    private static void endOfAnHour() {
        chapter("An hour");
        test("4. What is left of all this runs off.", x -> {
            x.canal(0, SCREW, 500, 0);
            x.field(0, 999, 19, 0);
            hourWith(x, 0, 20);
            due(0, x.canalOf(0, 9));
            hourWith(x, 0, 22);
            due(1, x.canalOf(0, 9));
            // 40 left, 21 behind the field: the screw lets 11 through
            hourWith(x, 2, 43);
            due(1 + 10, x.canalOf(0, 9));
            due(11, x.canalOf(1, 9));
            due(22, x.count(10));
        });
        test("Behind the hour the fields that want no water call no more.", x -> {
            planks(x, 1);
            x.field(0, 99, 5, 10);
            x.field(1, 10, 5, 1);
            x.call(1);
            due(5, hourWith(x, 2, 200));
            due(2, x.count(3));
            // it still calls in the hour in which it gets its need
            due(5, hourWith(x, 2, 200));
            due(0, x.fieldOf(0, 4));
            due(0, x.count(3));
            due(5, hourWith(x, 2, 200));
            due(5, x.fieldOf(0, 4));
        });
    }

    private static void accounts() {
        chapter("Accounts");
        test("Let in, got by fields, seeped, run off: each of these is counted over all hours so far.", x -> {
            x.canal(0, PLANK, 500, 100);
            x.field(0, 12, 10, 0);
            for (int what = 7; what <= 10; what++) {
                due(0, x.count(what));
            }
            x.hour(999);
            dueAccounts(x, 200, 10, 10, 180);
            tendAndOpen(x, 1);
            // 2 to the field, 17 to the canal 1, where 2 seep
            x.run(2, 20);
            dueAccounts(x, 240, 12, 10 + 2 + 2 + 2, 180 + 15 + 17);
            x.would(2, 200, 0);
            x.leastGates(1, 200, 5);
            x.hoursFor(200);
            write(x, "h1;");
            x.fault(0);
            dueAccounts(x, 240, 12, 16, 212);
            x.play();
            dueAccounts(x, 241, 12, 17, 212);
            x.undo();
            dueAccounts(x, 240, 12, 16, 212);
        });
    }

    private static void dueAccounts(SluiceTurns x, int letIn, int got, int seeped, int ranOff) {
        due(letIn, x.count(7));
        due(got, x.count(8));
        due(seeped, x.count(9));
        due(ranOff, x.count(10));
    }
}
