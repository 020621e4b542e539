/** What each promise asks: ordinary inputs, edges that the document names, wrong inputs; worked out by hand. */
public final class PromisesTest {
    private static final int INVALID = Due.INVALID;
    private static final int NOT_POSSIBLE = Due.NOT_POSSIBLE;
    private static final int LIMIT = Due.LIMIT;
    private static final int NOT_FOUND = Due.NOT_FOUND;
    private static final int LEAST = Integer.MIN_VALUE;
    private static final int MOST = Integer.MAX_VALUE;

    public static void main(String[] args) {
        promise1NewObject();
        promise2Canal();
        promise3Field();
        promise4Tend();
        promise5Leave();
        promise6Open();
        promise7Close();
        promise8Call();
        promise9Turn();
        promise10NoTurns();
        promise11HourSeepageAndLimits();
        promise11HourFields();
        promise11HourParting();
        promise11HourFloats();
        promise11HourManyFloats();
        promise11HourCalls();
        promise12Run();
        promise12RunMovedByHand();
        promise12RunLimit();
        promise13CanalOf();
        promise14FieldOf();
        promise15TurnOf();
        promise16Share();
        promise17Would();
        promise18LeastGates();
        promise18LeastGatesOfSeveral();
        promise19FewestBuckets();
        promise20HoursFor();
        promise21RightAt();
        promise22Count();
        promise23Undo();
        promise24Type();
        promise25ClearText();
        promise26FaultForm();
        promise26FaultRange();
        promise26FaultNotPossible();
        promise27Play();
        Due.end();
    }

    private static void promise1NewObject() {
        Due.is("INVALID_ARGUMENT", -1000001, SluiceTurns.INVALID_ARGUMENT);
        Due.is("NOT_POSSIBLE", -1000002, SluiceTurns.NOT_POSSIBLE);
        Due.is("LIMIT_REACHED", -1000003, SluiceTurns.LIMIT_REACHED);
        Due.is("NOT_FOUND", -1000004, SluiceTurns.NOT_FOUND);
        SluiceTurns x = new SluiceTurns();
        Due.is("1 canals", 1, x.count(0));
        for (int what = 1; what <= 15; what++) {
            Due.is("1 count " + what, what == 12 ? NOT_FOUND : 0, x.count(what));
        }
        Due.is("1 width", 200, x.canalOf(0, 2));
        Due.is("1 seepage", 50, x.canalOf(0, 3));
        Due.is("1 no field", INVALID, x.fieldOf(0, 0));
        Due.is("1 no turn", INVALID, x.turnOf(0, 0));
        Due.is("1 no history", NOT_POSSIBLE, x.undo());
    }

    private static void promise2Canal() {
        SluiceTurns x = new SluiceTurns();
        Due.is("2 parent -1", INVALID, x.canal(-1, 0, 10, 0));
        Due.is("2 parent 1", INVALID, x.canal(1, 0, 10, 0));
        Due.is("2 parent most", INVALID, x.canal(MOST, 0, 10, 0));
        Due.is("2 parent least", INVALID, x.canal(LEAST, 0, 10, 0));
        Due.is("2 kind -1", INVALID, x.canal(0, -1, 10, 0));
        Due.is("2 kind 3", INVALID, x.canal(0, 3, 10, 0));
        Due.is("2 width 0", INVALID, x.canal(0, 0, 0, 0));
        Due.is("2 width 501", INVALID, x.canal(0, 0, 501, 0));
        Due.is("2 seepage -1", INVALID, x.canal(0, 0, 10, -1));
        Due.is("2 seepage 501", INVALID, x.canal(0, 0, 10, 501));
        Due.is("2 errors change nothing", 0, x.count(14));
        Due.is("2 first", 1, x.canal(0, 0, 1, 0));
        Due.is("2 second", 2, x.canal(1, 2, 500, 500));
        Due.is("2 a change", 2, x.count(14));
        for (int canal = 3; canal < 8; canal++) {
            Due.is("2 next", canal, x.canal(canal - 1, 1, 7, 9));
        }
        Due.is("2 ninth", LIMIT, x.canal(0, 0, 10, 0));
        Due.is("2 ninth and wrong", INVALID, x.canal(8, 0, 10, 0));
        Due.is("2 canals", 8, x.count(0));
        Due.is("2 closed at first", 0, x.count(4));
        Due.is("2 not tended at first", 0, x.count(5));
    }

    private static void promise3Field() {
        SluiceTurns x = new SluiceTurns();
        Due.is("3 canal -1", INVALID, x.field(-1, 1, 1, 0));
        Due.is("3 canal 1", INVALID, x.field(1, 1, 1, 0));
        Due.is("3 canal most", INVALID, x.field(MOST, 1, 1, 0));
        Due.is("3 need 0", INVALID, x.field(0, 0, 1, 0));
        Due.is("3 need 1000", INVALID, x.field(0, 1000, 1, 0));
        Due.is("3 mouth 0", INVALID, x.field(0, 1, 0, 0));
        Due.is("3 mouth 201", INVALID, x.field(0, 1, 201, 0));
        Due.is("3 right -1", INVALID, x.field(0, 1, 1, -1));
        Due.is("3 right 100", INVALID, x.field(0, 1, 1, 100));
        Due.is("3 errors change nothing", 0, x.count(14));
        Due.is("3 least", 0, x.field(0, 1, 1, 0));
        Due.is("3 most", 1, x.field(0, 999, 200, 99));
        Due.is("3 a change", 2, x.count(14));
        for (int field = 2; field < 10; field++) {
            Due.is("3 next", field, x.field(0, 5, 5, 5));
        }
        Due.is("3 eleventh", LIMIT, x.field(0, 5, 5, 5));
        Due.is("3 eleventh and wrong", INVALID, x.field(0, 0, 5, 5));
        Due.is("3 fields", 10, x.count(1));
    }

    private static void promise4Tend() {
        SluiceTurns x = new SluiceTurns();
        for (int i = 0; i < 6; i++) {
            x.canal(0, i % 3, 10, 0);
        }
        x.canal(0, 0, 10, 0);
        Due.is("4 crew -1", INVALID, x.tend(-1, 1));
        Due.is("4 crew 3", INVALID, x.tend(3, 1));
        Due.is("4 gate 0", INVALID, x.tend(0, 0));
        Due.is("4 gate 8", INVALID, x.tend(0, 8));
        Due.is("4 gate -1", INVALID, x.tend(0, -1));
        Due.is("4 plank crew, screw", NOT_POSSIBLE, x.tend(0, 2));
        Due.is("4 plank crew, float", NOT_POSSIBLE, x.tend(0, 3));
        Due.is("4 screw crew, plank", NOT_POSSIBLE, x.tend(1, 1));
        Due.is("4 screw crew, float", NOT_POSSIBLE, x.tend(1, 3));
        Due.is("4 plank crew, plank", 1, x.tend(0, 1));
        Due.is("4 screw crew, screw", 1, x.tend(1, 2));
        Due.is("4 tended by the same", NOT_POSSIBLE, x.tend(0, 1));
        Due.is("4 tended by another", NOT_POSSIBLE, x.tend(2, 1));
        Due.is("4 all crew, float", 1, x.tend(2, 3));
        Due.is("4 all crew, plank", 2, x.tend(2, 4));
        Due.is("4 all crew, a third", LIMIT, x.tend(2, 6));
        Due.is("4 full, but tended", NOT_POSSIBLE, x.tend(2, 2));
        Due.is("4 full, but wrong", INVALID, x.tend(2, 0));
        Due.is("4 plank crew again", 2, x.tend(0, 7));
        Due.is("4 plank crew full, not its kind", NOT_POSSIBLE, x.tend(0, 5));
        Due.is("4 tended", 2 + 4 + 8 + 16 + 128, x.count(5));
        x.leave(3);
        Due.is("4 room again", 2, x.tend(2, 5));
    }

    private static void promise5Leave() {
        SluiceTurns x = new SluiceTurns();
        x.canal(0, 0, 10, 0);
        x.canal(0, 1, 10, 0);
        x.canal(0, 0, 10, 0);
        Due.is("5 gate 0", INVALID, x.leave(0));
        Due.is("5 gate 4", INVALID, x.leave(4));
        Due.is("5 gate least", INVALID, x.leave(LEAST));
        Due.is("5 not tended", NOT_POSSIBLE, x.leave(1));
        x.tend(0, 1);
        x.tend(1, 2);
        x.tend(2, 3);
        x.open(3);
        Due.is("5 crew 0", 0, x.leave(1));
        Due.is("5 crew 1", 1, x.leave(2));
        Due.is("5 crew 2", 2, x.leave(3));
        Due.is("5 again", NOT_POSSIBLE, x.leave(3));
        Due.is("5 none is tended", 0, x.count(5));
        Due.is("5 it stays open", 8, x.count(4));
        Due.is("5 a change", 4, x.count(14));
    }

    private static void promise6Open() {
        SluiceTurns x = new SluiceTurns();
        x.canal(0, 0, 10, 0);
        x.canal(0, 2, 10, 0);
        Due.is("6 gate 0", INVALID, x.open(0));
        Due.is("6 gate 3", INVALID, x.open(3));
        Due.is("6 gate -1", INVALID, x.open(-1));
        Due.is("6 not tended", NOT_POSSIBLE, x.open(1));
        x.tend(2, 1);
        x.tend(2, 2);
        Due.is("6 opens", 4, x.open(2));
        Due.is("6 is open", NOT_POSSIBLE, x.open(2));
        Due.is("6 opens another", 6, x.open(1));
        Due.is("6 history", 4, x.count(14));
        Due.is("6 undo", 3, x.undo());
        Due.is("6 undone", 4, x.count(4));
    }

    private static void promise7Close() {
        SluiceTurns x = new SluiceTurns();
        x.canal(0, 0, 10, 0);
        x.canal(0, 2, 10, 0);
        Due.is("7 gate 0", INVALID, x.close(0));
        Due.is("7 gate 3", INVALID, x.close(3));
        Due.is("7 not tended", NOT_POSSIBLE, x.close(1));
        x.tend(2, 1);
        x.tend(2, 2);
        Due.is("7 is closed", NOT_POSSIBLE, x.close(1));
        x.open(1);
        x.open(2);
        Due.is("7 closes", 4, x.close(1));
        Due.is("7 closed", NOT_POSSIBLE, x.close(1));
        x.leave(2);
        Due.is("7 tended no more", NOT_POSSIBLE, x.close(2));
        Due.is("7 open as it was", 4, x.count(4));
    }

    private static void promise8Call() {
        SluiceTurns x = new SluiceTurns();
        x.field(0, 5, 5, 1);
        x.field(0, 50, 5, 2);
        Due.is("8 field -1", INVALID, x.call(-1));
        Due.is("8 field 2", INVALID, x.call(2));
        Due.is("8 calls", 1, x.call(1));
        Due.is("8 again", NOT_POSSIBLE, x.call(1));
        Due.is("8 two call", 2, x.call(0));
        Due.is("8 the set", 3, x.count(3));
        Due.is("8 both get", 10, x.hour(100));
        Due.is("8 the sated calls no more", 2, x.count(3));
        Due.is("8 wants none", NOT_POSSIBLE, x.call(0));
        Due.is("8 it calls", 1, x.fieldOf(1, 5));
        Due.is("8 it calls no more", 0, x.fieldOf(0, 5));
    }

    private static void promise9Turn() {
        SluiceTurns x = new SluiceTurns();
        x.canal(0, 0, 10, 0);
        x.canal(0, 0, 10, 0);
        Due.is("9 gate 0", INVALID, x.turn(1, 1));
        Due.is("9 gate 3", INVALID, x.turn(8, 1));
        Due.is("9 gate 31", INVALID, x.turn(LEAST, 1));
        Due.is("9 gate 0 with others", INVALID, x.turn(7, 1));
        Due.is("9 hours 0", INVALID, x.turn(2, 0));
        Due.is("9 hours 21", INVALID, x.turn(2, 21));
        Due.is("9 first", 1, x.turn(6, 20));
        Due.is("9 gates stay", 0, x.count(4));
        x.run(3, 0);
        Due.is("9 three hours", 3, x.count(13));
        Due.is("9 second", 2, x.turn(0, 1));
        Due.is("9 none gone by", 0, x.count(13));
        x.run(20, 0);
        Due.is("9 the second is on", 1, x.count(12));
        Due.is("9 third", 3, x.turn(2, 2));
        Due.is("9 the first is on", 0, x.count(12));
        for (int turn = 4; turn <= 8; turn++) {
            Due.is("9 next", turn, x.turn(4, 1));
        }
        Due.is("9 ninth", LIMIT, x.turn(4, 1));
        Due.is("9 ninth and wrong", INVALID, x.turn(4, 0));
        Due.is("9 turns", 8, x.count(11));
    }

    private static void promise10NoTurns() {
        SluiceTurns x = new SluiceTurns();
        x.canal(0, 0, 10, 0);
        x.turn(2, 1);
        x.turn(0, 5);
        x.run(3, 0);
        Due.is("10 the second", 1, x.count(12));
        Due.is("10 two hours of it", 2, x.count(13));
        x.noTurns();
        Due.is("10 none on", NOT_FOUND, x.count(12));
        Due.is("10 none gone by", 0, x.count(13));
        Due.is("10 none there", 0, x.count(11));
        Due.is("10 undo", 3, x.undo());
        Due.is("10 on again", 1, x.count(12));
        Due.is("10 gone by again", 2, x.count(13));
        x.turn(2, 9);
        x.run(1, 0);
        Due.is("10 three", 3, x.noTurns());
        Due.is("10 gates stay", 2, x.count(4));
        SluiceTurns y = new SluiceTurns();
        Due.is("10 none", 0, y.noTurns());
        Due.is("10 a change all the same", 1, y.count(14));
    }

    private static void promise11HourSeepageAndLimits() {
        SluiceTurns x = new SluiceTurns();
        Due.is("11 buckets -1", INVALID, x.hour(-1));
        Due.is("11 buckets 1000", INVALID, x.hour(1000));
        Due.is("11 no field", 0, x.hour(20));
        Due.is("11 twenty seep one", 1, x.count(9));
        Due.is("11 ran off", 19, x.count(10));
        x.hour(21);
        Due.is("11 seeps, rounded up", 3, x.count(9));
        x.hour(1);
        Due.is("11 all of one seeps", 4, x.count(9));
        x.hour(0);
        Due.is("11 nothing comes", 0, x.canalOf(0, 7));
        x.hour(999);
        Due.is("11 its width comes", 200, x.canalOf(0, 7));
        Due.is("11 let in", 242, x.count(7));
        Due.is("11 hours", 5, x.count(6));
        SluiceTurns y = new SluiceTurns();
        y.canal(0, 0, 10, 0);
        y.field(0, 100, 10, 0);
        y.turn(2, 1);
        Due.is("11 gets", 10, y.hour(50));
        Due.is("11 no turn opens", 0, y.count(4));
        Due.is("11 no turn goes on", 0, y.count(13));
    }

    private static void promise11HourFields() {
        SluiceTurns x = new SluiceTurns();
        x.field(0, 100, 30, 5);
        x.field(0, 12, 50, 5);
        x.field(0, 100, 60, 3);
        x.field(0, 100, 60, 4);
        // 100 come, 5 seep: 60 to field 2, 35 to field 3
        Due.is("11 oldest first", 95, x.hour(100));
        Due.is("11 its mouth", 60, x.fieldOf(2, 4));
        Due.is("11 what is left", 35, x.fieldOf(3, 4));
        Due.is("11 nothing left", 0, x.fieldOf(0, 4));
        // 190 left: 40 to field 2, 60 to field 3, 30 to field 0, 12 to field 1
        Due.is("11 what it wants", 142, x.hour(200));
        Due.is("11 what field 2 wanted", 100, x.fieldOf(2, 4));
        Due.is("11 the lower number", 30, x.fieldOf(0, 4));
        Due.is("11 behind it", 12, x.fieldOf(1, 4));
        Due.is("11 the rest runs off", 48, x.count(10));
        // 38 left: 5 to field 3, 30 to field 0
        Due.is("11 the sated are left out", 35, x.hour(40));
        Due.is("11 accounts", 340, x.count(8) + x.count(9) + x.count(10));
    }

    private static void promise11HourParting() {
        SluiceTurns x = new SluiceTurns();
        x.canal(0, 0, 500, 0);
        x.canal(0, 1, 500, 0);
        x.canal(0, 0, 20, 100);
        x.canal(1, 0, 500, 0);
        x.turn(2 + 4 + 8, 1);
        x.run(1, 200);
        // 190 for three: 64, 63 and 63; the screw lets 32 through, the third has the width 20
        Due.is("11 one more for the first", 64, x.canalOf(1, 7));
        Due.is("11 a half, rounded up", 32, x.canalOf(2, 7));
        Due.is("11 its width", 20, x.canalOf(3, 7));
        Due.is("11 closed", 0, x.canalOf(4, 7));
        Due.is("11 runs off above", 74, x.canalOf(0, 9));
        Due.is("11 runs off at 1", 64, x.canalOf(1, 9));
        Due.is("11 seeps at 3", 2, x.canalOf(3, 8));
        Due.is("11 runs off at 3", 18, x.canalOf(3, 9));
        // 2 come, 1 seeps, 1 is left: for the first gate alone
        x.run(1, 2);
        Due.is("11 one for the first", 1, x.canalOf(1, 7));
        Due.is("11 none for the second", 0, x.canalOf(2, 7));
        x.noTurns();
        x.turn(4 + 8 + 16, 1);
        // 5 left: 3 to the screw, which lets 2 through, 2 to the third
        x.run(1, 6);
        Due.is("11 closed above", 0, x.canalOf(1, 7));
        Due.is("11 and so below", 0, x.canalOf(4, 7));
        Due.is("11 three halved", 2, x.canalOf(2, 7));
        Due.is("11 two", 2, x.canalOf(3, 7));
        Due.is("11 all is told of", 208, x.count(9) + x.count(10));
    }

    private static void promise11HourFloats() {
        SluiceTurns x = new SluiceTurns();
        x.canal(0, 2, 500, 0);
        x.canal(0, 0, 500, 0);
        x.canal(1, 0, 500, 0);
        x.field(3, 30, 20, 0);
        x.turn(2 + 4, 20);
        // the field wants water behind the closed gate 3: the float lets through
        x.run(1, 100);
        Due.is("11 float by a field below", 48, x.canalOf(1, 7));
        Due.is("11 plank beside it", 47, x.canalOf(2, 7));
        x.noTurns();
        x.turn(2 + 4 + 8, 20);
        Due.is("11 the field gets", 20, x.run(1, 100));
        Due.is("11 and again", 10, x.run(1, 100));
        Due.is("11 it let through in the hour of the need", 48, x.canalOf(1, 7));
        x.run(1, 100);
        Due.is("11 nothing through the float", 0, x.canalOf(1, 7));
        Due.is("11 no part for it", 95, x.canalOf(2, 7));
        x.field(1, 30, 20, 0);
        x.run(1, 100);
        Due.is("11 a field at its canal", 48, x.canalOf(1, 7));
        x.field(0, 30, 20, 0);
        x.run(2, 200);
        Due.is("11 a field above does not count", 0, x.canalOf(1, 7));
    }

    private static void promise11HourManyFloats() {
        SluiceTurns x = new SluiceTurns();
        x.canal(0, 0, 500, 0);
        x.canal(0, 0, 500, 0);
        x.canal(0, 2, 500, 0);
        x.canal(0, 2, 500, 0);
        x.canal(0, 2, 500, 0);
        x.canal(4, 2, 500, 0);
        x.canal(6, 2, 500, 0);
        x.field(3, 10, 5, 0);
        x.field(7, 10, 5, 0);
        x.turn(8 + 16 + 32 + 64 + 128, 20);
        x.run(1, 100);
        Due.is("11 a float for its own field", 48, x.canalOf(3, 7));
        Due.is("11 a float for one far below", 47, x.canalOf(4, 7));
        Due.is("11 a float for none", 0, x.canalOf(5, 7));
        Due.is("11 a float on the way", 47, x.canalOf(6, 7));
        Due.is("11 a float at the end", 47, x.canalOf(7, 7));
        for (int field = 2; field < 10; field++) {
            x.field(field - 2, 999, 1, 0);
        }
        // 94 are left for three gates; 1 at canal 0, 6 at 3, 1 at 4, 5 and 6 each, 6 at 7
        Due.is("11 all canals, all fields", 16, x.run(1, 100));
        x.noTurns();
        for (int turn = 0; turn < 8; turn++) {
            x.turn(254, 1);
        }
        Due.is("12 all turns", 80, x.run(10, 200));
        Due.is("20 and all of them", NOT_FOUND, x.hoursFor(200));
        Due.is("18 and all gates", NOT_FOUND, x.leastGates(1023, 200, 5));
        // 1 seeps, 1 is taken at canal 0, 14 for five gates: the fourth has 3, of which the last one reaches canal 7
        Due.is("19 and all of these", 16, x.fewestBuckets(9));
        Due.is("13 and all below", 254, x.canalOf(0, 6));
    }

    private static void promise11HourCalls() {
        SluiceTurns x = new SluiceTurns();
        x.canal(0, 0, 500, 0);
        x.canal(1, 0, 500, 0);
        x.field(0, 900, 10, 8);
        x.field(0, 900, 10, 7);
        x.field(1, 900, 10, 50);
        x.field(2, 900, 10, 8);
        x.field(2, 20, 10, 90);
        x.call(3);
        Due.is("11 closed gates: no call matters", 20, x.hour(100));
        x.turn(4, 1);
        Due.is("11 one of two gates open", 20, x.run(1, 100));
        x.noTurns();
        x.turn(2 + 4, 1);
        // the right 8 is not older than 8 and 7, but than 50
        Due.is("11 the younger above may not", 40, x.run(1, 100));
        Due.is("11 it got nothing", 0, x.fieldOf(2, 4));
        Due.is("11 an equal right may", 30, x.fieldOf(0, 4));
        Due.is("11 at the same canal it may", 10, x.fieldOf(4, 4));
        x.run(1, 100);
        Due.is("11 still", 0, x.fieldOf(2, 4));
        SluiceTurns y = new SluiceTurns();
        y.canal(0, 0, 500, 0);
        y.field(0, 900, 10, 1);
        y.field(1, 5, 5, 0);
        y.turn(2, 20);
        y.call(1);
        Due.is("11 in the hour it gets its need", 5, y.run(1, 100));
        Due.is("11 behind it no call", 0, y.count(3));
        Due.is("11 and so the next hour", 10, y.run(1, 100));
    }

    private static void promise12Run() {
        SluiceTurns x = new SluiceTurns();
        x.canal(0, 0, 500, 0);
        x.canal(0, 0, 500, 0);
        x.field(1, 999, 200, 0);
        x.field(2, 999, 200, 0);
        Due.is("12 hours 0", INVALID, x.run(0, 1));
        Due.is("12 hours 101", INVALID, x.run(101, 1));
        Due.is("12 buckets -1", INVALID, x.run(1, -1));
        Due.is("12 buckets 1000", INVALID, x.run(1, 1000));
        Due.is("12 without turns all is closed", 0, x.run(2, 100));
        x.turn(2, 2);
        x.turn(4, 1);
        x.turn(0, 1);
        Due.is("12 five hours", 95 * 4, x.run(5, 100));
        Due.is("12 the first twice and once", 285, x.fieldOf(0, 4));
        Due.is("12 the second once", 95, x.fieldOf(1, 4));
        Due.is("12 on is", 0, x.count(12));
        Due.is("12 gone by", 1, x.count(13));
        Due.is("12 it goes on", 190, x.run(2, 100));
        Due.is("12 on is the third", 2, x.count(12));
        Due.is("12 none gone by", 0, x.count(13));
        Due.is("12 gates of the second still", 4, x.count(4));
        Due.is("12 a hundred hours", 0, x.run(100, 0));
        Due.is("12 hours", 109, x.count(6));
        Due.is("12 one change", 3, x.undo());
        Due.is("12 as before", 9, x.count(6));
    }

    private static void promise12RunMovedByHand() {
        SluiceTurns x = new SluiceTurns();
        x.canal(0, 0, 500, 0);
        x.canal(0, 0, 500, 0);
        x.tend(0, 1);
        x.tend(0, 2);
        x.turn(2, 2);
        x.open(2);
        x.run(1, 0);
        Due.is("12 just its gates", 2, x.count(4));
        x.open(2);
        x.run(1, 0);
        Due.is("12 moved by hand behind that", 6, x.count(4));
        x.close(1);
        Due.is("12 the first hour again is to come", 0, x.count(13));
        x.run(1, 0);
        Due.is("12 opens just its gates again", 2, x.count(4));
        x.noTurns();
        x.open(2);
        x.run(9, 0);
        Due.is("12 without turns the gates stay", 6, x.count(4));
        x.turn(4, 3);
        Due.is("12 a turn alone opens none", 6, x.count(4));
        x.leave(1);
        x.leave(2);
        x.run(1, 0);
        Due.is("12 a turn needs no crew", 4, x.count(4));
    }

    private static void promise12RunLimit() {
        SluiceTurns x = new SluiceTurns();
        x.canal(0, 0, 500, 500);
        x.field(0, 3, 1, 0);
        for (int i = 0; i < 199; i++) {
            x.run(100, 200);
        }
        x.run(99, 200);
        Due.is("12 one left", LIMIT, x.run(2, 200));
        Due.is("12 limit behind invalid", INVALID, x.run(101, 200));
        write(x, "r2,0;");
        Due.is("26 too many hours", 3, x.fault(1));
        Due.is("12 would is free", 10, x.would(0, 200, 1));
        write(x, "h0;");
        Due.is("26 the last hour is possible", NOT_FOUND, x.fault(1));
        write(x, "r1,0;");
        Due.is("26 the last hour can be run", NOT_FOUND, x.fault(1));
        write(x, "h0;h0;");
        Due.is("26 the second hour is too much", 3, x.fault(0));
        Due.is("11 the last one", 0, x.hour(200));
        x.undo();
        Due.is("12 the last one", 0, x.run(1, 200));
        Due.is("12 none left", LIMIT, x.run(1, 200));
        Due.is("11 none left", LIMIT, x.hour(0));
        Due.is("11 limit behind invalid", INVALID, x.hour(1000));
        Due.is("12 hours", 20000, x.count(6));
        Due.is("12 let in", 4000000, x.count(7));
        Due.is("12 seeped", 200000, x.count(9));
        Due.is("12 ran off", 3799997, x.count(10));
        Due.is("16 a share of the most", Float.floatToIntBits(3f / 4000000f), x.share(0));
        Due.is("16 another of the most", Float.floatToIntBits(3799997f / 4000000f), x.share(2));
        write(x, "h0;");
        Due.is("26 no hour left", 3, x.fault(1));
        Due.is("26 no cause", NOT_FOUND, x.fault(2));
        Due.is("20 hoursFor is free", 0, x.hoursFor(0));
        x.field(0, 3, 1, 0);
        Due.is("20 hoursFor is free at the limit", 3, x.hoursFor(10));
        Due.is("18 leastGates is free at the limit", 0, x.leastGates(2, 10, 3));
    }

    private static void promise13CanalOf() {
        SluiceTurns x = new SluiceTurns();
        x.canal(0, 1, 60, 100);
        x.canal(0, 2, 500, 500);
        x.canal(1, 0, 20, 0);
        x.canal(3, 0, 9, 7);
        x.tend(1, 1);
        x.turn(2 + 8, 9);
        x.run(2, 200);
        Due.is("13 canal -1", INVALID, x.canalOf(-1, 0));
        Due.is("13 canal 5", INVALID, x.canalOf(5, 0));
        Due.is("13 what -1", INVALID, x.canalOf(0, -1));
        Due.is("13 what 10", INVALID, x.canalOf(1, 10));
        Due.is("13 what most", INVALID, x.canalOf(1, MOST));
        Due.is("13 canal 5 and what 10", INVALID, x.canalOf(5, 10));
        due("13 canal 0", new int[] {NOT_FOUND, NOT_FOUND, 200, 50, NOT_FOUND, NOT_FOUND, 30, 200, 20, 260}, x, 0);
        // 190 come to the screw, which lets 95 through; its width is 60; 54 go on, and 20 of them through
        due("13 canal 1", new int[] {0, 1, 60, 100, 1, 1, 24, 60, 12, 68}, x, 1);
        due("13 canal 2", new int[] {0, 2, 500, 500, 0, NOT_FOUND, 0, 0, 0, 0}, x, 2);
        due("13 canal 3", new int[] {1, 0, 20, 0, 1, NOT_FOUND, 16, 20, 0, 40}, x, 3);
        due("13 canal 4", new int[] {3, 0, 9, 7, 0, NOT_FOUND, 0, 0, 0, 0}, x, 4);
        x.leave(1);
        Due.is("13 tended no more", NOT_FOUND, x.canalOf(1, 5));
        x.run(1, 0);
        Due.is("13 the latest hour alone", 0, x.canalOf(1, 7));
    }

    private static void due(String name, int[] want, SluiceTurns x, int canal) {
        for (int what = 0; what < want.length; what++) {
            Due.is(name + " what " + what, want[what], x.canalOf(canal, what));
        }
    }

    private static void promise14FieldOf() {
        SluiceTurns x = new SluiceTurns();
        x.canal(0, 0, 60, 100);
        x.field(1, 50, 40, 9);
        x.field(0, 5, 3, 99);
        x.call(0);
        Due.is("14 field -1", INVALID, x.fieldOf(-1, 0));
        Due.is("14 field 2", INVALID, x.fieldOf(2, 0));
        Due.is("14 what -1", INVALID, x.fieldOf(0, -1));
        Due.is("14 what 8", INVALID, x.fieldOf(0, 8));
        int[] want0 = {1, 50, 40, 9, 0, 1, 1, NOT_FOUND};
        int[] want1 = {0, 5, 3, 99, 0, 0, 1, NOT_FOUND};
        for (int what = 0; what < 8; what++) {
            Due.is("14 field 0 what " + what, want0[what], x.fieldOf(0, what));
            Due.is("14 field 1 what " + what, want1[what], x.fieldOf(1, what));
        }
        x.hour(10);
        x.hour(10);
        Due.is("14 got", 5, x.fieldOf(1, 4));
        Due.is("14 in the hour", 2, x.fieldOf(1, 7));
        x.tend(0, 1);
        x.open(1);
        Due.is("14 may not, sated or not", 0, x.fieldOf(1, 6));
        x.close(1);
        Due.is("14 may again", 1, x.fieldOf(1, 6));
        x.open(1);
        x.run(2, 200);
        Due.is("14 field 0 got", 50, x.fieldOf(0, 4));
        Due.is("14 in the fourth", 4, x.fieldOf(0, 7));
        Due.is("14 calls no more", 0, x.fieldOf(0, 5));
        Due.is("14 may as nobody calls", 1, x.fieldOf(1, 6));
        x.run(5, 200);
        Due.is("14 the hour stays", 4, x.fieldOf(0, 7));
    }

    private static void promise15TurnOf() {
        SluiceTurns x = new SluiceTurns();
        x.canal(0, 0, 10, 0);
        Due.is("15 none", INVALID, x.turnOf(0, 0));
        x.turn(2, 20);
        x.turn(0, 1);
        Due.is("15 turn -1", INVALID, x.turnOf(-1, 0));
        Due.is("15 turn 2", INVALID, x.turnOf(2, 0));
        Due.is("15 what -1", INVALID, x.turnOf(0, -1));
        Due.is("15 what 2", INVALID, x.turnOf(0, 2));
        Due.is("15 gates", 2, x.turnOf(0, 0));
        Due.is("15 hours", 20, x.turnOf(0, 1));
        Due.is("15 gates 1", 0, x.turnOf(1, 0));
        Due.is("15 hours 1", 1, x.turnOf(1, 1));
        x.noTurns();
        Due.is("15 none again", INVALID, x.turnOf(0, 0));
    }

    private static void promise16Share() {
        SluiceTurns x = new SluiceTurns();
        x.field(0, 999, 200, 0);
        Due.is("16 what -1", INVALID, x.share(-1));
        Due.is("16 what 3", INVALID, x.share(3));
        Due.is("16 nothing let in", NOT_FOUND, x.share(0));
        x.hour(0);
        Due.is("16 still nothing", NOT_FOUND, x.share(2));
        x.hour(1);
        Due.is("16 nought", 0, x.share(0));
        Due.is("16 one", 0x3F800000, x.share(1));
        Due.is("16 nought ran off", 0, x.share(2));
        for (int buckets = 2; buckets < 120; buckets++) {
            SluiceTurns y = new SluiceTurns();
            y.field(0, 999, 17, 0);
            y.run(1 + buckets % 90, buckets);
            for (int what = 0; what < 3; what++) {
                float share = (float) y.count(8 + what) / (float) y.count(7);
                Due.is("16 share", Float.floatToIntBits(share), y.share(what));
            }
        }
    }

    private static void promise17Would() {
        SluiceTurns x = new SluiceTurns();
        x.canal(0, 0, 100, 100);
        x.canal(0, 1, 100, 100);
        x.field(1, 30, 20, 0);
        x.field(0, 10, 10, 1);
        x.tend(0, 1);
        x.open(1);
        x.turn(2, 1);
        Due.is("17 gate 0", INVALID, x.would(1, 0, 0));
        Due.is("17 gate 3", INVALID, x.would(8, 0, 0));
        Due.is("17 gate 31", INVALID, x.would(LEAST, 0, 0));
        Due.is("17 buckets -1", INVALID, x.would(0, -1, 0));
        Due.is("17 buckets 1000", INVALID, x.would(0, 1000, 0));
        Due.is("17 what -1", INVALID, x.would(0, 0, -1));
        Due.is("17 what 3", INVALID, x.would(0, 0, 3));
        Due.is("17 what 9", INVALID, x.would(0, 0, 9));
        Due.is("17 what 12", INVALID, x.would(0, 0, 12));
        Due.is("17 what least", INVALID, x.would(0, 0, LEAST));
        // 10 seep, 10 to field 1, 180 left: 90 each; 9 seep at 1, 20 to field 0; the screw lets 45 through, of which 5 seep
        Due.is("17 fields", 30, x.would(6, 999, 0));
        Due.is("17 seeps", 24, x.would(6, 999, 1));
        Due.is("17 runs off", 146, x.would(6, 999, 2));
        Due.is("17 field 0", 20, x.would(6, 999, 10));
        Due.is("17 field 1", 10, x.would(6, 999, 11));
        Due.is("17 closed", 10, x.would(0, 999, 0));
        Due.is("17 closed for field 0", 0, x.would(4, 999, 10));
        x.call(0);
        Due.is("17 with the call", 0, x.would(2, 999, 11));
        Due.is("17 with the call, closed", 10, x.would(0, 999, 11));
        Due.is("17 changes nothing", 0, x.count(6) + x.count(7) + x.fieldOf(0, 4) + x.canalOf(0, 7));
        Due.is("17 gates as they were", 2, x.count(4));
        x.hour(100);
        Due.is("17 one hour alone", 10, x.would(6, 999, 10));
        Due.is("17 in all alone", 10, x.would(6, 999, 0));
        Due.is("17 what seeps alone", 5, x.would(0, 100, 1));
        Due.is("17 what runs off alone", 85, x.would(0, 100, 2));
    }

    private static void promise18LeastGates() {
        SluiceTurns x = new SluiceTurns();
        x.canal(0, 0, 500, 0);
        x.canal(0, 0, 500, 0);
        x.canal(1, 0, 500, 0);
        x.canal(2, 0, 500, 0);
        x.field(3, 90, 100, 5);
        x.field(4, 10, 2, 5);
        x.field(0, 9, 3, 9);
        x.field(2, 1, 1, 9);
        Due.is("18 field 4", INVALID, x.leastGates(16, 1, 1));
        Due.is("18 field 31", INVALID, x.leastGates(LEAST, 1, 1));
        Due.is("18 buckets -1", INVALID, x.leastGates(1, -1, 1));
        Due.is("18 buckets 1000", INVALID, x.leastGates(1, 1000, 1));
        Due.is("18 hours 0", INVALID, x.leastGates(1, 1, 0));
        Due.is("18 hours 6", INVALID, x.leastGates(1, 1, 6));
        Due.is("18 no fields", 0, x.leastGates(0, 0, 1));
        Due.is("18 field 0 in an hour", 2 + 8, x.leastGates(1, 100, 1));
        Due.is("18 field 0 with too few", NOT_FOUND, x.leastGates(1, 95, 1));
        Due.is("18 field 1 in four hours", NOT_FOUND, x.leastGates(2, 200, 4));
        Due.is("18 field 1 in five", 4 + 16, x.leastGates(2, 200, 5));
        Due.is("18 field 2 in three", 0, x.leastGates(4, 200, 3));
        Due.is("18 field 3", 4, x.leastGates(8, 200, 1));
        Due.is("18 two in an hour", 2 + 4 + 8, x.leastGates(9, 200, 1));
        Due.is("18 all", 30, x.leastGates(15, 200, 5));
        x.call(1);
        Due.is("18 with the call", NOT_FOUND, x.leastGates(6, 200, 5));
        Due.is("18 changes nothing", 0, x.count(6) + x.count(4));
        SluiceTurns y = new SluiceTurns();
        // the number of a set matters behind the number of its gates
        y.canal(0, 0, 500, 0);
        y.canal(1, 0, 500, 0);
        y.canal(0, 0, 500, 0);
        y.field(2, 50, 50, 0);
        Due.is("18 two gates", 6, y.leastGates(1, 60, 1));
        y.field(3, 20, 20, 0);
        Due.is("18 one of a great number", 8, y.leastGates(2, 60, 1));
        y.turn(2, 1);
        Due.is("18 turns do not matter", 14, y.leastGates(3, 150, 2));
        y.hour(0);
        y.run(1, 60);
        Due.is("18 nothing got", 0, y.count(8));
    }

    /** A field above that takes all water may not as soon as one of two calls below it is reached. */
    private static void promise18LeastGatesOfSeveral() {
        SluiceTurns x = new SluiceTurns();
        x.canal(0, 0, 500, 0);
        x.canal(1, 0, 500, 0);
        x.canal(0, 0, 500, 0);
        x.canal(0, 0, 500, 0);
        x.field(0, 999, 200, 5);
        x.field(2, 999, 1, 0);
        x.field(3, 999, 1, 0);
        x.field(4, 20, 20, 9);
        Due.is("18 nobody calls", NOT_FOUND, x.leastGates(8, 200, 1));
        x.call(1);
        Due.is("18 three gates", 2 + 4 + 16, x.leastGates(8, 200, 1));
        x.call(2);
        Due.is("18 two gates of a greater number", 8 + 16, x.leastGates(8, 200, 1));
        x.field(1, 999, 1, 0);
        x.call(4);
        Due.is("18 of several the least number", 2 + 16, x.leastGates(8, 200, 1));
    }

    private static void promise19FewestBuckets() {
        SluiceTurns x = new SluiceTurns();
        x.canal(0, 0, 500, 500);
        x.canal(0, 0, 500, 0);
        x.field(0, 99, 5, 5);
        x.field(1, 9, 5, 9);
        x.field(2, 3, 1, 3);
        x.tend(0, 1);
        x.tend(0, 2);
        Due.is("19 field -1", INVALID, x.fewestBuckets(-1));
        Due.is("19 field 3", INVALID, x.fewestBuckets(3));
        Due.is("19 one seeps", 2, x.fewestBuckets(0));
        Due.is("19 gates closed", NOT_FOUND, x.fewestBuckets(1));
        x.open(1);
        // of 8 are 7 left, 2 of them for the canal 1, where one seeps
        Due.is("19 the ones ahead, and seepage", 8, x.fewestBuckets(1));
        x.open(2);
        // of 9 are 8 left, 3 for two gates: 2 and 1
        Due.is("19 two gates", 9, x.fewestBuckets(1));
        Due.is("19 the second gate", 8, x.fewestBuckets(2));
        x.call(2);
        Due.is("19 may not", NOT_FOUND, x.fewestBuckets(0));
        Due.is("19 the call below", 3, x.fewestBuckets(2));
        x.run(3, 10);
        Due.is("19 wants none", NOT_FOUND, x.fewestBuckets(2));
        Due.is("19 changes nothing", 3, x.count(6));
        SluiceTurns y = new SluiceTurns();
        y.field(0, 999, 189, 0);
        y.field(0, 999, 1, 1);
        Due.is("19 all of the width", 200, y.fewestBuckets(1));
        y.field(0, 999, 1, 2);
        Due.is("19 more than the width", NOT_FOUND, y.fewestBuckets(2));
    }

    private static void promise20HoursFor() {
        SluiceTurns x = new SluiceTurns();
        x.canal(0, 0, 500, 0);
        Due.is("20 buckets -1", INVALID, x.hoursFor(-1));
        Due.is("20 buckets 1000", INVALID, x.hoursFor(1000));
        Due.is("20 no field", 0, x.hoursFor(0));
        x.field(1, 6, 2, 0);
        Due.is("20 never", NOT_FOUND, x.hoursFor(200));
        x.turn(0, 2);
        x.turn(2, 1);
        Due.is("20 with turns", 9, x.hoursFor(200));
        x.run(2, 0);
        Due.is("20 from the turn that is on", 7, x.hoursFor(200));
        Due.is("20 changes nothing", 2, x.count(6));
        x.field(0, 98, 1, 0);
        Due.is("20 the latest", 98, x.hoursFor(200));
        x.field(0, 100, 1, 0);
        Due.is("20 a hundred", 100, x.hoursFor(200));
        x.field(0, 101, 1, 0);
        Due.is("20 more than a hundred", NOT_FOUND, x.hoursFor(200));
    }

    private static void promise21RightAt() {
        SluiceTurns x = new SluiceTurns();
        Due.is("21 none", NOT_FOUND, x.rightAt(0));
        x.canal(0, 0, 500, 0);
        x.field(0, 99, 10, 7);
        x.field(1, 99, 10, 3);
        x.field(0, 10, 10, 3);
        x.field(0, 99, 10, 0);
        x.field(0, 99, 10, 7);
        Due.is("21 place -1", INVALID, x.rightAt(-1));
        Due.is("21 place least", INVALID, x.rightAt(LEAST));
        int[] want = {3, 1, 2, 0, 4, NOT_FOUND};
        for (int place = 0; place < want.length; place++) {
            Due.is("21 place " + place, want[place], x.rightAt(place));
        }
        Due.is("21 place most", NOT_FOUND, x.rightAt(MOST));
        x.hour(200);
        Due.is("21 the sated is left out", 0, x.rightAt(2));
        Due.is("21 not so many", NOT_FOUND, x.rightAt(4));
        x.field(0, 1, 1, 1);
        Due.is("21 the new one", 5, x.rightAt(1));
    }

    private static void promise22Count() {
        SluiceTurns x = new SluiceTurns();
        x.canal(0, 0, 500, 0);
        x.canal(0, 2, 500, 0);
        x.field(0, 10, 10, 7);
        x.field(1, 99, 20, 7);
        x.tend(2, 2);
        x.turn(2, 3);
        x.turn(0, 3);
        x.call(1);
        x.type('h');
        x.run(2, 100);
        int[] want = {3, 2, 1, 2, 2, 4, 2, 200, 50, 10, 140, 2, 0, 2, 4, 1};
        for (int what = 0; what < want.length; what++) {
            Due.is("22 count " + what, want[what], x.count(what));
        }
        Due.is("22 what -1", INVALID, x.count(-1));
        Due.is("22 what 16", INVALID, x.count(16));
        Due.is("22 what least", INVALID, x.count(LEAST));
        // one more hour with the gate 1 open, then one with all closed
        x.run(2, 100);
        Due.is("22 got by fields", 70, x.count(8));
        Due.is("22 the turn that is on", 1, x.count(12));
        Due.is("22 its hours gone by", 1, x.count(13));
    }

    private static void promise23Undo() {
        SluiceTurns x = new SluiceTurns();
        Due.is("23 empty", NOT_POSSIBLE, x.undo());
        x.type('x');
        x.clearText();
        Due.is("23 a text is no change", NOT_POSSIBLE, x.undo());
        for (int width = 1; width <= 6; width++) {
            x.canal(0, 0, width, 0);
        }
        x.canal(0, 0, 0, 0);
        x.type('y');
        Due.is("23 four states", 4, x.count(14));
        for (int left = 3; left >= 0; left--) {
            Due.is("23 left", left, x.undo());
            Due.is("23 canals", left + 3, x.count(0));
        }
        Due.is("23 no more", NOT_POSSIBLE, x.undo());
        Due.is("23 the text stays", 1, x.count(15));
        x.canal(0, 1, 77, 0);
        Due.is("23 a new state", 1, x.count(14));
        Due.is("23 the new canal", 77, x.canalOf(3, 2));
        Due.is("23 undo is no change", 0, x.undo());
        Due.is("23 canals", 3, x.count(0));
    }

    private static void promise24Type() {
        SluiceTurns x = new SluiceTurns();
        Due.is("24 character 31", INVALID, x.type(31));
        Due.is("24 character 127", INVALID, x.type(127));
        Due.is("24 character -1", INVALID, x.type(-1));
        Due.is("24 character most", INVALID, x.type(MOST));
        Due.is("24 character 32", 1, x.type(32));
        Due.is("24 character 126", 2, x.type(126));
        for (int length = 3; length <= 60; length++) {
            Due.is("24 length", length, x.type(';'));
        }
        Due.is("24 full", LIMIT, x.type(';'));
        Due.is("24 full and wrong", INVALID, x.type(31));
        Due.is("24 length", 60, x.count(15));
        Due.is("24 no change", 0, x.count(14));
    }

    private static void promise25ClearText() {
        SluiceTurns x = new SluiceTurns();
        Due.is("25 empty", 0, x.clearText());
        write(x, "h1;h2;");
        Due.is("25 its length", 6, x.clearText());
        Due.is("25 no change", 0, x.count(14));
        Due.is("25 no fault", NOT_FOUND, x.fault(0));
        Due.is("25 begins anew", 1, x.type('q'));
        Due.is("25 the new character", 0, x.fault(2));
    }

    private static void write(SluiceTurns x, String text) {
        x.clearText();
        for (int i = 0; i < text.length(); i++) {
            x.type(text.charAt(i));
        }
    }

    private static void dueFault(SluiceTurns x, String text, int position, int reason, int cause) {
        write(x, text);
        Due.is("26 position in " + text, position, x.fault(0));
        Due.is("26 reason in " + text, reason, x.fault(1));
        Due.is("26 cause in " + text, cause, x.fault(2));
        Due.is("27 play of " + text, NOT_POSSIBLE, x.play());
    }

    private static void promise26FaultForm() {
        SluiceTurns x = new SluiceTurns();
        Due.is("26 what -1", INVALID, x.fault(-1));
        Due.is("26 what 3", INVALID, x.fault(3));
        for (int what = 0; what < 3; what++) {
            Due.is("26 empty", NOT_FOUND, x.fault(what));
        }
        dueFault(x, ";", 0, 1, 0);
        dueFault(x, "O1;", 0, 1, 0);
        dueFault(x, " h1;", 0, 1, 0);
        dueFault(x, "o", 0, 1, 1);
        dueFault(x, "h;", 0, 1, 1);
        dueFault(x, "h-1;", 0, 1, 1);
        dueFault(x, "h12", 0, 1, 3);
        dueFault(x, "h123", 0, 1, 4);
        dueFault(x, "h1234;", 0, 1, 4);
        dueFault(x, "h0012;", 0, 1, 4);
        dueFault(x, "h1,2;", 0, 1, 2);
        dueFault(x, "h1 ;", 0, 1, 2);
        dueFault(x, "r1;", 0, 1, 2);
        dueFault(x, "r,1;", 0, 1, 1);
        dueFault(x, "r1,;", 0, 1, 3);
        dueFault(x, "r1,", 0, 1, 3);
        dueFault(x, "r1,1234;", 0, 1, 6);
        dueFault(x, "r1,123", 0, 1, 6);
        dueFault(x, "r1,1,1;", 0, 1, 4);
        dueFault(x, "h1;h2;x", 6, 1, 0);
        dueFault(x, "h1;h2;;", 6, 1, 0);
        dueFault(x, "h1;r1,5", 3, 1, 4);
        dueFault(x, "h1;c9", 3, 1, 2);
        dueFault(x, "h1;c9x;", 3, 1, 2);
        Due.is("26 a fault changes nothing", 0, x.count(6) + x.count(14));
        x.clearText();
        Due.is("26 no fault of the empty text behind others", NOT_FOUND, x.fault(0));
        Due.is("27 and it can be played", 0, x.play());
    }

    private static void promise26FaultRange() {
        SluiceTurns x = new SluiceTurns();
        dueFault(x, "h12", 0, 1, 3);
        dueFault(x, "o1;", 0, 2, 0);
        dueFault(x, "y0;", 0, 2, 0);
        x.canal(0, 0, 100, 0);
        x.field(0, 50, 10, 0);
        dueFault(x, "o0;", 0, 2, 0);
        dueFault(x, "c0;", 0, 2, 0);
        dueFault(x, "c2;", 0, 2, 0);
        dueFault(x, "o999;", 0, 2, 0);
        dueFault(x, "y1;", 0, 2, 0);
        dueFault(x, "r0,5;", 0, 2, 0);
        dueFault(x, "r11,5;", 0, 2, 0);
        dueFault(x, "h1;h2;r100,0;x", 6, 2, 0);
        write(x, "y00;r10,999;h999;r001,000;");
        Due.is("26 in range", NOT_FOUND, x.fault(0));
    }

    private static void promise26FaultNotPossible() {
        SluiceTurns x = new SluiceTurns();
        x.canal(0, 0, 100, 0);
        x.canal(0, 0, 100, 0);
        x.field(0, 5, 5, 0);
        x.tend(0, 1);
        dueFault(x, "o2;", 0, 3, NOT_FOUND);
        dueFault(x, "c2;", 0, 3, NOT_FOUND);
        dueFault(x, "c1;", 0, 3, NOT_FOUND);
        dueFault(x, "o1;o1;", 3, 3, NOT_FOUND);
        dueFault(x, "o1;c1;c1;", 6, 3, NOT_FOUND);
        dueFault(x, "y0;y0;", 3, 3, NOT_FOUND);
        dueFault(x, "h9;y0;", 3, 3, NOT_FOUND);
        dueFault(x, "r1,9;y0;", 5, 3, NOT_FOUND);
        dueFault(x, "o1;c2;x;", 3, 3, NOT_FOUND);
        write(x, "o1;c1;o1;y0;h5;h5;c1;");
        Due.is("26 none", NOT_FOUND, x.fault(0));
        Due.is("26 no reason", NOT_FOUND, x.fault(1));
        Due.is("26 no cause", NOT_FOUND, x.fault(2));
        x.turn(4, 1);
        x.turn(2, 1);
        dueFault(x, "r1,0;c1;", 5, 3, NOT_FOUND);
        write(x, "r2,0;c1;");
        Due.is("26 a turn opened it", NOT_FOUND, x.fault(0));
        Due.is("26 nothing changed", 0, x.count(6) + x.count(4));
    }

    private static void promise27Play() {
        SluiceTurns x = new SluiceTurns();
        Due.is("27 no orders", 0, x.play());
        Due.is("27 one change all the same", 1, x.count(14));
        x.canal(0, 0, 100, 0);
        x.field(1, 100, 10, 3);
        x.field(0, 25, 10, 9);
        x.tend(0, 1);
        x.turn(0, 2);
        write(x, "h10;o1;y0;h50;r3,100;");
        // 9 to field 1; 10 to field 0 by its call; with turns nothing to 0 but at last 10 and 6 to 1
        Due.is("27 would", 0, x.would(2, 0, 0));
        Due.is("27 plays", 9 + 10 + 16, x.play());
        Due.is("27 field 0", 10, x.fieldOf(0, 4));
        Due.is("27 field 1", 25, x.fieldOf(1, 4));
        Due.is("27 its hour", 4, x.fieldOf(1, 7));
        Due.is("27 hours", 5, x.count(6));
        Due.is("27 the turn", 1, x.count(13));
        Due.is("27 calls", 1, x.count(3));
        Due.is("27 the text stays", 21, x.count(15));
        Due.is("27 the gates of the turn", 0, x.count(4));
        Due.is("27 one change", 3, x.undo());
        Due.is("27 undone", 0, x.count(6) + x.count(8) + x.count(3) + x.count(4));
        Due.is("27 the text stays behind undo", 21, x.clearText());
        write(x, "o1;o1;");
        Due.is("27 a fault", NOT_POSSIBLE, x.play());
        Due.is("27 nothing is done", 0, x.count(4));
        Due.is("27 nothing is recorded", 3, x.count(14));
    }
}
