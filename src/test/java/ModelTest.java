import java.util.Random;

/** Runs of calls drawn by fixed seeds, each answer held against that of the model. */
public final class ModelTest {
    private static final int RUNS = 240;
    /** The document asks nothing of an object behind its 512th call. */
    private static final int CALLS = 512;
    private static final int CALLS_OF_WHOLE = 16 + 10 * 21;
    private static final int LONGEST_STEP = 10;
    private static final int MOST_HOURS = 20000;
    private static final int MOST_HOURS_OF_RUN = 100;
    private static final String SIGNS = "ocyhr0123456789,;;  x";

    private final Random random;
    private final int seed;
    /** How much of the numbers drawn is wrong: a share of a hundred. */
    private final int wild;
    private SluiceTurns program;
    private TerraceModel model;
    private int calls;

    private ModelTest(int seed) {
        this.seed = seed;
        random = new Random(seed);
        wild = seed % 4 == 0 ? 15 : 2;
    }

    public static void main(String[] args) {
        for (int seed = 0; seed < RUNS; seed++) {
            new ModelTest(seed).compare();
        }
        Due.end();
    }

    private void compare() {
        program = new SluiceTurns();
        model = new TerraceModel();
        int building = random.nextInt(40);
        boolean isAskedForAll = seed % 2 == 1;
        int end = CALLS - LONGEST_STEP - (isAskedForAll ? CALLS_OF_WHOLE : 0);
        if (seed % 40 == 38) {
            growOld(building);
        }
        while (calls <= end) {
            if (calls < building || random.nextInt(60) == 0) {
                build();
            } else {
                step(random.nextInt(100));
            }
        }
        if (isAskedForAll) {
            whole();
        }
    }

    /** Runs a built terrace nearly as long as it can be run, so that limits and large accounts are met behind that. */
    private void growOld(int building) {
        while (calls < building) {
            build();
        }
        int hoursLeft = number(1, 20);
        while (model.count(6) < MOST_HOURS - hoursLeft) {
            int hours = Math.min(MOST_HOURS_OF_RUN, MOST_HOURS - hoursLeft - model.count(6));
            int b = buckets();
            due("run " + hours + " " + b, model.run(hours, b), program.run(hours, b));
        }
    }

    private void due(String call, int want, int got) {
        calls++;
        Due.is("seed " + seed + ", call " + calls + ": " + call, want, got);
    }

    /** A number of a range, seldom one of its edges' neighbours or one far off. */
    private int number(int least, int most) {
        if (random.nextInt(100) < wild) {
            int[] wrong = {least - 1, most + 1, Integer.MIN_VALUE, Integer.MAX_VALUE, -1};
            return wrong[random.nextInt(wrong.length)];
        }
        return most < least ? least : least + random.nextInt(most - least + 1);
    }

    private int gate() {
        return number(1, model.count(0) - 1);
    }

    private int aField() {
        return number(0, model.count(1) - 1);
    }

    private int gates() {
        return number(0, (1 << model.count(0) - 1) - 1) * 2;
    }

    private int buckets() {
        return random.nextInt(3) == 0 ? number(0, 20) : number(0, 999);
    }

    private void build() {
        int a = number(0, model.count(0) - 1);
        if (random.nextInt(2) == 0) {
            int b = number(0, 2);
            int c = random.nextBoolean() ? number(1, 60) : number(1, 500);
            int d = random.nextBoolean() ? number(0, 100) : number(0, 500);
            due("canal " + a + " " + b + " " + c + " " + d, model.canal(a, b, c, d), program.canal(a, b, c, d));
        } else {
            int b = random.nextBoolean() ? number(1, 60) : number(1, 999);
            int c = random.nextBoolean() ? number(1, 15) : number(1, 200);
            int d = random.nextBoolean() ? number(0, 4) : number(0, 99);
            due("field " + a + " " + b + " " + c + " " + d, model.field(a, b, c, d), program.field(a, b, c, d));
        }
    }

    private void step(int draw) {
        if (draw < 45) {
            change(draw);
        } else if (draw < 60) {
            ask();
        } else if (draw < 80) {
            foresee(random.nextInt(5));
        } else if (draw < 85) {
            due("undo", model.undo(), program.undo());
        } else {
            write(random.nextInt(6));
        }
    }

    private void change(int draw) {
        int a = gate();
        if (draw < 7) {
            int crew = number(0, 2);
            due("tend " + crew + " " + a, model.tend(crew, a), program.tend(crew, a));
        } else if (draw < 9) {
            due("leave " + a, model.leave(a), program.leave(a));
        } else if (draw < 17) {
            due("open " + a, model.open(a), program.open(a));
        } else if (draw < 22) {
            due("close " + a, model.close(a), program.close(a));
        } else if (draw < 28) {
            int f = aField();
            due("call " + f, model.call(f), program.call(f));
        } else if (draw < 32) {
            int set = gates();
            int hours = random.nextBoolean() ? number(1, 3) : number(1, 20);
            due("turn " + set + " " + hours, model.turn(set, hours), program.turn(set, hours));
        } else if (draw < 33) {
            due("noTurns", model.noTurns(), program.noTurns());
        } else if (draw < 38) {
            int b = buckets();
            due("hour " + b, model.hour(b), program.hour(b));
        } else {
            int h = random.nextInt(4) == 0 ? number(1, 100) : number(1, 4);
            int b = buckets();
            due("run " + h + " " + b, model.run(h, b), program.run(h, b));
        }
    }

    private void ask() {
        int a = number(0, 9);
        int b = number(0, 15);
        due("canalOf " + a + " " + b, model.canalOf(a, b), program.canalOf(a, b));
        due("fieldOf " + a + " " + b, model.fieldOf(a, b), program.fieldOf(a, b));
        due("turnOf " + a + " " + b, model.turnOf(a, b), program.turnOf(a, b));
        due("rightAt " + a, model.rightAt(a), program.rightAt(a));
        due("share " + b % 4, model.share(b % 4), program.share(b % 4));
        due("count " + b, model.count(b), program.count(b));
    }

    private void foresee(int draw) {
        int b = buckets();
        if (draw < 2) {
            int set = gates();
            int what = random.nextBoolean() ? number(0, 2) : 10 + aField();
            due("would " + set + " " + b + " " + what, model.would(set, b, what), program.would(set, b, what));
        } else if (draw < 3) {
            int set = random.nextBoolean() && model.count(1) > 0 ? 1 << random.nextInt(model.count(1))
                    : number(0, (1 << model.count(1)) - 1);
            int hours = number(1, 5);
            due("leastGates " + set + " " + b + " " + hours, model.leastGates(set, b, hours),
                    program.leastGates(set, b, hours));
        } else if (draw < 4) {
            int f = aField();
            due("fewestBuckets " + f, model.fewestBuckets(f), program.fewestBuckets(f));
        } else {
            due("hoursFor " + b, model.hoursFor(b), program.hoursFor(b));
        }
    }

    private void write(int draw) {
        if (random.nextInt(100) < wild) {
            int sign = number(32, 126);
            due("type " + sign, model.type(sign), program.type(sign));
        } else if (draw < 1) {
            due("clearText", model.clearText(), program.clearText());
        } else if (draw < 4) {
            String order = random.nextInt(5) == 0 ? "" + SIGNS.charAt(random.nextInt(SIGNS.length())) : order();
            for (int i = 0; i < order.length(); i++) {
                due("type " + order.charAt(i), model.type(order.charAt(i)), program.type(order.charAt(i)));
            }
        } else if (draw < 5) {
            for (int what = 0; what < 3; what++) {
                due("fault " + what, model.fault(what), program.fault(what));
            }
        } else {
            due("play", model.play(), program.play());
        }
    }

    private String order() {
        switch (random.nextInt(5)) {
            case 0: return "o" + Math.abs(gate() % 1000) + ";";
            case 1: return "c0" + Math.abs(gate() % 100) + ";";
            case 2: return "y" + Math.abs(aField() % 1000) + ";";
            case 3: return "h" + Math.abs(buckets() % 1000) + ";";
            default: return "r" + Math.abs(number(1, 10) % 100) + "," + Math.abs(buckets() % 1000) + ";";
        }
    }

    /** All that can be asked, behind the run. */
    private void whole() {
        for (int what = 0; what < 16; what++) {
            due("count " + what, model.count(what), program.count(what));
        }
        for (int number = 0; number < 10; number++) {
            for (int what = 0; what < 10; what++) {
                due("canalOf " + number + " " + what, model.canalOf(number, what), program.canalOf(number, what));
                due("fieldOf " + number + " " + what, model.fieldOf(number, what), program.fieldOf(number, what));
            }
            due("rightAt " + number, model.rightAt(number), program.rightAt(number));
        }
    }
}
