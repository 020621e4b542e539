/** The sentences of the terms that tell of texts, and of the promises 24 to 27. */
final class SentencesOfTexts extends Sentences {
    private SentencesOfTexts() {
    }

    static void all() {
        lengthAndEnds();
        orders();
        numbers();
        positions();
        reasons();
        causes();
        type();
        clearText();
        fault();
        play();
    }

    /** A plank, a field at it, and the crew 0 at the plank. */
    private static void terrace(SluiceTurns x) {
        planks(x, 1);
        x.field(1, 99, 10, 0);
        x.tend(0, 1);
    }

    private static void lengthAndEnds() {
        chapter("Texts");
        test("There is a text of at most 60 characters, initially empty:", x -> {
            due(0, x.count(15));
            due(NOT_FOUND, x.fault(0));
            for (int length = 1; length <= 60; length++) {
                due(length, x.type(length % 3 == 1 ? 'h' : length % 3 == 2 ? '1' : ';'));
            }
            due(LIMIT, x.type('h'));
            due(60, x.count(15));
            due(NOT_FOUND, x.fault(0));
            x.play();
            due(20, x.count(6));
            due(60, x.clearText());
            due(0, x.count(15));
        });
        test("orders, each followed by \";\":", x -> {
            dueNoFault(x, "h1;");
            dueFault(x, "h1", 0, 1, 2);
            dueFault(x, "h1h1;", 0, 1, 2);
            dueNoFault(x, "h1;h1;");
            dueFault(x, "h1;h1", 3, 1, 2);
            dueFault(x, "h1;;", 3, 1, 0);
            dueFault(x, ";", 0, 1, 0);
            dueFault(x, "h1,", 0, 1, 2);
            dueFault(x, "h1:", 0, 1, 2);
            dueFault(x, "h1<", 0, 1, 2);
        });
    }

    private static void orders() {
        chapter("Texts");
        test("\"o\" a gate (it is opened by hand),", x -> {
            terrace(x);
            write(x, "o1;");
            due(0, x.play());
            due(2, x.count(4));
            dueFault(x, "n1;", 0, 1, 0);
            dueFault(x, "p1;", 0, 1, 0);
            dueFault(x, "O1;", 0, 1, 0);
        });
        test("\"c\" a gate (it is closed by hand),", x -> {
            terrace(x);
            x.open(1);
            write(x, "c1;");
            due(0, x.play());
            due(0, x.count(4));
            dueFault(x, "b1;", 0, 1, 0);
            dueFault(x, "d1;", 0, 1, 0);
        });
        test("\"y\" a field (it calls),", x -> {
            terrace(x);
            write(x, "y0;");
            due(0, x.play());
            due(1, x.count(3));
            dueFault(x, "x0;", 0, 1, 0);
            dueFault(x, "z0;", 0, 1, 0);
        });
        test("\"h\" buckets (an hour in which these are offered),", x -> {
            terrace(x);
            x.turn(2, 1);
            write(x, "h201;");
            due(0, x.play());
            due(1, x.count(6));
            due(200, x.count(7));
            due(0, x.count(4));
            dueFault(x, "g1;", 0, 1, 0);
            dueFault(x, "i1;", 0, 1, 0);
        });
        test("\"r\" hours, \",\", buckets (so many hours are run, in each of which these are offered);", x -> {
            terrace(x);
            x.turn(2, 1);
            x.turn(0, 1);
            write(x, "r3,20;");
            due(20, x.play());
            due(3, x.count(6));
            due(60, x.count(7));
            due(1, x.count(12));
            dueFault(x, "q1,1;", 0, 1, 0);
            dueFault(x, "s1,1;", 0, 1, 0);
            dueFault(x, "r1;", 0, 1, 2);
            dueFault(x, "r1;1;", 0, 1, 2);
            dueFault(x, "r1+1;", 0, 1, 2);
            dueFault(x, "r1-1;", 0, 1, 2);
        });
    }

    private static void numbers() {
        chapter("Texts");
        test("numbers of 1 to 3 digits,", x -> {
            dueFault(x, "h;", 0, 1, 1);
            dueNoFault(x, "h1;");
            dueNoFault(x, "h12;");
            dueNoFault(x, "h123;");
            dueFault(x, "h1234;", 0, 1, 4);
            dueFault(x, "r,1;", 0, 1, 1);
            dueFault(x, "r1,;", 0, 1, 3);
            dueNoFault(x, "r1,1;");
            dueNoFault(x, "r10,123;");
            dueFault(x, "r1,1234;", 0, 1, 6);
            dueFault(x, "r0001,1;", 0, 1, 4);
        });
        test("of 1 to 3 digits", x -> {
            dueNoFault(x, "h0;");
            dueNoFault(x, "h9;");
            dueFault(x, "h/;", 0, 1, 1);
            dueFault(x, "h:;", 0, 1, 1);
            dueFault(x, "h1/;", 0, 1, 2);
            dueFault(x, "h-1;", 0, 1, 1);
            dueFault(x, "h 1;", 0, 1, 1);
            write(x, "h109;");
            x.play();
            due(109, x.count(7));
        });
        test("0 ahead allowed.", x -> {
            terrace(x);
            dueNoFault(x, "h000;");
            dueFault(x, "h0000;", 0, 1, 4);
            dueFault(x, "h0012;", 0, 1, 4);
            dueFault(x, "o000;", 0, 2, 0);
            dueNoFault(x, "r001,00;");
            write(x, "o001;y00;r010,020;");
            due(99, x.play());
            due(10, x.count(6));
            due(200, x.count(7));
        });
    }

    private static void positions() {
        chapter("Texts");
        test("The fault of the text is the position, from 0, of the first character of the first order that is"
                + " not possible;", x -> {
            dueFault(x, "x", 0, 1, 0);
            dueFault(x, "h1;o1;o2;", 3, 2, 0);
            dueFault(x, "h1;r01,001;h1", 11, 1, 2);
            dueFault(x, "h1;".repeat(19) + "h1", 57, 1, 2);
            dueFault(x, "h1;".repeat(18) + "h123;x", 59, 1, 0);
            dueNoFault(x, "h1;".repeat(20));
        });
        test("the first order", x -> {
            terrace(x);
            dueFault(x, "o1;o1;o9;x", 3, 3, NOT_FOUND);
            dueFault(x, "o1;o9;o1;x", 3, 2, 0);
            dueFault(x, "o1;x;o9;o1;", 3, 1, 0);
        });
    }

    private static void reasons() {
        chapter("Texts");
        test("its reason is 1 if it is not of this form, its \";\" included,", x -> {
            terrace(x);
            // neither the range nor the possibility matters ahead of the form
            dueFault(x, "o9", 0, 1, 2);
            dueFault(x, "o9;", 0, 2, 0);
            dueFault(x, "c1", 0, 1, 2);
            dueFault(x, "c1;", 0, 3, NOT_FOUND);
            dueFault(x, "r11,1", 0, 1, 5);
            dueFault(x, "r11,1;", 0, 2, 0);
            dueFault(x, "r11,x;", 0, 1, 4);
        });
        test("2 if a number is out of its range (there is no such gate or field;", x -> {
            planks(x, 7);
            fields(x, 0, 10);
            x.tend(0, 1);
            x.tend(0, 7);
            dueFault(x, "o0;", 0, 2, 0);
            dueNoFault(x, "o1;");
            dueNoFault(x, "o7;");
            dueFault(x, "o8;", 0, 2, 0);
            dueFault(x, "c0;", 0, 2, 0);
            dueNoFault(x, "o7;c7;");
            dueFault(x, "c8;", 0, 2, 0);
            dueNoFault(x, "y0;");
            dueNoFault(x, "y9;");
            dueFault(x, "y10;", 0, 2, 0);
            dueFault(x, "o999;", 0, 2, 0);
        });
        test("there is no such gate or field;", x -> {
            dueFault(x, "o1;", 0, 2, 0);
            dueFault(x, "y0;", 0, 2, 0);
            terrace(x);
            dueNoFault(x, "o1;");
            dueFault(x, "o2;", 0, 2, 0);
            dueNoFault(x, "y0;");
            dueFault(x, "y1;", 0, 2, 0);
        });
        test("hours not 1 to 10),", x -> {
            dueFault(x, "r0,1;", 0, 2, 0);
            dueNoFault(x, "r1,1;");
            dueNoFault(x, "r10,1;");
            dueFault(x, "r11,1;", 0, 2, 0);
            dueFault(x, "r999,999;", 0, 2, 0);
            dueNoFault(x, "r1,0;");
            dueNoFault(x, "r10,999;h0;h999;");
        });
        test("and 3 if it is not possible otherwise (by what open, close, call, hour and run tell),", x -> {
            planks(x, 2);
            x.field(0, 9, 9, 0);
            x.field(0, 99, 9, 0);
            x.tend(0, 1);
            x.hour(200);
            x.call(1);
            dueFault(x, "o2;", 0, 3, NOT_FOUND);
            dueFault(x, "c1;", 0, 3, NOT_FOUND);
            dueFault(x, "c2;", 0, 3, NOT_FOUND);
            dueFault(x, "y0;", 0, 3, NOT_FOUND);
            dueFault(x, "y1;", 0, 3, NOT_FOUND);
            x.open(1);
            dueFault(x, "o1;", 0, 3, NOT_FOUND);
            dueNoFault(x, "c1;");
        });
        test("hour and run tell", x -> {
            runUntil(x, 19990);
            dueNoFault(x, "r10,1;");
            dueFault(x, "h1;r10,1;", 3, 3, NOT_FOUND);
            dueNoFault(x, "h1;r9,1;");
            dueFault(x, "r10,1;h1;", 6, 3, NOT_FOUND);
            dueFault(x, "r10,1;r1,0;", 6, 3, NOT_FOUND);
            dueNoFault(x, "r9,1;h0;");
            dueNoFault(x, "r9,1;h999;");
            dueFault(x, "r10,1;h0;", 6, 3, NOT_FOUND);
        });
        test("when those ahead of it are done.", x -> {
            terrace(x);
            dueNoFault(x, "o1;c1;o1;");
            dueFault(x, "o1;c1;c1;", 6, 3, NOT_FOUND);
            dueFault(x, "y0;h0;y0;", 6, 3, NOT_FOUND);
            x.turn(2, 1);
            dueFault(x, "r10,20;y0;", 7, 3, NOT_FOUND);
            dueNoFault(x, "r9,20;y0;");
            dueNoFault(x, "r1,0;c1;");
            dueFault(x, "r1,0;o1;", 5, 3, NOT_FOUND);
            // a fault does nothing of the orders ahead of it
            due(0, x.count(4) + x.count(6));
        });
    }

    private static void causes() {
        chapter("Texts");
        test("The cause of a fault with the reason 1 is at which character of the order it breaks off", x -> {
            dueFault(x, "h1;hx;", 3, 1, 1);
            dueFault(x, "h1;h1x;", 3, 1, 2);
            dueFault(x, "h1;h12x;", 3, 1, 3);
            dueFault(x, "h1;h123x;", 3, 1, 4);
            dueFault(x, "h1;h1234;", 3, 1, 4);
            dueFault(x, "h1;rx", 3, 1, 1);
            dueFault(x, "h1;r1x", 3, 1, 2);
            dueFault(x, "h1;r123;", 3, 1, 4);
            dueFault(x, "h1;r1,x", 3, 1, 3);
            dueFault(x, "h1;r1,1x", 3, 1, 4);
            dueFault(x, "h1;r123,123x", 3, 1, 8);
        });
        test("(0 for its first one;", x -> {
            dueFault(x, "x", 0, 1, 0);
            dueFault(x, "1;", 0, 1, 0);
            dueFault(x, " h1;", 0, 1, 0);
            dueFault(x, "h1; h1;", 3, 1, 0);
            dueFault(x, "h1;,", 3, 1, 0);
            dueFault(x, "h1;~", 3, 1, 0);
        });
        test("of an order that the text ends too early it is its length),", x -> {
            dueFault(x, "h", 0, 1, 1);
            dueFault(x, "h1", 0, 1, 2);
            dueFault(x, "h12", 0, 1, 3);
            dueFault(x, "h123", 0, 1, 4);
            dueFault(x, "h1;r", 3, 1, 1);
            dueFault(x, "h1;r1", 3, 1, 2);
            dueFault(x, "h1;r10", 3, 1, 3);
            dueFault(x, "h1;r10,", 3, 1, 4);
            dueFault(x, "h1;r10,1", 3, 1, 5);
            dueFault(x, "h1;r10,123", 3, 1, 7);
            dueNoFault(x, "h1;r10,123;");
        });
        test("of an order that the text ends too early", x -> {
            // what stood behind the end before does not count
            write(x, "h123;");
            dueFault(x, "h1", 0, 1, 2);
            dueFault(x, "h", 0, 1, 1);
        });
        test("with the reason 2 which of its numbers is out of its range, from 0, the first one.", x -> {
            terrace(x);
            dueFault(x, "o2;", 0, 2, 0);
            dueFault(x, "c2;", 0, 2, 0);
            dueFault(x, "y1;", 0, 2, 0);
            dueFault(x, "r0,0;", 0, 2, 0);
            dueFault(x, "r11,0;", 0, 2, 0);
            dueFault(x, "h1;r11,999;", 3, 2, 0);
        });
    }

    private static void type() {
        chapter("Promise 24: type");
        test("Appends a character to the text.", x -> {
            write(x, "h12");
            due(3, x.fault(2));
            x.type(';');
            due(NOT_FOUND, x.fault(0));
            x.play();
            due(12, x.count(7));
        });
        test("character: 32 to 126", x -> {
            due(INVALID, x.type(31));
            due(1, x.type(32));
            due(2, x.type(126));
            due(INVALID, x.type(127));
            due(INVALID, x.type(0));
            due(INVALID, x.type(-1));
            due(INVALID, x.type(LEAST));
            due(INVALID, x.type(MOST));
            due(INVALID, x.type(256 + 'h'));
            due(2, x.count(15));
        });
        test("Returns the length of the text; INVALID_ARGUMENT if character is out of range;"
                + " LIMIT_REACHED if it has 60 characters.", x -> {
            for (int length = 1; length <= 60; length++) {
                due(length, x.type('a'));
            }
            due(LIMIT, x.type('a'));
            due(LIMIT, x.type(32));
            due(LIMIT, x.type(126));
            due(INVALID, x.type(31));
            due(INVALID, x.type(127));
            due(60, x.count(15));
            x.clearText();
            due(1, x.type('a'));
        });
    }

    private static void clearText() {
        chapter("Promise 25: clearText");
        test("Empties the text.", x -> {
            write(x, "x");
            due(0, x.fault(0));
            x.clearText();
            due(0, x.count(15));
            due(NOT_FOUND, x.fault(0));
            due(0, x.play());
            due(1, x.type('h'));
            due(1, x.fault(2));
        });
        test("Returns the length it had.", x -> {
            due(0, x.clearText());
            x.type('a');
            due(1, x.clearText());
            due(0, x.clearText());
            for (int i = 0; i < 60; i++) {
                x.type('a');
            }
            x.type('a');
            due(60, x.clearText());
        });
    }

    private static void fault() {
        chapter("Promise 26: fault");
        test("Tells about the fault of the text.", x -> {
            terrace(x);
            write(x, "o1;h100;o1;");
            due(8, x.fault(0));
            due(0, x.count(4) + x.count(6) + x.count(7));
            due(3, x.count(14));
            due(8, x.fault(0));
        });
        test("what: 0: its position; 1: its reason; 2: its cause", x -> {
            write(x, "h1;r1,");
            due(INVALID, x.fault(-1));
            due(3, x.fault(0));
            due(1, x.fault(1));
            due(3, x.fault(2));
            due(INVALID, x.fault(3));
            due(INVALID, x.fault(LEAST));
            due(INVALID, x.fault(MOST));
        });
        test("Returns that; INVALID_ARGUMENT if what is out of range;"
                + " NOT_FOUND if the text has no fault (also if it is empty),", x -> {
            for (int what = 0; what <= 2; what++) {
                due(NOT_FOUND, x.fault(what));
            }
            due(INVALID, x.fault(-1));
            due(INVALID, x.fault(3));
            dueFault(x, "h", 0, 1, 1);
            dueNoFault(x, "h1;");
            due(INVALID, x.fault(-1));
            due(INVALID, x.fault(3));
            dueNoFault(x, "");
        });
        test("for 2 if the reason is 3.", x -> {
            terrace(x);
            write(x, "c1;");
            due(0, x.fault(0));
            due(3, x.fault(1));
            due(NOT_FOUND, x.fault(2));
            write(x, "c2;");
            due(2, x.fault(1));
            due(0, x.fault(2));
            write(x, "c;");
            due(1, x.fault(1));
            due(1, x.fault(2));
        });
    }

    private static void play() {
        chapter("Promise 27: play");
        test("Does all orders of the text, which stays.", x -> {
            terrace(x);
            write(x, "o1;y0;h20;");
            due(10, x.play());
            due(2, x.count(4));
            due(1, x.count(3));
            due(1, x.count(6));
            due(10, x.count(15));
            due(0, x.fault(0));
            due(NOT_POSSIBLE, x.play());
            x.undo();
            due(10, x.play());
            write(x, "h0;r9,20;");
            fields(x, 0, 8);
            x.field(0, 1, 1, 0);
            // the field 0 gets all its need by its call, but one bucket goes to the field 9, as old as it
            due(89 + 1, x.play());
            due(3, x.fieldOf(9, 7));
            due(11, x.fieldOf(0, 7));
        });
        test("They are one change, also if there are none.", x -> {
            due(0, x.play());
            due(1, x.count(14));
            write(x, "h1;r10,1;h1;h1;h1;");
            x.play();
            due(2, x.count(14));
            due(14, x.count(6));
            due(1, x.undo());
            due(0, x.count(6));
            due(0, x.undo());
        });
        test("Returns how many buckets fields get by them;", x -> {
            terrace(x);
            x.field(0, 15, 5, 1);
            due(0, x.play());
            write(x, "h0;h1;");
            due(0, x.play());
            write(x, "h100;o1;h100;c1;r2,100;");
            due(5 + 15 + 5, x.play());
            due(25, x.count(8));
            write(x, "o1;r9,100;");
            due(89, x.play());
            due(0, x.count(2));
        });
        test("NOT_POSSIBLE if it has a fault.", x -> {
            terrace(x);
            String[] faulty = {"x", "h", "o2;", "c1;", "o1;h9;o1;", "r11,0;", "h1;h1"};
            for (String text : faulty) {
                write(x, text);
                due(NOT_POSSIBLE, x.play());
            }
            due(0, x.count(4) + x.count(6));
            due(3, x.count(14));
            due(5, x.count(15));
            x.type(';');
            due(0, x.play());
        });
    }
}
