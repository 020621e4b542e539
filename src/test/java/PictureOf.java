/** All that an object tells of itself, in some 200 calls. */
final class PictureOf {
    private PictureOf() {
    }

    /** All of the state; the numbers of the history and of the text are left out. */
    static String object(SluiceTurns x) {
        StringBuilder picture = new StringBuilder();
        for (int what = 0; what < 14; what++) {
            picture.append(x.count(what)).append(' ');
        }
        for (int canal = 0; canal < 8; canal++) {
            for (int what = 0; what < 10; what++) {
                picture.append(x.canalOf(canal, what)).append(' ');
            }
        }
        for (int field = 0; field < 10; field++) {
            for (int what = 0; what < 8; what++) {
                picture.append(x.fieldOf(field, what)).append(' ');
            }
        }
        for (int turn = 0; turn < 8; turn++) {
            picture.append(x.turnOf(turn, 0)).append(' ').append(x.turnOf(turn, 1)).append(' ');
        }
        for (int place = 0; place < 10; place++) {
            picture.append(x.rightAt(place)).append(' ');
        }
        return picture.toString();
    }

    /** The state, and what is told of the history and the text. */
    static String objectWithAll(SluiceTurns x) {
        StringBuilder picture = new StringBuilder(object(x));
        picture.append("states ").append(x.count(14)).append(" text ").append(x.count(15));
        for (int what = 0; what < 3; what++) {
            picture.append(' ').append(x.fault(what));
        }
        return picture.toString();
    }
}
