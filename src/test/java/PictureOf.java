/** All that an object tells of itself, but its history and its text. */
final class PictureOf {
    private PictureOf() {
    }

    static String object(SluiceTurns x) {
        StringBuilder picture = new StringBuilder();
        for (int what = 0; what < 14; what++) {
            picture.append(x.count(what)).append(' ');
        }
        for (int canal = 0; canal < 8; canal++) {
            for (int what = 0; what < 10; what++) {
                picture.append(x.canalOf(canal, what)).append(' ');
            }
        }
        for (int field = 0; field < 10; field++) {
            for (int what = 0; what < 8; what++) {
                picture.append(x.fieldOf(field, what)).append(' ');
            }
        }
        for (int turn = 0; turn < 8; turn++) {
            picture.append(x.turnOf(turn, 0)).append(' ').append(x.turnOf(turn, 1)).append(' ');
        }
        for (int place = 0; place < 10; place++) {
            picture.append(x.rightAt(place)).append(' ');
        }
        return picture.toString();
    }
}
