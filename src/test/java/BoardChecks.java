import java.util.ArrayList;
import java.util.List;

/** What tests of single sentences share: boards made in a line, and a look at a whole state. */
abstract class BoardChecks {
    static final int NONE = TileWordBoard.NONE;

    final Checks checks = new Checks();

    /** Makes a new object and brings it to some state, the same one each time. */
    interface Setup {
        TileWordBoard make();
    }

    /** One call of a given object. */
    interface Act {
        long on(TileWordBoard board);
    }

    static TileWordBoard board(String... words) {
        TileWordBoard board = new TileWordBoard();
        for (String word : words) {
            text(board, word);
            board.addWord();
        }
        return board;
    }

    static void text(TileWordBoard board, String word) {
        board.clearText();
        for (char sign : word.toCharArray()) {
            board.type(sign - 'a');
        }
    }

    static TileWordBoard withText(TileWordBoard board, String word) {
        text(board, word);
        return board;
    }

    static void rack(TileWordBoard board, int player, String tiles) {
        text(board, tiles);
        board.setRack(player);
    }

    /** Lays tiles to the right, a point for an empty square. */
    static void row(TileWordBoard board, int row, int column, String tiles) {
        for (int k = 0; k < tiles.length(); k++) {
            board.setTile(row, column + k, letter(tiles.charAt(k)));
        }
    }

    /** Lays tiles downwards, a point for an empty square. */
    static void column(TileWordBoard board, int row, int column, String tiles) {
        for (int k = 0; k < tiles.length(); k++) {
            board.setTile(row + k, column, letter(tiles.charAt(k)));
        }
    }

    private static int letter(char sign) {
        return sign == '.' ? NONE : sign - 'a';
    }

    static int number(TileWordBoard board, String word) {
        text(board, word);
        int number = board.lookUp();
        board.clearText();
        return number;
    }

    /** The play at an index as direction, row, column, word, score and equity. */
    static String described(TileWordBoard board, int player, int index) {
        StringBuilder all = new StringBuilder();
        for (int what = 0; what <= 5; what++) {
            all.append(what == 0 ? "" : " ").append(board.playAt(player, index, what));
        }
        return all.toString();
    }

    /** The digest's hash carried on over some values. */
    static long hash(long before, int... values) {
        long h = before;
        for (int v : values) {
            h = 31 * h + v;
        }
        return h;
    }

    /**
     * Digests of the state as it is and of the saved states behind it, newest first. The number
     * of saved states is taken out of each, so that a state has the same one wherever it stands.
     * The object is of no use after it.
     */
    static List<Long> states(TileWordBoard board) {
        List<Long> digests = new ArrayList<>();
        digests.add(board.digest());
        int remaining = 0;
        while (digests.size() < 9 && !Checks.answerOf(board::undo).startsWith("throws")) {
            digests.add(board.digest());
        }
        for (int k = digests.size() - 1; k >= 0; k--) {
            digests.set(k, digests.get(k) - remaining);
            remaining++;
        }
        return digests;
    }

    /** A call that throws, and leaves the text, the state and the saved states as they were. */
    void refused(String what, String exception, Setup setup, Act act) {
        TileWordBoard called = setup.make();
        checks.due(what, "throws " + exception, Checks.answerOf(() -> act.on(called)));
        checks.due(what + " changes nothing", states(setup.make()).toString(),
                states(called).toString());
    }

    void index(String what, Setup setup, Act act) {
        refused(what, "IndexOutOfBoundsException", setup, act);
    }

    void argument(String what, Setup setup, Act act) {
        refused(what, "IllegalArgumentException", setup, act);
    }

    void state(String what, Setup setup, Act act) {
        refused(what, "IllegalStateException", setup, act);
    }

    /** A call that answers and changes nothing, the saved states neither. */
    void reads(String what, long want, Setup setup, Act act) {
        TileWordBoard called = setup.make();
        checks.due(what, want, () -> act.on(called));
        checks.due(what + " changes nothing", states(setup.make()).toString(),
                states(called).toString());
    }

    /** A call that saves the state from before it, behind which at most three others remain. */
    void saves(String what, long want, Setup setup, Act act) {
        TileWordBoard called = setup.make();
        TileWordBoard before = setup.make();
        checks.due(what, want, () -> act.on(called));
        called.clearText();
        before.clearText();
        List<Long> behind = states(called);
        behind.remove(0);
        List<Long> due = states(before);
        checks.due(what + " saves the state from before it",
                due.subList(0, Math.min(4, due.size())).toString(), behind.toString());
    }
}
