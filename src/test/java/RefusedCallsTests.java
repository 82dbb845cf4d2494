/**
 * Each call that the document refuses: which exception it throws, and that the text, the state and
 * the saved states are after it what they were before it.
 */
public final class RefusedCallsTests extends BoardChecks {
    private static final int LEAST = Integer.MIN_VALUE;
    private static final int GREATEST = Integer.MAX_VALUE;
    private static final int[] NO_PLAYERS = {-1, 2, LEAST, GREATEST};
    private static final int[] NO_LETTERS = {-1, 8, LEAST, GREATEST};
    private static final int[] NO_DIRECTIONS = {-1, 2, LEAST, GREATEST};
    private static final int[][] NO_SQUARES = {{-1, 3}, {7, 3}, {3, -1}, {3, 7}, {-1, -1}, {7, 7},
        {0, -1}, {0, 7}, {6, -1}, {6, 7}, {-1, 0}, {-1, 6}, {7, 0}, {7, 6}, {LEAST, 0},
        {GREATEST, 0}, {0, LEAST}, {0, GREATEST}, {1, -2}, {2, 8}, {-1, 8}};

    public static void main(String[] arguments) {
        RefusedCallsTests tests = new RefusedCallsTests();
        tests.type();
        tests.addWord();
        tests.setLetter();
        tests.setPremium();
        tests.setRack();
        tests.setTile();
        tests.readers();
        tests.crossSet();
        tests.check();
        tests.playWithWrongArguments();
        tests.playForEachReason();
        tests.playAt();
        tests.playBest();
        tests.endgame();
        tests.undo();
        tests.checks.close("RefusedCallsTests");
    }

    /** In the middle of a game: nothing has its first value, four states are saved. */
    private static TileWordBoard busy(String text) {
        TileWordBoard board = board("ab", "ba", "abb", "cab", "acccccc");
        board.setLetter(0, 3, -4);
        board.setLetter(1, 2, 5);
        board.setLetter(7, 10, -20);
        board.setPremium(3, 2, 3);
        board.setPremium(4, 3, 1);
        board.setPremium(0, 0, 4);
        rack(board, 0, "ab");
        rack(board, 1, "abchh");
        text(board, "ab");
        board.play(0, 0, 3, 3);
        board.playBest(1);
        rack(board, 0, "abbac");
        rack(board, 1, "bbacc");
        board.setTile(0, 6, 2);
        return withText(board, text);
    }

    /** With 30 words, the last of them hhh. */
    private static TileWordBoard full(String text) {
        TileWordBoard board = board("hhh");
        for (int k = 0; k < 29; k++) {
            text(board, "" + (char) ('a' + k / 8) + (char) ('a' + k % 8));
            board.addWord();
        }
        return withText(board, text);
    }

    private void type() {
        for (int letter : NO_LETTERS) {
            argument("type(" + letter + ")", TileWordBoard::new, b -> b.type(letter));
            argument("type(" + letter + ") to five", () -> busy("abcde"), b -> b.type(letter));
            argument("type(" + letter + ") to seven, both apply", () -> busy("abcdefg"),
                    b -> b.type(letter));
        }
        for (int letter = 0; letter < 8; letter++) {
            int l = letter;
            state("type(" + l + ") to seven", () -> busy("abcdefg"), b -> b.type(l));
        }
    }

    private void addWord() {
        state("addWord of nothing to a new object", TileWordBoard::new, b -> b.addWord());
        for (String text : new String[] {"", "a", "h"}) {
            state("addWord of " + text, () -> busy(text), b -> b.addWord());
            state("addWord of " + text + " to 30", () -> full(text), b -> b.addWord());
        }
        for (String text : new String[] {"ah", "hh", "hhhhhhh", "aaaaaaa", "aa", "hhh"}) {
            state("addWord of " + text + " to 30", () -> full(text), b -> b.addWord());
        }
    }

    private void setLetter() {
        for (int letter : NO_LETTERS) {
            argument("setLetter of " + letter, () -> busy("ab"), b -> b.setLetter(letter, 1, 0));
        }
        for (int letter = 0; letter < 8; letter++) {
            int l = letter;
            for (int value : new int[] {0, 11, -1, LEAST, GREATEST}) {
                argument("setLetter to " + value, () -> busy("ab"), b -> b.setLetter(l, value, 0));
            }
            for (int leave : new int[] {-21, 21, LEAST, GREATEST}) {
                argument("setLetter, leave " + leave, () -> busy("ab"),
                        b -> b.setLetter(l, 5, leave));
            }
        }
        argument("setLetter, all wrong", TileWordBoard::new, b -> b.setLetter(8, 11, 21));
    }

    private void setPremium() {
        for (int[] at : NO_SQUARES) {
            String square = "setPremium at " + at[0] + ", " + at[1];
            index(square, () -> busy("ab"), b -> b.setPremium(at[0], at[1], 1));
            index(square + " to 5", () -> busy("ab"), b -> b.setPremium(at[0], at[1], 5));
            index(square + " to -1", () -> busy("ab"), b -> b.setPremium(at[0], at[1], -1));
        }
        for (int premium : new int[] {-1, 5, LEAST, GREATEST}) {
            argument("setPremium to " + premium, () -> busy("ab"),
                    b -> b.setPremium(0, 0, premium));
            argument("setPremium to " + premium, TileWordBoard::new,
                    b -> b.setPremium(6, 6, premium));
        }
    }

    private void setRack() {
        for (int player : NO_PLAYERS) {
            for (String text : new String[] {"", "abcde", "abcdef", "abcdefg"}) {
                index("setRack(" + player + ") of " + text, () -> busy(text),
                        b -> b.setRack(player));
            }
        }
        for (int player = 0; player < 2; player++) {
            int p = player;
            for (String text : new String[] {"abcdef", "aaaaaa", "hhhhhhh"}) {
                state("setRack(" + p + ") of " + text, () -> busy(text), b -> b.setRack(p));
                state("setRack(" + p + ") of " + text + ", new object",
                        () -> withText(new TileWordBoard(), text), b -> b.setRack(p));
            }
        }
    }

    private void setTile() {
        for (int[] at : NO_SQUARES) {
            String square = "setTile at " + at[0] + ", " + at[1];
            index(square, () -> busy("ab"), b -> b.setTile(at[0], at[1], 1));
            index(square + ", no tile", () -> busy("ab"), b -> b.setTile(at[0], at[1], NONE));
            index(square + ", letter 8", () -> busy("ab"), b -> b.setTile(at[0], at[1], 8));
            index(square + ", letter -2", () -> busy("ab"), b -> b.setTile(at[0], at[1], -2));
        }
        for (int letter : new int[] {-2, 8, LEAST, GREATEST}) {
            argument("setTile of " + letter, TileWordBoard::new, b -> b.setTile(0, 0, letter));
            argument("setTile of " + letter + " on a tile", () -> busy("ab"),
                    b -> b.setTile(3, 3, letter));
        }
    }

    private void readers() {
        for (int[] at : NO_SQUARES) {
            String square = " at " + at[0] + ", " + at[1];
            index("tileAt" + square, () -> busy("ab"), b -> b.tileAt(at[0], at[1]));
            index("isAnchor" + square, () -> busy("ab"), b -> b.isAnchor(at[0], at[1]) ? 1 : 0);
            index("isAnchor" + square + ", new object", TileWordBoard::new,
                    b -> b.isAnchor(at[0], at[1]) ? 1 : 0);
        }
        for (int player : NO_PLAYERS) {
            String of = " of player " + player;
            index("onRack" + of, () -> busy("ab"), b -> b.onRack(player, 0));
            index("onRack" + of + ", letter 8", () -> busy("ab"), b -> b.onRack(player, 8));
            index("onRack" + of + ", letter -1", () -> busy("ab"), b -> b.onRack(player, -1));
            index("score" + of, () -> busy("ab"), b -> b.score(player));
            index("plays" + of, () -> busy("ab"), b -> b.plays(player));
            index("bestPlay" + of, () -> busy("ab"), b -> b.bestPlay(player));
        }
        for (int letter : NO_LETTERS) {
            argument("onRack(0) of " + letter, () -> busy("ab"), b -> b.onRack(0, letter));
            argument("onRack(1) of " + letter, () -> busy("ab"), b -> b.onRack(1, letter));
        }
    }

    private void crossSet() {
        for (int[] at : NO_SQUARES) {
            for (int direction : new int[] {0, 1, 2, -1}) {
                index("crossSet at " + at[0] + ", " + at[1] + ", " + direction, () -> busy("ab"),
                        b -> b.crossSet(at[0], at[1], direction));
            }
        }
        for (int direction : NO_DIRECTIONS) {
            argument("crossSet in " + direction, () -> busy("ab"),
                    b -> b.crossSet(2, 3, direction));
            argument("crossSet in " + direction + " on a tile", () -> busy("ab"),
                    b -> b.crossSet(3, 3, direction));
        }
    }

    private void check() {
        for (int direction : new int[] {0, 1, 2, -1}) {
            for (int player : NO_PLAYERS) {
                index("check of player " + player, () -> busy("ab"),
                        b -> b.check(player, direction, 3, 3));
            }
            for (int[] at : NO_SQUARES) {
                index("check at " + at[0] + ", " + at[1], () -> busy("ab"),
                        b -> b.check(0, direction, at[0], at[1]));
            }
        }
        for (int direction : NO_DIRECTIONS) {
            argument("check in " + direction, () -> busy("ab"), b -> b.check(0, direction, 3, 3));
            argument("check in " + direction + " of no text", () -> busy(""),
                    b -> b.check(1, direction, 6, 6));
        }
    }

    private void playWithWrongArguments() {
        for (int direction : new int[] {0, 1, 2, -1}) {
            for (int player : NO_PLAYERS) {
                index("play of player " + player, () -> busy("ab"),
                        b -> b.play(player, direction, 2, 2));
            }
            for (int[] at : NO_SQUARES) {
                index("play at " + at[0] + ", " + at[1], () -> busy("ab"),
                        b -> b.play(0, direction, at[0], at[1]));
            }
        }
        for (int direction : NO_DIRECTIONS) {
            argument("play in " + direction, () -> readyToPlay("ab"),
                    b -> b.play(0, direction, 3, 3));
            argument("play in " + direction + " of no text", () -> readyToPlay(""),
                    b -> b.play(0, direction, 3, 3));
        }
    }

    private static TileWordBoard readyToPlay(String text) {
        TileWordBoard board = board("ab", "bb", "cab");
        rack(board, 0, "abb");
        return withText(board, text);
    }

    /** With the tiles aa in row 3 behind the centre. */
    private static TileWordBoard withTiles(String text) {
        TileWordBoard board = readyToPlay(text);
        board.setTile(3, 3, 0);
        board.setTile(3, 4, 0);
        return board;
    }

    private void playForEachReason() {
        reads("a play that can be made", 0, () -> readyToPlay("ab"), b -> b.check(0, 0, 3, 3));
        refusedFor(1, "no text", () -> readyToPlay(""), 0, 3, 3);
        refusedFor(1, "no word", () -> readyToPlay("ba"), 0, 3, 3);
        refusedFor(2, "beyond the board", () -> readyToPlay("ab"), 0, 3, 6);
        refusedFor(2, "beyond the board", () -> readyToPlay("ab"), 1, 6, 3);
        refusedFor(3, "a tile before", () -> withTiles("ab"), 0, 3, 5);
        refusedFor(3, "a tile behind", () -> withTiles("ab"), 0, 3, 1);
        refusedFor(3, "a tile above", () -> withTiles("ab"), 1, 4, 3);
        refusedFor(3, "a tile below", () -> withTiles("ab"), 1, 1, 3);
        refusedFor(4, "another tile", () -> withTiles("bb"), 1, 3, 3);
        refusedFor(5, "all squares have tiles", () -> {
            TileWordBoard b = withTiles("ab");
            b.setTile(3, 4, 1);
            return b;
        }, 0, 3, 3);
        refusedFor(6, "no c on the rack", () -> readyToPlay("cab"), 0, 3, 3);
        refusedFor(7, "not over the centre", () -> readyToPlay("ab"), 0, 2, 3);
        refusedFor(7, "at no tile", () -> withTiles("ab"), 0, 6, 0);
        refusedFor(8, "aa is no word", () -> withTiles("ab"), 0, 2, 3);
    }

    private void refusedFor(int reason, String why, Setup setup, int direction, int r, int c) {
        String what = "reason " + reason + ", " + why;
        reads(what + ": check", reason, setup, b -> b.check(0, direction, r, c));
        state(what + ": play", setup, b -> b.play(0, direction, r, c));
    }

    private void playAt() {
        for (int player : NO_PLAYERS) {
            for (int what : new int[] {0, 5, 6, -1}) {
                index("playAt of player " + player, () -> busy("ab"),
                        b -> b.playAt(player, 0, what));
            }
        }
        int[] counts = {busy("").plays(0), busy("").plays(1)};
        checks.due("both players have plays", "true", "" + (counts[0] > 1 && counts[1] > 1));
        for (int player = 0; player < 2; player++) {
            int p = player;
            int[] noPlays = {-1, counts[p], counts[p] + 1, 4095, 4096, 4097, LEAST, GREATEST};
            for (int index : noPlays) {
                for (int what : new int[] {0, 5, 6, -1}) {
                    index("playAt(" + p + ", " + index + ", " + what + ")", () -> busy("ab"),
                            b -> b.playAt(p, index, what));
                }
            }
            for (int what : new int[] {-1, 6, LEAST, GREATEST}) {
                argument("first play, what " + what, () -> busy("ab"), b -> b.playAt(p, 0, what));
                argument("last play, what " + what, () -> busy("ab"),
                        b -> b.playAt(p, counts[p] - 1, what));
            }
        }
        index("playAt where there is none", TileWordBoard::new, b -> b.playAt(0, 0, 0));
        index("playAt where there is none, what 6", TileWordBoard::new, b -> b.playAt(1, 0, 6));
    }

    private void playBest() {
        for (int player : NO_PLAYERS) {
            index("playBest of player " + player, () -> busy("ab"), b -> b.playBest(player));
            index("playBest of player " + player, TileWordBoard::new, b -> b.playBest(player));
        }
        for (int player = 0; player < 2; player++) {
            int p = player;
            state("playBest of a new object", TileWordBoard::new, b -> b.playBest(p));
            state("playBest of an empty rack", () -> {
                TileWordBoard b = busy("");
                b.setRack(p);
                return withText(b, "ab");
            }, b -> b.playBest(p));
        }
    }

    private void endgame() {
        for (int player : NO_PLAYERS) {
            index("endgame of player " + player, () -> busy("ab"), b -> b.endgame(player));
            index("endgame of player " + player, () -> long401(""), b -> b.endgame(player));
        }
        state("endgame of 401 positions", () -> long401("bba"), b -> b.endgame(0));
        state("endgame of far more positions", () -> busy("hgfedcb"), b -> b.endgame(0));
        state("endgame of far more positions", () -> busy("hgfedcb"), b -> b.endgame(1));
    }

    /** Player 0's endgame has 401 positions here. */
    private static TileWordBoard long401(String text) {
        TileWordBoard board = board("ba");
        rack(board, 0, "bba");
        rack(board, 1, "abb");
        board.setTile(6, 1, 0);
        board.setTile(5, 1, 1);
        return withText(board, text);
    }

    private void undo() {
        state("undo of a new object", TileWordBoard::new, b -> b.undo());
        state("undo of a text", () -> withText(new TileWordBoard(), "abcdefg"), b -> b.undo());
        for (int made = 1; made <= 6; made++) {
            int calls = made;
            state("one undo too many after " + made, () -> {
                TileWordBoard b = new TileWordBoard();
                for (int k = 0; k < calls; k++) {
                    b.setTile(k, k, k);
                }
                for (int k = 0; k < Math.min(calls, 4); k++) {
                    b.undo();
                }
                return withText(b, "ha");
            }, b -> b.undo());
        }
    }
}
