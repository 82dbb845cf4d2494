/**
 * Promise by promise, the arguments and states at the edge of what is allowed: the last values
 * inside each range, the empty and the full text, dictionary, rack, board and list of saved
 * states; what each call saves, and what it leaves alone. What is beyond the edges is looked at
 * in RefusedCallsTests.
 */
public final class EdgeTests extends BoardChecks {
    private static final int SQUARES = 49;

    public static void main(String[] arguments) {
        EdgeTests tests = new EdgeTests();
        tests.newObject();
        tests.type();
        tests.clearText();
        tests.addWord();
        tests.addWordThatIsThere();
        tests.lookUp();
        tests.setLetter();
        tests.setPremium();
        tests.setRack();
        tests.setTile();
        tests.tileAt();
        tests.onRack();
        tests.score();
        tests.crossSet();
        tests.anchors();
        tests.isAnchor();
        tests.check();
        tests.play();
        tests.plays();
        tests.playAt();
        tests.bestPlay();
        tests.playBest();
        tests.endgame();
        tests.undo();
        tests.digestOfTheEmptyObject();
        tests.digestOfTheFullObject();
        tests.checks.close("EdgeTests");
    }

    /** After the first undoable calls of a list of seven: so many states were saved. */
    private static TileWordBoard after(int calls, String text) {
        TileWordBoard board = calls > 0 ? board("ab") : new TileWordBoard();
        if (calls > 1) {
            rack(board, 0, "aabbh");
        }
        if (calls > 2) {
            board.setLetter(0, 4, -7);
        }
        if (calls > 3) {
            board.setPremium(3, 4, 2);
        }
        if (calls > 4) {
            rack(board, 1, "bg");
        }
        if (calls > 5) {
            board.setTile(3, 3, 0);
        }
        if (calls > 6) {
            text(board, "bab");
            board.addWord();
        }
        return withText(board, text);
    }

    private static TileWordBoard fullBoard(TileWordBoard board) {
        for (int square = 0; square < SQUARES; square++) {
            board.setTile(square / 7, square % 7, square % 8);
        }
        return board;
    }

    private static String word(int number) {
        return "" + (char) ('a' + number / 8) + (char) ('a' + number % 8);
    }

    /** The first words of all words with two letters, added from both ends to the middle. */
    private static TileWordBoard words(int count, String text) {
        TileWordBoard board = new TileWordBoard();
        for (int k = 0; k < count; k++) {
            text(board, word(k % 2 == 0 ? k / 2 : count - 1 - k / 2));
            board.addWord();
        }
        return withText(board, text);
    }

    private void newObject() {
        long digest = new TileWordBoard().digest();
        TileWordBoard used = after(6, "ab");
        used.play(0, 1, 3, 3);
        TileWordBoard fresh = new TileWordBoard();
        checks.due("a new object beside a used one", digest, () -> fresh.digest());
        for (int letter = 0; letter < 8; letter++) {
            int l = letter;
            checks.due("leave value of letter " + l + " at first", 2, () -> {
                TileWordBoard b = board("ab");
                rack(b, 0, "ab" + (char) ('a' + l));
                return b.playAt(0, 0, 5);
            });
        }
    }

    private void type() {
        for (int letter = 0; letter < 8; letter++) {
            int l = letter;
            checks.due("type(" + l + ") as first", 1, () -> new TileWordBoard().type(l));
            checks.due("type(" + l + ") as seventh", 7, () -> after(6, "abcdef").type(l));
        }
        checks.due("type saves nothing", 0, () -> {
            TileWordBoard b = after(1, "abcdefg");
            return b.undo();
        });
        checks.due("the letters stand in their order", 0, () -> {
            TileWordBoard b = board("hgfedca");
            text(b, "hgfedc");
            b.type(0);
            return b.lookUp();
        });
    }

    private void clearText() {
        String letters = "habcdeg";
        for (int length = 0; length <= 7; length++) {
            String text = letters.substring(0, length);
            for (int calls : new int[] {0, 6}) {
                TileWordBoard b = after(calls, text);
                checks.due("clearText of " + text, length, () -> b.clearText());
                checks.due("all else stays", states(after(calls, "")).toString(),
                        states(b).toString());
            }
        }
    }

    private void addWord() {
        for (int calls = 0; calls <= 6; calls++) {
            int made = calls;
            int count = calls == 0 ? 1 : 2;
            for (String text : new String[] {"aa", "hh", "aaaaaaa", "hhhhhhh", "abcdefg"}) {
                saves("addWord of " + text + " after " + made, count, () -> after(made, text),
                        b -> b.addWord());
            }
        }
        for (int count = 1; count <= 30; count++) {
            int due = count;
            TileWordBoard b = words(due - 1, word(due - 1));
            checks.due("addWord to " + (due - 1), due, () -> b.addWord());
            checks.due("the text is empty then", 0, () -> b.clearText());
            for (int k = 0; k < due; k++) {
                int number = k;
                checks.due("number of " + word(k), number, () -> number(b, word(number)));
            }
        }
    }

    private void addWordThatIsThere() {
        for (int count : new int[] {1, 2, 29}) {
            for (int k : new int[] {0, count - 1}) {
                saves("addWord of number " + k + " of " + count, count,
                        () -> words(count, word(k)), b -> b.addWord());
            }
            TileWordBoard b = words(count, word(0));
            b.addWord();
            checks.due("the text is empty then", 0, () -> b.clearText());
            checks.due("the words stay", count - 1, () -> number(b, word(count - 1)));
        }
    }

    private void lookUp() {
        for (String text : new String[] {"", "a", "ab", "abcdefg"}) {
            reads("lookUp in no words", NONE, () -> withText(new TileWordBoard(), text),
                    b -> b.lookUp());
        }
        for (String text : new String[] {"", "a", "b", "h", "aba", "ba", "aa", "abababa"}) {
            reads("lookUp of " + text + " beside ab", NONE, () -> after(6, text),
                    b -> b.lookUp());
        }
        reads("lookUp of the only word", 0, () -> after(6, "ab"), b -> b.lookUp());
        reads("lookUp of the first of 30", 0, () -> words(30, "aa"), b -> b.lookUp());
        reads("lookUp of the last of 30", 29, () -> words(30, "df"), b -> b.lookUp());
        reads("lookUp of the next one", NONE, () -> words(30, "dg"), b -> b.lookUp());
        reads("lookUp of a beginning of all", NONE, () -> words(30, "d"), b -> b.lookUp());
    }

    private void setLetter() {
        for (int letter = 0; letter < 8; letter++) {
            int l = letter;
            for (int calls : new int[] {0, 1, 2, 3, 4, 5}) {
                int previous = l == 0 && calls > 2 ? 4 : 1;
                for (int value : new int[] {1, 10}) {
                    for (int leave : new int[] {-20, 0, 20}) {
                        saves("setLetter(" + l + ", " + value + ", " + leave + ")", previous,
                                () -> after(calls, "abc"), b -> b.setLetter(l, value, leave));
                    }
                }
            }
        }
        TileWordBoard b = board("ab");
        rack(b, 0, "abh");
        for (int value = 1; value <= 10; value++) {
            int v = value;
            checks.due("previous value", Math.max(1, v - 1), () -> b.setLetter(0, v, 20));
            checks.due("value " + v + " counts", v + 1, () -> b.playAt(0, 0, 4));
        }
        for (int leave = -20; leave <= 20; leave++) {
            int l = leave;
            checks.due("the value, not the leave value", 1, () -> b.setLetter(7, 1, l));
            checks.due("leave value " + l + " counts", 11 + l, () -> b.playAt(0, 0, 5));
        }
        checks.due("the text stays", 3, () -> {
            TileWordBoard c = after(6, "abc");
            c.setLetter(0, 1, 1);
            return c.clearText();
        });
    }

    private void setPremium() {
        for (int square = 0; square < SQUARES; square++) {
            int s = square;
            TileWordBoard b = new TileWordBoard();
            for (int premium = 0; premium <= 4; premium++) {
                int p = premium;
                checks.due("previous premium", Math.max(0, p - 1),
                        () -> b.setPremium(s / 7, s % 7, p));
                b.undo();
                checks.due("premium undone", Math.max(0, p - 1),
                        () -> b.setPremium(s / 7, s % 7, p));
            }
            for (int other = 0; other < SQUARES; other++) {
                int o = other;
                checks.due("premium of a square alone", o == s ? 4 : 0,
                        () -> b.setPremium(o / 7, o % 7, 0));
            }
        }
        for (int calls = 0; calls <= 6; calls++) {
            int made = calls;
            for (int premium = 0; premium <= 4; premium++) {
                int p = premium;
                saves("setPremium to " + p, made > 3 ? 2 : 0, () -> after(made, "abc"),
                        b -> b.setPremium(3, 4, p));
                saves("setPremium to " + p, 0, () -> after(made, ""),
                        b -> b.setPremium(6, 6, p));
            }
        }
    }

    private void setRack() {
        for (int calls = 0; calls <= 6; calls++) {
            int made = calls;
            for (int length = 0; length <= 5; length++) {
                String tiles = "hahha".substring(0, length);
                for (int player = 0; player < 2; player++) {
                    int p = player;
                    saves("setRack(" + p + ") of " + tiles, length, () -> after(made, tiles),
                            b -> b.setRack(p));
                    TileWordBoard b = after(made, tiles);
                    int otherB = b.onRack(1 - p, 1);
                    b.setRack(p);
                    checks.due("the text is empty", 0, () -> b.clearText());
                    int[] due = {length < 2 ? 0 : length < 5 ? 1 : 2,
                        length == 0 ? 0 : length < 3 ? 1 : length < 4 ? 2 : 3};
                    checks.due("a of " + tiles, due[0], () -> b.onRack(p, 0));
                    checks.due("b of " + tiles, 0, () -> b.onRack(p, 1));
                    checks.due("h of " + tiles, due[1], () -> b.onRack(p, 7));
                    checks.due("the other rack stays", otherB, () -> b.onRack(1 - p, 1));
                }
            }
        }
        saves("setRack of the same rack", 5, () -> after(6, "hbbaa"), b -> b.setRack(0));
        saves("setRack of no tiles to an empty rack", 0, TileWordBoard::new, b -> b.setRack(1));
    }

    private void setTile() {
        for (int square = 0; square < SQUARES; square++) {
            int s = square;
            TileWordBoard b = new TileWordBoard();
            for (int letter = NONE; letter <= 7; letter++) {
                int l = letter;
                checks.due("previous tile", Math.max(NONE, l - 1),
                        () -> b.setTile(s / 7, s % 7, l));
                checks.due("the tile", l, () -> b.tileAt(s / 7, s % 7));
            }
            for (int other = 0; other < SQUARES; other++) {
                int o = other;
                checks.due("a tile alone", o == s ? 7 : NONE, () -> b.tileAt(o / 7, o % 7));
            }
            checks.due("taken away", 7, () -> b.setTile(s / 7, s % 7, NONE));
            checks.due("all is empty", 1, () -> b.anchors());
        }
        for (int calls = 0; calls <= 6; calls++) {
            int made = calls;
            for (int letter : new int[] {NONE, 0, 7}) {
                int l = letter;
                saves("setTile of " + l, made > 5 ? 0 : NONE, () -> after(made, "abc"),
                        b -> b.setTile(3, 3, l));
                saves("setTile of " + l, NONE, () -> after(made, ""), b -> b.setTile(0, 0, l));
                saves("setTile of " + l, NONE, () -> after(made, "a"), b -> b.setTile(6, 6, l));
            }
        }
        TileWordBoard c = new TileWordBoard();
        c.setPremium(3, 3, 4);
        c.setTile(3, 3, 0);
        checks.due("the premium stays under a tile", 4, () -> c.setPremium(3, 3, 3));
        c.setTile(3, 3, NONE);
        checks.due("and when it is taken away", 3, () -> c.setPremium(3, 3, 3));
        TileWordBoard b = after(6, "abc");
        b.setTile(3, 3, 7);
        checks.due("the text stays", 3, () -> b.clearText());
        checks.due("outside of the game: no points", 0, () -> b.score(0) + b.score(1));
        checks.due("outside of the game: no tile of a rack", 1, () -> b.onRack(0, 7));
    }

    private void tileAt() {
        for (int[] at : new int[][] {{0, 0}, {0, 6}, {6, 0}, {6, 6}, {3, 3}}) {
            int tile = (at[0] * 7 + at[1]) % 8;
            reads("tileAt in an empty board", NONE, () -> after(5, "ab"),
                    b -> b.tileAt(at[0], at[1]));
            reads("tileAt in a full board", tile, () -> fullBoard(after(5, "ab")),
                    b -> b.tileAt(at[0], at[1]));
        }
        TileWordBoard b = fullBoard(new TileWordBoard());
        for (int square = 0; square < SQUARES; square++) {
            int s = square;
            checks.due("tileAt " + s, s % 8, () -> b.tileAt(s / 7, s % 7));
        }
    }

    private void onRack() {
        for (int letter = 0; letter < 8; letter++) {
            int l = letter;
            for (int player = 0; player < 2; player++) {
                int p = player;
                reads("onRack of an empty rack", 0, TileWordBoard::new, b -> b.onRack(p, l));
                for (int count = 0; count <= 5; count++) {
                    TileWordBoard b = new TileWordBoard();
                    for (int k = 0; k < count; k++) {
                        b.type(l);
                    }
                    b.setRack(p);
                    checks.due("onRack of " + count, count, () -> b.onRack(p, l));
                    checks.due("onRack of another letter", 0, () -> b.onRack(p, (l + 1) % 8));
                    checks.due("onRack of another letter", 0, () -> b.onRack(p, (l + 7) % 8));
                    checks.due("onRack of the other rack", 0, () -> b.onRack(1 - p, l));
                }
            }
        }
        reads("onRack", 2, () -> after(6, "ab"), b -> b.onRack(0, 1));
        reads("onRack", 1, () -> after(6, "ab"), b -> b.onRack(1, 6));
    }

    private void score() {
        reads("score of player 0 at first", 0, TileWordBoard::new, b -> b.score(0));
        reads("score of player 1 at first", 0, TileWordBoard::new, b -> b.score(1));
        Setup game = () -> {
            TileWordBoard b = after(6, "ab");
            b.play(0, 1, 3, 3);
            text(b, "ab");
            b.play(1, 0, 3, 3);
            return withText(b, "abc");
        };
        reads("score of player 0 then", 5, game, b -> b.score(0));
        reads("score of player 1 then, b on a threefold square", 7, game, b -> b.score(1));
        TileWordBoard most = board("hhhhhhh");
        most.setLetter(7, 10, 0);
        for (int column = 0; column < 7; column++) {
            most.setPremium(3, column, 4);
        }
        row(most, 3, 0, "hh");
        rack(most, 1, "hhhhh");
        text(most, "hhhhhhh");
        checks.due("seven of 10, five times threefold, and 20", 70 * 243 + 20,
                () -> most.play(1, 0, 3, 0));
        checks.due("the score of it", 70 * 243 + 20, () -> most.score(1));
        checks.due("none for the other player", 0, () -> most.score(0));
    }

    private void crossSet() {
        for (int direction = 0; direction < 2; direction++) {
            int d = direction;
            for (int[] at : new int[][] {{0, 0}, {0, 6}, {6, 0}, {6, 6}}) {
                reads("crossSet in a corner of an empty board", 255, () -> after(5, "ab"),
                        b -> b.crossSet(at[0], at[1], d));
                reads("crossSet in a corner of a full board", 0,
                        () -> fullBoard(after(5, "ab")), b -> b.crossSet(at[0], at[1], d));
            }
            TileWordBoard b = fullBoard(new TileWordBoard());
            b.setTile(3, 3, NONE);
            checks.due("the last empty square, no words", 0, () -> b.crossSet(3, 3, d));
            text(b, d == 0 ? "dcbhgfe" : "fghbbcd");
            int letter = d == 0 ? 7 : 1;
            fillIn(b, d, letter);
            b.addWord();
            checks.due("the last empty square of a line", 1 << letter,
                    () -> b.crossSet(3, 3, d));
        }
    }

    /** Types the word that the given letter makes on the centre of a full board. */
    private static void fillIn(TileWordBoard board, int direction, int letter) {
        board.clearText();
        for (int k = 0; k < 7; k++) {
            int tile = direction == 0 ? board.tileAt(k, 3) : board.tileAt(3, k);
            board.type(k == 3 ? letter : tile);
        }
    }

    private void anchors() {
        reads("anchors of a new object", 1, TileWordBoard::new, b -> b.anchors());
        reads("anchors of an empty board", 1, () -> after(5, "ab"), b -> b.anchors());
        reads("anchors of a full board", 0, () -> fullBoard(after(5, "ab")), b -> b.anchors());
        for (int square = 0; square < SQUARES; square++) {
            int row = square / 7;
            int column = square % 7;
            int edges = (row % 6 == 0 ? 1 : 0) + (column % 6 == 0 ? 1 : 0);
            TileWordBoard b = new TileWordBoard();
            b.setTile(row, column, square % 8);
            checks.due("anchors of one tile", 4 - edges, () -> b.anchors());
            b.setTile(row, column, NONE);
            checks.due("anchors when it is taken away", 1, () -> b.anchors());
            TileWordBoard c = fullBoard(new TileWordBoard());
            c.setTile(row, column, NONE);
            checks.due("anchors of one empty square", 1, () -> c.anchors());
            checks.due("it is the one", 1, () -> c.isAnchor(row, column) ? 1 : 0);
        }
    }

    private void isAnchor() {
        for (int tile = 0; tile < SQUARES; tile++) {
            TileWordBoard b = new TileWordBoard();
            b.setTile(tile / 7, tile % 7, 0);
            for (int square = 0; square < SQUARES; square++) {
                int s = square;
                int apart = Math.abs(tile / 7 - s / 7) + Math.abs(tile % 7 - s % 7);
                checks.due("isAnchor of " + s + " with a tile on " + tile, apart == 1 ? 1 : 0,
                        () -> b.isAnchor(s / 7, s % 7) ? 1 : 0);
            }
        }
        for (int square = 0; square < SQUARES; square++) {
            int s = square;
            reads("isAnchor in an empty board", s == 24 ? 1 : 0, TileWordBoard::new,
                    b -> b.isAnchor(s / 7, s % 7) ? 1 : 0);
            reads("isAnchor in a full board", 0, () -> fullBoard(new TileWordBoard()),
                    b -> b.isAnchor(s / 7, s % 7) ? 1 : 0);
        }
    }

    private void check() {
        reads("check in a new object", 1, TileWordBoard::new, b -> b.check(0, 0, 0, 0));
        reads("check in a new object", 1, TileWordBoard::new, b -> b.check(1, 1, 6, 6));
        reads("check without words", 1, () -> after(0, "ab"), b -> b.check(0, 1, 3, 3));
        reads("check without a text", 1, () -> after(6, ""), b -> b.check(0, 1, 3, 3));
        reads("check of a good play", 0, () -> after(6, "ab"), b -> b.check(0, 1, 3, 3));
        reads("check with an empty rack", 6, () -> after(4, "ab"), b -> b.check(1, 1, 3, 3));
        reads("check of a line of a full board", 5, () -> fullBoard(board("abcdefg")),
                b -> {
                    text(b, "abcdefg");
                    int reason = b.check(0, 0, 0, 0);
                    b.clearText();
                    return reason;
                });
        for (int number = 0; number < 30; number++) {
            int n = number;
            TileWordBoard b = words(30, word(n));
            b.setRack(1);
            text(b, word(n));
            checks.due("check of number " + n + " of 30", 0, () -> b.check(1, 0, 3, 3));
        }
    }

    private void play() {
        for (int calls = 2; calls <= 7; calls++) {
            int made = calls;
            int a = made > 2 ? 4 : 1;
            int b3 = made > 3 ? 3 : 1;
            saves("play after " + made + " saved states", a + b3, () -> after(made, "ab"),
                    b -> b.play(0, 0, 3, 3));
            TileWordBoard b = after(made, "ab");
            b.play(0, 0, 3, 3);
            checks.due("the text is empty", 0, () -> b.clearText());
            checks.due("tiles of the rack", made > 5 ? 2 : 1, () -> b.onRack(0, 0));
            checks.due("tiles of the rack", 1, () -> b.onRack(0, 1));
            checks.due("tiles of the rack", 1, () -> b.onRack(0, 7));
        }
        TileWordBoard c = after(5, "ab");
        c.play(0, 0, 3, 3);
        checks.due("the premium stays under a new tile", 2, () -> c.setPremium(3, 4, 2));
        c.setTile(3, 4, NONE);
        text(c, "ab");
        checks.due("it counts for the next tile again", 4 + 3, () -> c.play(0, 0, 3, 3));
        for (int player = 0; player < 2; player++) {
            int p = player;
            TileWordBoard b = board("ab");
            b.setTile(0, 0, 0);
            b.setTile(6, 6, 1);
            rack(b, p, "bbaa");
            int[][] corners = {{0, 0, 0}, {1, 0, 0}, {0, 6, 5}, {1, 5, 6}};
            for (int[] start : corners) {
                text(b, "ab");
                checks.due("play in a corner", 2, () -> b.play(p, start[0], start[1], start[2]));
            }
            checks.due("the rack is empty", 0, () -> b.onRack(p, 0) + b.onRack(p, 1));
            checks.due("four plays", 8, () -> b.score(p));
            text(b, "ab");
            checks.state("no tile is left", () -> b.play(p, 0, 3, 3));
        }
    }

    private void plays() {
        for (int player = 0; player < 2; player++) {
            int p = player;
            reads("plays in a new object", 0, TileWordBoard::new, b -> b.plays(p));
            reads("plays without words", 0, () -> {
                TileWordBoard b = new TileWordBoard();
                rack(b, p, "aaaaa");
                return b;
            }, b -> b.plays(p));
            reads("plays with an empty rack", 0, () -> after(1, "ab"), b -> b.plays(p));
            reads("plays on a full board", 0, () -> fullBoard(after(7, "ab")), b -> b.plays(p));
        }
        reads("plays, the first move", 4, () -> after(5, ""), b -> b.plays(0));
        TileWordBoard b = words(30, "dgggg");
        b.setRack(0);
        checks.due("dg is not one of 30", 0, () -> b.plays(0));
        rack(b, 0, "df");
        checks.due("df, the last of 30, in four places", 4, () -> b.plays(0));
        checks.due("its number", 29, () -> b.playAt(0, 3, 3));
    }

    private void playAt() {
        int[] first = {0, 3, 2, 0, 5, -2};
        int[] last = {1, 3, 3, 0, 5, -2};
        for (int what = 0; what <= 5; what++) {
            int w = what;
            reads("the first play, " + w, first[w], () -> after(4, "hgfedcb"),
                    b -> b.playAt(0, 0, w));
            reads("the last play, " + w, last[w], () -> after(4, ""), b -> b.playAt(0, 3, w));
        }
        TileWordBoard b = words(30, "df");
        b.setRack(1);
        for (int index = 0; index < 4; index++) {
            int i = index;
            checks.due("the last word of 30", 29, () -> b.playAt(1, i, 3));
        }
    }

    private void bestPlay() {
        for (int player = 0; player < 2; player++) {
            int p = player;
            reads("bestPlay of a new object", NONE, TileWordBoard::new, b -> b.bestPlay(p));
            reads("bestPlay with an empty rack", NONE, () -> after(1, "ab"), b -> b.bestPlay(p));
        }
        reads("bestPlay of equal ones", 0, () -> after(3, "ab"), b -> b.bestPlay(0));
        reads("bestPlay is the second", 1, () -> after(4, "ab"), b -> b.bestPlay(0));
        reads("bestPlay is the last", 3, () -> {
            TileWordBoard b = after(4, "ab");
            b.setPremium(4, 3, 3);
            return b;
        }, b -> b.bestPlay(0));
        reads("bestPlay is the only one", 0, () -> {
            TileWordBoard b = board("ab");
            b.setTile(6, 5, 0);
            rack(b, 1, "b");
            return b;
        }, b -> b.bestPlay(1));
    }

    private void playBest() {
        for (int calls = 2; calls <= 7; calls++) {
            int made = calls;
            int[] due = {2, 5, 7, 7, 14, 15};
            for (String text : new String[] {"", "hg", "abcdefg"}) {
                saves("playBest after " + made + " saved states", due[made - 2],
                        () -> after(made, text), b -> b.playBest(0));
                TileWordBoard b = after(made, text);
                b.playBest(0);
                checks.due("the text stays", text.length(), () -> b.clearText());
                checks.due("the score", due[made - 2], () -> b.score(0));
            }
        }
    }

    private void endgame() {
        for (int player = 0; player < 2; player++) {
            int p = player;
            reads("endgame of a new object", 0, TileWordBoard::new, b -> b.endgame(p));
            for (String text : new String[] {"", "abcdefg"}) {
                reads("endgame with an empty rack", p == 0 ? -22 : 22, () -> after(3, text),
                        b -> b.endgame(p));
            }
        }
        reads("endgame of 400 positions", 9, () -> {
            TileWordBoard b = board("ba", "cba");
            rack(b, 0, "bac");
            rack(b, 1, "ba");
            b.setTile(5, 4, 1);
            return withText(b, "bac");
        }, b -> b.endgame(0));
    }

    private void undo() {
        for (int calls = 1; calls <= 7; calls++) {
            TileWordBoard b = after(calls, "hg");
            for (int back = 1; back <= Math.min(4, calls); back++) {
                int remain = Math.min(4, calls) - back;
                checks.due("undo " + back + " of " + calls, remain, () -> b.undo());
                checks.due("the state from before", states(after(calls - back, "hg")).get(0),
                        () -> b.digest() - remain);
            }
            checks.due("the text stays", 2, () -> b.clearText());
            checks.state("no saved state is left", () -> b.undo());
        }
        TileWordBoard b = after(7, "");
        for (int k = 0; k < 20; k++) {
            b.undo();
            b.setTile(k % 7, 0, 0);
            checks.due("a place is free again", 3, () -> b.undo());
            b.setTile(k % 7, 1, 0);
            b.setTile(k % 7, 2, 0);
        }
        checks.due("still at most four", 3, () -> b.undo());
    }

    private void digestOfTheEmptyObject() {
        long h = hash(2803, 0);
        for (int letter = 0; letter < 8; letter++) {
            h = hash(h, 1, 0);
        }
        h = hash(h, 0);
        for (int square = 0; square < SQUARES; square++) {
            h = hash(h, NONE, 0);
        }
        for (int player = 0; player < 2; player++) {
            h = hash(h, 0, 0, 0, 0, 0, 0, 0, 0, 0, 0);
        }
        reads("digest of a new object", hash(h, 1, 0), TileWordBoard::new, b -> b.digest());
    }

    /**
     * Seven letters, 30 words, one empty square, on which a tile makes a word both ways, five
     * tiles on each rack, four saved states.
     */
    private void digestOfTheFullObject() {
        TileWordBoard b = words(28, "");
        long h = hash(2803, 7, 7, 6, 5, 4, 3, 2, 1);
        for (int letter = 0; letter < 8; letter++) {
            int leave = letter % 2 == 0 ? -20 : 20;
            b.setLetter(letter, 10, leave);
            h = hash(h, 10, leave);
        }
        h = hash(h, 30);
        for (int number = 0; number < 28; number++) {
            h = hash(h, 2, number / 8, number % 8);
            h = number == 1 ? hash(h, 7, 0, 1, 2, 3, 4, 5, 6) : h;
            h = number == 8 ? hash(h, 7, 1, 0, 7, 6, 5, 4, 3) : h;
        }
        text(b, "bahgfed");
        b.addWord();
        text(b, "abcdefg");
        b.addWord();
        for (int square = 0; square < SQUARES; square++) {
            int tile = square == 1 ? NONE : square % 8;
            b.setTile(square / 7, square % 7, tile);
            b.setPremium(square / 7, square % 7, square % 5);
            h = hash(h, tile, square % 5);
        }
        rack(b, 0, "hhhhh");
        rack(b, 1, "abcde");
        h = hash(h, 0, 0, 0, 0, 0, 0, 0, 5, 0, 0);
        h = hash(h, 1, 1, 1, 1, 1, 0, 0, 0, 0, 2);
        text(b, "hgfedcb");
        long due = hash(h, 1, 4);
        checks.due("digest of a full object", due, () -> b.digest());
    }
}
